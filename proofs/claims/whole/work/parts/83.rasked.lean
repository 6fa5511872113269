/-! The reference works a cell out. -/
def rst (μ : mm_M) (l : Int) : mm_M := mm_u (mm_u (mm_u (mm_u (mm_u (mm_u (mm_u μ 129 46 l) 129 47 0) 129 59 0) 129 49 0) 129 48 0) 129 62 1) 129 63 0
section RA
variable {d : Nat} {Q : am_Ou → am_G → Prop} {w : mm_Z} {μ0 μ μ' : mm_M} {X : mm_X} {n : mm_N} {c l e m f r : Int} {G : Int → Prop}
def rLp (d : Nat) (Q : am_Ou → am_G → Prop) (w : mm_Z) (X : mm_X) (n : mm_N) (c l : Int) (μ : mm_M) : Prop := ∀ e3, am_n2 e3 = true → am_E (d + 7) 244 Q (40, [some (.ref 129), some (.int (Int32.ofInt (c))), some (.int (Int32.ofInt (l))), e3], [], mm_hp w μ X n)
theorem rL_244 (hq : mm_P w) (hA : rA μ0) : rL μ0 (rLp d Q w X n c l) := by
  refine ⟨?_, ?_⟩
  · intro μ f g1 g6 f0 f1 g5 h167 h165 h166 h49 h59 hop a1 a6 a2 K e3 h3
    have hA1 := rA_c g1 hA
    have hn := g6.1
    have hfv := g6.2.1 f f0 (by omega)
    have e141 : μ 141 = μ0 141 := re_row g1 (by decide)
    have e142 : μ 142 = μ0 142 := re_row g1 (by decide)
    have e11 : μ 129 11 = μ0 129 11 := re_at g1 (by decide)
    have ef : μ 129 47 - 1 = f := by omega
    rw [b_244_40 hq h3]
    simp (disch := omega) only [and_self, true_and, mm_ltx, mm_lex, mm_eqx, mm_wv, mm_gd, ↓reduceIte, Int.reduceAdd, Int.reduceSub, Int.reduceNeg, Int.reduceLE, Int.reduceLT, Int.reduceMul, Int.reduceEq, if_neg, ef]
    rw [if_pos g5, if_pos h167, c_212 (d := d) hq hA1 g6 ⟨f0, f1⟩ (by rw [e11]; exact h165) (by rw [e141]; exact h166) h49 h59 hop (by rw [e141]; exact a1) (by rw [e141, e142]; exact a6) (by rw [e141, e142]; exact a2), bk_n, b_244_83 hq]
    exact K (some (.int (Int32.ofInt (f)))) rfl
  · intro μ f g1 g6 f0 f1 g5 h167 h49 h59 h170 h172 h169 K e3 h3
    have hA1 := rA_c g1 hA
    have hn := g6.1
    have hfv := g6.2.1 f f0 (by omega)
    have ef : μ 129 47 - 1 = f := by omega
    rw [b_244_40 hq h3]
    simp (disch := omega) only [and_self, true_and, mm_ltx, mm_lex, mm_eqx, mm_wv, mm_gd, ↓reduceIte, Int.reduceAdd, Int.reduceSub, Int.reduceNeg, Int.reduceLE, Int.reduceLT, Int.reduceMul, Int.reduceEq, if_neg, ef]
    rw [if_pos g5, c_233 (d := d + 1) hq hA1 g6 ⟨f0, by omega⟩ h167 h49 h59 h170 h172 (fun _ => f1) h169, bk_n, b_244_75 hq, b_244_83 hq]
    exact K (some (.int (Int32.ofInt (f)))) rfl
theorem rst_re : ∀ (b : Nat) (k : Int), ¬ (b = 129 ∧ (k = 46 ∨ k = 47 ∨ k = 48 ∨ k = 49 ∨ k = 59 ∨ k = 62 ∨ k = 63)) → rst μ l b k = μ b k := by
  intro b k h
  unfold rst
  rw [mm_ub (by omega), mm_ub (by omega), mm_ub (by omega), mm_ub (by omega), mm_ub (by omega), mm_ub (by omega), mm_ub (by omega)]
theorem c_244 (hq : mm_P w) (hA : rA (rst μ l)) (hl : rA_l (rst μ l)) (hN : ev_en (rNv (rst μ l)) G) (hc : G c)
    (hQ1 : ∀ x t', ev (rNv (rst μ l)) 20 [] c 0 = some (x, t') → ∀ μ', mm_re μ' = mm_re (rst μ l) → μ' 129 62 = x.1 → μ' 129 63 = sp_pl x.1 x.2 → μ' 129 49 = t' → Q (.inl (some (.int (Int32.ofInt (1))))) (mm_hp w (μ') X n))
    (hQ2 : ev (rNv (rst μ l)) 20 [] c 0 = none → ∀ μ', mm_re μ' = mm_re (rst μ l) → Q (.inl (some (.int (Int32.ofInt (0))))) (mm_hp w (μ') X n)) : am_C (d + 8) 244 [.ref 129, .int (Int32.ofInt (c)), .int (Int32.ofInt (l))] (mm_hp w μ X n) Q := by
  have hcb := hN.1 c hc
  have hfu := hA.2.2.2.2.2.2.1
  rw [en_244 (d := d + 7), b_244_0 hq]
  have e62 : rst μ l 129 62 = 1 := by unfold rst; rw [mm_un (by decide), mm_us]
  have e48 : rst μ l 129 48 = 0 := by unfold rst; rw [mm_un (by decide), mm_un (by decide), mm_us]
  have e49 : rst μ l 129 49 = 0 := by unfold rst; rw [mm_un (by decide), mm_un (by decide), mm_un (by decide), mm_us]
  have e59 : rst μ l 129 59 = 0 := by unfold rst; rw [mm_un (by decide), mm_un (by decide), mm_un (by decide), mm_un (by decide), mm_us]
  have e47 : rst μ l 129 47 = 0 := by unfold rst; rw [mm_un (by decide), mm_un (by decide), mm_un (by decide), mm_un (by decide), mm_un (by decide), mm_us]
  have hr : mm_u (mm_u (mm_u (mm_u (mm_u (mm_u (mm_u μ 129 46 l) 129 47 0) 129 59 0) 129 49 0) 129 48 0) 129 62 1) 129 63 0 = rst μ l := rfl
  rw [hr]
  generalize rst μ l = μ0 at *
  have hv : rfv μ0 := ⟨by omega, fun i i0 i1 => by omega, hA.2.2.2.2.1⟩
  have hS : rS μ0 μ0 0 0 0 := ⟨rfl, e47, e59, e49, e48, hv, fun j j0 j1 => by omega, by decide, by omega⟩
  have hP : rPa μ0 0 [] := fun c' => ⟨fun q => (by cases q), fun ⟨i, i0, i1, _⟩ => by omega⟩
  have hW := rW_all hA hl (rL_244 (d := d) (Q := Q) (X := X) (n := n) (c := c) (l := l) hq hA) hN 20 0 0 0 [] c μ0 (by decide) hS (by decide) hP hc
  rw [c_208 (d := d + 2) hq hA hv hcb (by omega) (by omega), bk_n]
  have key : rLp d Q w X n c l (rned μ0 c) := by
    cases hE : ev (rNv μ0) 20 [] c 0 with
    | none =>
      refine hW.2 hE fun μ' h1 h48 e3 h3 => ?_
      have s86 : am_E (d + 7) 244 Q (86, [some (.ref 129), some (.int (Int32.ofInt (c))), some (.int (Int32.ofInt (l))), e3], [], mm_hp w μ' X n) := by
        rw [b_244_86 hq h3, if_neg (by rw [h48.1]; decide)]
        exact hQ2 hE μ' h1
      rw [b_244_40 hq h3]
      split
      · exact s86
      · rw [if_neg (by rw [h48.1]; decide)]
        exact s86
    | some z =>
      obtain ⟨x, t'⟩ := z
      refine hW.1 x t' hE fun μ' h1 h2 h62 h63 e3 h3 => ?_
      obtain ⟨g1, g2, g3, g4, g5, g6, g7, g8⟩ := id h1
      have hrd : rdel μ' = μ' := by
        rw [rdel_k (by omega) (Or.inl g2)]
        unfold rdl1
        rw [if_pos (by omega)]
      rw [hrd, b_244_40 hq h3, if_pos (by rw [g2]; decide), b_244_86 hq h3, if_pos (by rw [g5])]
      exact hQ1 x t' hE μ' g1 h62 h63 g4
  exact key none rfl
/-- what the reference answers where it is asked: 0, or why not -/
theorem c_159 (hq : mm_P w) (hrt : rt_a μ) (hv : (0 ≤ l ∧ l < μ 129 8) → rA (rst μ l) ∧ rA_l (rst μ l) ∧ ev_en (rNv (rst μ l)) G) (hi : -2147483648 ≤ l ∧ l ≤ 2147483647) (h8 : 1 ≤ μ 129 8 ∧ μ 129 8 ≤ 3) (hcur : ∀ e, 0 ≤ e → e < 3 → 0 ≤ μ 136 e ∧ μ 136 e < 6) (hG : 0 ≤ rhere μ → G (rhere μ))
    (hQ0 : ¬ (0 ≤ l ∧ l < μ 129 8) ∨ rhere μ < 0 → Q (.inl (some (.int (Int32.ofInt (0))))) (mm_hp w (mm_u μ 129 0 1) X n))
    (hQ1 : (0 ≤ l ∧ l < μ 129 8) → 0 ≤ rhere μ → ∀ x t', ev (rNv (rst μ l)) 20 [] (rhere μ) 0 = some (x, t') → ∀ μ', mm_re μ' = mm_re (rst μ l) → μ' 129 62 = x.1 → μ' 129 63 = sp_pl x.1 x.2 → μ' 129 49 = t' → Q (.inl (some (.int (Int32.ofInt (1))))) (mm_hp w (mm_u (mm_u μ' 129 0 0) 129 64 t') X n))
    (hQ2 : (0 ≤ l ∧ l < μ 129 8) → 0 ≤ rhere μ → ev (rNv (rst μ l)) 20 [] (rhere μ) 0 = none → ∀ μ', mm_re μ' = mm_re (rst μ l) → Q (.inl (some (.int (Int32.ofInt (0))))) (mm_hp w (mm_u μ' 129 0 2) X n)) : am_C (d + 9) 159 [.ref 129, .int (Int32.ofInt (l))] (mm_hp w μ X n) Q := by
  have hhb : -1 ≤ rhere μ ∧ rhere μ < 216 := by
    have a0 := hcur 0 (by decide) (by decide)
    have a1 := hcur 1 (by decide) (by decide)
    have a2 := hcur 2 (by decide) (by decide)
    unfold rhere
    split <;> omega
  have e0 : ∀ μ' : mm_M, mm_re μ' = mm_re (rst μ l) → μ' 129 0 = μ' 129 0 := fun _ _ => rfl
  have s41 : ∀ x2 x3 : Int, (x2 = 0 ∨ x2 = 1) → (x3 = 0 ∨ x3 = 1) → ∀ μ' : mm_M, (if x2 = 0 then Q (.inl (some (.int (Int32.ofInt (0))))) (mm_hp w (mm_u μ' 129 0 1) X n) else if x3 = 0 then Q (.inl (some (.int (Int32.ofInt (0))))) (mm_hp w (mm_u μ' 129 0 2) X n) else Q (.inl (some (.int (Int32.ofInt (1))))) (mm_hp w (mm_u (mm_u μ' 129 0 0) 129 64 (μ' 129 49)) X n)) → am_E (d + 8) 159 Q (42, [some (.ref 129), some (.int (Int32.ofInt (l))), some (.int (Int32.ofInt (x2))), none], [.int (Int32.ofInt (x3))], mm_hp w μ' X n) := by
    intro x2 x3 h2 h3 μ' hQ
    rw [b_159_42 hq, d_185 (d := d + 7) hq h2 h3 (by decide), bk_v, b_159_50 hq]
    rcases h2 with rfl | rfl
    · rw [if_pos rfl] at hQ
      exact hQ
    · rw [if_neg (by decide)] at hQ
      rcases h3 with rfl | rfl
      · rw [if_pos rfl] at hQ
        exact hQ
      · rw [if_neg (by decide)] at hQ
        have hw : rwhy 1 1 1 = 0 := by decide
        rw [hw, if_pos rfl, if_neg (by decide), mm_un (by decide)]
        exact hQ
  rw [en_159 (d := d + 8), b_159_0 hq, c_193 (d := d + 7) hi.1 hi.2 hq h8, bk_v, b_159_5 hq]
  by_cases hl2 : 0 ≤ l ∧ l < μ 129 8
  · rw [if_pos hl2, if_neg (by decide), c_186 (d := d + 7) hq hrt hcur, bk_v, b_159_12 hq]
    by_cases hh : rhere μ < 0
    · rw [if_pos (by rw [mm_ltx, mm_wv (by omega) (by omega), mm_wv (by decide) (by decide)]; exact hh), b_159_19 hq, b_159_20 hq, if_pos rfl, b_159_41 hq]
      exact s41 0 0 (Or.inl rfl) (Or.inl rfl) μ (by rw [if_pos rfl]; exact hQ0 (Or.inr hh))
    · rw [if_neg (by rw [mm_ltx, mm_wv (by omega) (by omega), mm_wv (by decide) (by decide)]; exact hh), b_159_20 hq, if_neg (by decide), c_186 (d := d + 7) hq hrt hcur, bk_v, b_159_30 hq]
      refine c_244 hq (hv hl2).1 (hv hl2).2.1 (hv hl2).2.2 (hG (by omega)) ?_ ?_
      · intro x t' hE μ' h1 h2 h3 h4
        rw [bk_v, b_159_34 hq, if_neg (by decide)]
        refine s41 1 1 (Or.inr rfl) (Or.inr rfl) μ' ?_
        rw [if_neg (by decide), if_neg (by decide), h4]
        exact hQ1 hl2 (by omega) x t' hE μ' h1 h2 h3 h4
      · intro hE μ' h1
        rw [bk_v, b_159_34 hq, if_pos rfl, b_159_41 hq]
        refine s41 1 0 (Or.inr rfl) (Or.inl rfl) μ' ?_
        rw [if_neg (by decide), if_pos rfl]
        exact hQ2 hl2 (by omega) hE μ' h1
  · rw [if_neg hl2, if_pos rfl, b_159_19 hq, b_159_20 hq, if_pos rfl, b_159_41 hq]
    exact s41 0 0 (Or.inl rfl) (Or.inl rfl) μ (by rw [if_pos rfl]; exact hQ0 (Or.inl hl2))
end RA
