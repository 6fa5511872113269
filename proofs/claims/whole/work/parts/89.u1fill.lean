/-! The reference counts what is filled. -/
def rleaf (μ : mm_M) : Int → Bool := fun c => decide (μ 130 (rpart c 0) ≠ 0 ∧ μ 130 (6 + rpart c 1) ≠ 0 ∧ μ 130 (12 + rpart c 2) ≠ 0 ∧ rinner μ c = -1)
def rheld (μ : mm_M) (l : Int) : Int → Bool := fun c => rleaf μ c && decide (0 ≤ rlay μ c (l + 1).toNat)
section FI
variable {d : Nat} {Q : am_Ou → am_G → Prop} {w : mm_Z} {μ : mm_M} {X : mm_X} {n : mm_N} {l : Int}
theorem cn_S {P : Int → Bool} {i : Nat} : cn P (i + 1) = cn P i + if P i = true then 1 else 0 := rfl
theorem c_178_23 (hq : mm_P w) (hrt : rt_a μ) (hg : rg_r μ) (hl : 0 ≤ l ∧ l < 3) : ∀ (k i : Nat) (e5 : Option Value), am_n2 e5 = true → i + k = 216 → ∃ e5' : Option Value, am_n2 e5' = true ∧ (am_E (d + 3) 178 Q (23, [some (.ref 129), some (.int (Int32.ofInt (l))), some (.int (Int32.ofInt (cn (rheld μ l) i))), some (.int (Int32.ofInt (cn (rleaf μ) i))), some (.int (Int32.ofInt ((i : Int)))), e5], [], mm_hp w μ X n) ↔ am_E (d + 3) 178 Q (23, [some (.ref 129), some (.int (Int32.ofInt (l))), some (.int (Int32.ofInt (cn (rheld μ l) 216))), some (.int (Int32.ofInt (cn (rleaf μ) 216))), some (.int (Int32.ofInt (216))), e5'], [], mm_hp w μ X n)) := by
  intro k
  induction k with
  | zero =>
    intro i e5 h5 hi
    have : i = 216 := by omega
    subst this
    exact ⟨e5, h5, Iff.rfl⟩
  | succ k ih =>
    intro i e5 h5 hi
    have ha := cn_b (P := rleaf μ) i
    have hh := cn_b (P := rheld μ l) i
    have p0 := rpart_b (e := 0) (c := (i : Int)) (by omega) (by omega)
    have p1 := rpart_b (e := 1) (c := (i : Int)) (by omega) (by omega)
    have p2 := rpart_b (e := 2) (c := (i : Int)) (by omega) (by omega)
    have t0 := (hrt 0 (by decide) (by decide) _ p0.1 p0.2).1
    have t1 := (hrt 1 (by decide) (by decide) _ p1.1 p1.2).1
    have t2 := (hrt 2 (by decide) (by decide) _ p2.1 p2.2).1
    rw [show (6 : Int) * 0 + rpart i 0 = rpart i 0 by omega] at t0
    rw [show (6 : Int) * 1 + rpart i 1 = 6 + rpart i 1 by omega] at t1
    rw [show (6 : Int) * 2 + rpart i 2 = 12 + rpart i 2 by omega] at t2
    have hlb : ∀ k : Nat, k ≤ 3 → -1 ≤ rlay μ i k ∧ rlay μ i k < 3 := by
      intro k
      induction k with
      | zero => intro _; exact ⟨Int.le_refl (-1), show (-1 : Int) < 3 by decide⟩
      | succ k ih =>
        intro hk
        unfold rlay
        have := ih (by omega)
        split <;> omega
    have hb := hlb (l + 1).toNat (by omega)
    obtain ⟨e1, n1, i1⟩ := ih (i + 1) (some (.int (Int32.ofInt (1)))) rfl (by omega)
    obtain ⟨e0, n0, i0⟩ := ih (i + 1) (some (.int (Int32.ofInt (0)))) rfl (by omega)
    rw [show ((i + 1 : Nat) : Int) = (i : Int) + 1 by omega] at i1 i0
    have s92 : rleaf μ i = false → (am_E (d + 3) 178 Q (92, [some (.ref 129), some (.int (Int32.ofInt (l))), some (.int (Int32.ofInt (cn (rheld μ l) i))), some (.int (Int32.ofInt (cn (rleaf μ) i))), some (.int (Int32.ofInt ((i : Int)))), e5], [], mm_hp w μ X n) ↔ am_E (d + 3) 178 Q (23, [some (.ref 129), some (.int (Int32.ofInt (l))), some (.int (Int32.ofInt (cn (rheld μ l) 216))), some (.int (Int32.ofInt (cn (rleaf μ) 216))), some (.int (Int32.ofInt (216))), e0], [], mm_hp w μ X n)) := by
      intro hf
      have hf2 : rheld μ l i = false := by unfold rheld; rw [hf, Bool.false_and]
      rw [cn_S, cn_S, hf, hf2, if_neg (by decide), Int.add_zero, Int.add_zero] at i0
      rw [b_178_92 hq h5, b_178_93 hq h5, if_pos rfl, b_178_107 hq, if_pos rfl, b_178_129 hq, b_178_130 hq]
      exact i0
    rw [b_178_23 hq h5, if_neg (by rw [mm_lex, mm_wv (by omega) (by omega), mm_wv (by omega) (by omega)]; omega), d_213 (d := d + 2) hq (by omega) (by omega) (by decide), bk_v, b_178_41 hq h5]
    simp (disch := omega) only [and_self, true_and, mm_ltx, mm_lex, mm_eqx, mm_wv, mm_gd, ↓reduceIte, Int.reduceAdd, Int.reduceSub, Int.reduceNeg, Int.reduceLE, Int.reduceLT, Int.reduceMul, Int.reduceEq]
    by_cases z0 : μ 130 (rpart i 0) = 0
    · refine ⟨e0, n0, ?_⟩
      rw [if_pos z0]
      exact s92 (decide_eq_false fun q => q.1 z0)
    · rw [if_neg z0, d_213 (d := d + 2) hq (by omega) (by omega) (by decide), bk_v, b_178_57 hq h5]
      simp (disch := omega) only [and_self, true_and, mm_ltx, mm_lex, mm_eqx, mm_wv, mm_gd, ↓reduceIte, Int.reduceAdd, Int.reduceSub, Int.reduceNeg, Int.reduceLE, Int.reduceLT, Int.reduceMul, Int.reduceEq]
      by_cases z1 : μ 130 (6 + rpart i 1) = 0
      · refine ⟨e0, n0, ?_⟩
        rw [if_pos z1]
        exact s92 (decide_eq_false fun q => q.2.1 z1)
      · rw [if_neg z1, d_213 (d := d + 2) hq (by omega) (by omega) (by decide), bk_v, b_178_74 hq h5]
        simp (disch := omega) only [and_self, true_and, mm_ltx, mm_lex, mm_eqx, mm_wv, mm_gd, ↓reduceIte, Int.reduceAdd, Int.reduceSub, Int.reduceNeg, Int.reduceLE, Int.reduceLT, Int.reduceMul, Int.reduceEq]
        by_cases z2 : μ 130 (12 + rpart i 2) = 0
        · refine ⟨e0, n0, ?_⟩
          rw [if_pos z2]
          exact s92 (decide_eq_false fun q => q.2.2.1 z2)
        · rw [if_neg z2, c_200 (d := d) hq hrt (by omega) (by omega), bk_v, b_178_85 hq h5]
          by_cases z3 : rinner μ i = -1
          · refine ⟨e1, n1, ?_⟩
            have hf : rleaf μ i = true := decide_eq_true ⟨z0, z1, z2, z3⟩
            rw [if_pos (show 0 ≤ (i : Int) ∧ rinner μ i = -1 from ⟨by omega, z3⟩), if_neg (by decide), b_178_93 hq h5, if_neg (by decide), b_178_107 hq, if_neg (by decide), c_189 (d := d + 2) hq (by omega) (by omega) (by omega) (by omega) (fun j j0 j1 => (hg.2 j j0 j1).1), bk_v, b_178_120 hq]
            rw [cn_S, cn_S, hf, if_pos rfl] at i1
            by_cases z4 : rlay μ i (l + 1).toNat < 0
            · have hf2 : rheld μ l i = false := by unfold rheld; rw [hf, decide_eq_false (by omega)]; rfl
              rw [hf2, if_neg (by decide), Int.add_zero] at i1
              rw [if_pos (by rw [mm_ltx, mm_wv (by omega) (by omega), mm_wv (by omega) (by omega)]; exact z4), b_178_129 hq, b_178_130 hq]
              exact i1
            · have hf2 : rheld μ l i = true := by unfold rheld; rw [hf, decide_eq_true (by omega)]; rfl
              rw [hf2, if_pos rfl] at i1
              rw [if_neg (by rw [mm_ltx, mm_wv (by omega) (by omega), mm_wv (by omega) (by omega)]; exact z4), b_178_130 hq]
              exact i1
          · refine ⟨e0, n0, ?_⟩
            rw [if_neg (show ¬ (0 ≤ (i : Int) ∧ rinner μ i = -1) from fun q => z3 q.2), if_pos rfl]
            exact s92 (decide_eq_false fun q => z3 q.2.2.2)
/-- the share that is answered, of a held, b in all -/
def mm_shr (Q : am_Ou → am_G → Prop) (w : mm_Z) (μ : mm_M) (X : mm_X) (n : mm_N) (a b : Int) : Prop := if b = 0 then Q (.inl (some (.float (FP.fconst0)))) (mm_hp w μ X n) else if FP.fdiv (FP.i2f (Int32.ofInt a)) (FP.i2f (Int32.ofInt b)) &&& 0x7fffffff ≤ 0x7f800000 then Q (.inl (some (.float (FP.fdiv (FP.i2f (Int32.ofInt a)) (FP.i2f (Int32.ofInt b)))))) (mm_hp w μ X n) else False
theorem c_178 (hq : mm_P w) (hrt : rt_a μ) (hg : rg_r μ) (h1 : -2147483648 ≤ l) (h2 : l ≤ 2147483647) : am_C (d + 4) 178 [.ref 129, .int (Int32.ofInt (l))] (mm_hp w μ X n) Q ↔ if ¬ (0 ≤ l ∧ l < μ 129 8) then Q (.inl (some (.float (FP.fconst0)))) (mm_hp w (rth μ 1) X n) else mm_shr Q w (rth μ 0) X n (cn (rheld (rth μ 0) l) 216) (cn (rleaf (rth μ 0)) 216) := by
  have hl := hg.1
  have w1 : rwhy 0 1 1 = 1 := by decide
  have w2 : rwhy 1 1 1 = 0 := by decide
  rw [en_178 (d := d + 3), b_178_0 hq, c_193 (d := d + 2) h1 h2 hq hl, bk_v, b_178_6 hq]
  by_cases a : 0 ≤ l ∧ l < μ 129 8
  · rw [if_pos a, d_185x (d := d + 2) hq (Or.inr rfl) (Or.inr rfl) (Or.inr rfl), bk_v, b_178_11 hq, w2, if_neg (by decide), if_neg (show ¬ ¬ (0 ≤ l ∧ l < μ 129 8) from fun q => q a)]
    obtain ⟨e5, n5, h5⟩ := c_178_23 (d := d) (Q := Q) (X := X) (n := n) hq (rth_a (k := 0) hrt) (rth_rg (k := 0) hg) (show 0 ≤ l ∧ l < 3 by omega) 216 0 none rfl (by decide)
    have ha := cn_b (P := rleaf (rth μ 0)) 216
    refine Iff.trans h5 ?_
    rw [b_178_23 hq n5, if_pos (by decide)]
    unfold mm_shr
    by_cases z : cn (rleaf (rth μ 0)) 216 = 0
    · rw [if_pos (by rw [z]), if_pos z]
    · rw [if_neg (by rw [mm_eqx, mm_wv (by omega) (by omega), mm_wv (by omega) (by omega)]; exact z), if_neg z]
  · rw [if_neg a, d_185x (d := d + 2) hq (Or.inl rfl) (Or.inr rfl) (Or.inr rfl), bk_v, b_178_11 hq, w1, if_pos (by decide), if_pos (show ¬ (0 ≤ l ∧ l < μ 129 8) from a)]
end FI
