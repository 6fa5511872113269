/-! The reference's erase, dropLayer, and what rules use. -/
/-- the top layer goes: what comes down, up to cell k -/
def rdrl (μ : mm_M) (t b : Int) (k : Int) : mm_M := fun x j =>
  if x = 137 ∧ t ≤ j ∧ j < t + k then 0
  else if b ≠ 0 ∧ x = 137 ∧ t - 216 ≤ j ∧ j < t - 216 + k ∧ μ 137 (j + 216) ≠ 0 then 1
  else if b ≠ 0 ∧ x = 138 ∧ t - 216 ≤ j ∧ j < t - 216 + k ∧ μ 137 (j + 216) ≠ 0 then μ 138 (j + 216) else μ x j
section RE2
variable {d : Nat} {Q : am_Ou → am_G → Prop} {w : mm_Z} {μ : mm_M} {X : mm_X} {n : mm_N} {c e m l k v : Int}
theorem c_176 (hq : mm_P w) (hrt : rt_a μ) (hg : rg_r μ) (hr : rh_r μ) (hc : rc_r μ) (h1 : -2147483648 ≤ l) (h2 : l ≤ 2147483647) : am_C (d + 4) 176 [.ref 129, .int (Int32.ofInt (l))] (mm_hp w μ X n) Q ↔ if ¬ ((0 ≤ l ∧ l < μ 129 8) ∧ 0 ≤ rhere μ) then Q (.inl (some (.int (Int32.ofInt (0))))) (mm_hp w (mm_u μ 129 0 1) X n) else if μ 137 (216 * l + rhere μ) = 0 then Q (.inl (some (.int (Int32.ofInt (0))))) (mm_hp w (mm_u μ 129 0 0) X n) else Q (.inl (some (.int (Int32.ofInt (1))))) (mm_hp w (rchg (rnewE (mm_u μ 129 0 0) l) (rhere μ) 0 0) X n) := by
  have hb := rhere_b hc
  have hl := hg.1
  have w1 : rwhy 0 1 1 = 1 := by decide
  have w2 : rwhy 1 1 1 = 0 := by decide
  rw [en_176 (d := d + 3), b_176_0 hq, c_186 (d := d + 2) hq hrt hc, bk_v, b_176_4 hq, c_193 (d := d + 2) h1 h2 hq hl, bk_v, b_176_11 hq]
  have s0 : am_E (d + 3) 176 Q (23, [some (.ref 129), some (.int (Int32.ofInt (l))), some (.int (Int32.ofInt (rhere μ)))], [.int (Int32.ofInt (0)), .ref 129], mm_hp w μ X n) ↔ Q (.inl (some (.int (Int32.ofInt (0))))) (mm_hp w (mm_u μ 129 0 1) X n) := by
    rw [b_176_23 hq, d_185 (d := d + 2) hq (Or.inl rfl) (Or.inr rfl) (Or.inr rfl), bk_v, b_176_28 hq, w1, if_pos (by decide)]
  by_cases a : 0 ≤ l ∧ l < μ 129 8
  · rw [if_pos a, if_neg (by decide)]
    by_cases b : rhere μ < 0
    · rw [if_pos (by rw [mm_ltx, mm_wv (by omega) (by omega), mm_wv (by omega) (by omega)]; exact b), b_176_22 hq, s0, if_pos (show ¬ ((0 ≤ l ∧ l < μ 129 8) ∧ 0 ≤ rhere μ) by omega)]
    · rw [if_neg (by rw [mm_ltx, mm_wv (by omega) (by omega), mm_wv (by omega) (by omega)]; exact b), b_176_23 hq, d_185 (d := d + 2) hq (Or.inr rfl) (Or.inr rfl) (Or.inr rfl), bk_v, b_176_28 hq, w2, if_neg (by decide), if_neg (show ¬ ¬ ((0 ≤ l ∧ l < μ 129 8) ∧ 0 ≤ rhere μ) by omega)]
      have h137 := (hg.2 (216 * l + rhere μ) (by omega) (by omega)).1
      have hg0 : rg_r (mm_u μ 129 0 0) := rth_rg (k := 0) hg
      have hr0 : rh_r (mm_u μ 129 0 0) := rth_rh (k := 0) hr
      have hh := rnE_h (l := l) hr0 (by omega)
      simp (disch := omega) only [and_self, true_and, mm_ltx, mm_lex, mm_eqx, mm_wv, mm_gd, ↓reduceIte, Int.reduceAdd, Int.reduceSub, Int.reduceNeg, Int.reduceLE, Int.reduceLT, Int.reduceMul, Int.reduceEq, mm_uu (show (137 : Nat) ≠ 129 by decide)]
      by_cases z : μ 137 (216 * l + rhere μ) = 0
      · rw [if_pos z, if_pos z]
      · rw [if_neg z, if_neg z, c_209 (d := d + 2) hq hr0, bk_n, b_176_53 hq, c_163 (d := d + 2) hq hh.1 (rnE_g hg0) (by omega) (by decide) hh.2.1 (by rw [hh.2.2]; decide), bk_n, b_176_60 hq]
  · rw [if_neg a, if_pos rfl, b_176_22 hq, s0, if_pos (show ¬ ((0 ≤ l ∧ l < μ 129 8) ∧ 0 ≤ rhere μ) from fun q => a q.1)]
theorem c_202 (hq : mm_P w) (hg : rg_r μ) (hc : 0 ≤ c ∧ c < 216) (l0 : -1 ≤ l) (l1 : l < 3) : am_C (d + 2) 202 [.ref 129, .int (Int32.ofInt (c)), .int (Int32.ofInt (l))] (mm_hp w μ X n) Q ↔ Q (.inl (some (.long (Int64.ofInt (if 0 ≤ rlay μ c (l + 1).toNat then μ 138 (216 * rlay μ c (l + 1).toNat + c) else 0))))) (mm_hp w μ X n) := by
  have hlb : ∀ k : Nat, k ≤ 3 → -1 ≤ rlay μ c k ∧ rlay μ c k < 3 := by
    intro k
    induction k with
    | zero => intro _; exact ⟨Int.le_refl (-1), show (-1 : Int) < 3 by decide⟩
    | succ k ih =>
      intro hk
      unfold rlay
      have := ih (by omega)
      split <;> omega
  have hb := hlb (l + 1).toNat (by omega)
  rw [en_202 (d := d + 1), b_202_0 hq, c_189 (d := d) hq hc.1 hc.2 l0 l1 (fun j j0 j1 => (hg.2 j j0 j1).1), bk_v, b_202_6 hq]
  by_cases a : 0 ≤ rlay μ c (l + 1).toNat
  · have h138 := (hg.2 (216 * rlay μ c (l + 1).toNat + c) (by omega) (by omega)).2
    rw [if_pos (by rw [mm_lex, mm_wv (by omega) (by omega), mm_wv (by omega) (by omega)]; exact a), if_pos a]
    simp (disch := omega) only [and_self, true_and, mm_ltx, mm_lex, mm_eqx, mm_wv, mm_gd, ↓reduceIte, Int.reduceAdd, Int.reduceSub, Int.reduceNeg, Int.reduceLE, Int.reduceLT, Int.reduceMul, Int.reduceEq]
  · rw [if_neg (by rw [mm_lex, mm_wv (by omega) (by omega), mm_wv (by omega) (by omega)]; exact a), if_neg a]
end RE2
