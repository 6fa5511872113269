/-! The class's calls. -/
/-- an exception of kind k -/
def mm_thr (Q : am_Ou → am_G → Prop) (w : mm_Z) (μ : mm_M) (X : mm_X) (n : mm_N) (k : Nat) : Prop := (1 ≤ n.2.1 ∧ 6 ≤ n.2.2) ∧ Q (.inr (k, n.1)) (mm_hp w μ X (mm_th n))
def ccell (μ : mm_M) : Int := μ 128 0 * mm_span 0 + μ 128 1 * mm_span 1 + μ 128 2 * mm_span 2
def cc_r (μ : mm_M) : Prop := ∀ e, 0 ≤ e → e < 3 → 0 ≤ μ 128 e ∧ μ 128 e < 6
/-- history is forgotten -/
def chf (μ : mm_M) : mm_M := mm_u (mm_u μ 107 4 0) 107 5 0
section CA
variable {d : Nat} {Q : am_Ou → am_G → Prop} {w : mm_Z} {μ : mm_M} {X : mm_X} {n : mm_N} {c e m l k : Int}
theorem ccell_b (hc : cc_r μ) : 0 ≤ ccell μ ∧ ccell μ < 216 := by
  have a0 := hc 0 (by decide) (by decide)
  have a1 := hc 1 (by decide) (by decide)
  have a2 := hc 2 (by decide) (by decide)
  show 0 ≤ μ 128 0 * 36 + μ 128 1 * 6 + μ 128 2 * 1 ∧ μ 128 0 * 36 + μ 128 1 * 6 + μ 128 2 * 1 < 216
  omega
theorem c_29 (hq : mm_P w) : am_C (d + 1) 29 [.ref 32] (mm_hp w μ X n) Q ↔ Q (.inl (some (.int (Int32.ofInt (ccell μ))))) (mm_hp w μ X n) := by
  rw [en_29, b_29_0 hq]
  simp (disch := omega) only [and_self, true_and, mm_ltx, mm_lex, mm_eqx, mm_wv, mm_gd, ↓reduceIte, Int.reduceAdd, Int.reduceSub, Int.reduceNeg, Int.reduceLE, Int.reduceLT, Int.reduceMul, Int.reduceEq, if_pos, if_neg]
  rfl
theorem c_26 (hq : mm_P w) (ht : ct_a μ) (hg : cg_r μ) (hc : cc_r μ) (h1 : -2147483648 ≤ l) (h2 : l ≤ 2147483647) : am_C (d + 3) 26 [.ref 32, .int (Int32.ofInt (l))] (mm_hp w μ X n) Q ↔ Q (.inl (some (.int (Int32.ofInt (if (0 ≤ l ∧ l < μ 95 1) ∧ (μ (mm_tr 0 + 1) (μ 128 0) ≠ -2 ∧ μ (mm_tr 1 + 1) (μ 128 1) ≠ -2 ∧ μ (mm_tr 2 + 1) (μ 128 2) ≠ -2) then 1 else 0))))) (mm_hp w μ X n) := by
  rw [en_26 (d := d + 2), b_26_0 hq, c_79 (d := d + 1) hq h1 h2 hg, bk_v, b_26_8 hq]
  by_cases g : 0 ≤ l ∧ l < μ 95 1
  · rw [if_pos g, if_neg (by decide), c_127 (d := d) hq ht hc, bk_v, b_26_22 hq]
    by_cases g2 : (μ (mm_tr 0 + 1) (μ 128 0) ≠ -2 ∧ μ (mm_tr 1 + 1) (μ 128 1) ≠ -2 ∧ μ (mm_tr 2 + 1) (μ 128 2) ≠ -2)
    · rw [if_pos g2, if_neg (by decide), if_pos ⟨g, g2⟩]
    · rw [if_neg g2, if_pos rfl, if_neg (fun q => g2 q.2)]
  · rw [if_neg g, if_pos rfl, if_neg (fun q => g q.1)]
theorem c_25 (hq : mm_P w) (h1 : -2147483648 ≤ e) (h2 : e ≤ 2147483647) (g1 : -2147483648 ≤ m) (g2 : m ≤ 2147483647) : am_C (d + 1) 25 [.ref 32, .int (Int32.ofInt (e)), .int (Int32.ofInt (m))] (mm_hp w μ X n) Q ↔ if ¬ (0 ≤ e ∧ e < 3) then mm_thr Q w μ X n 0 else if ¬ (0 ≤ m ∧ m ≤ 5) then mm_thr Q w μ X n 1 else Q (.inl (some (.int (Int32.ofInt (μ 128 e))))) (mm_hp w (mm_u μ 128 e m) X n) := by
  rw [en_25, b_25_0 hq, b_25_9 hq, b_25_27 hq]
  by_cases a : 0 ≤ e ∧ e < 3
  · by_cases b : 0 ≤ m ∧ m ≤ 5
    · rw [if_neg (show ¬ ¬ (0 ≤ e ∧ e < 3) from fun q => q a), if_neg (show ¬ ¬ (0 ≤ m ∧ m ≤ 5) from fun q => q b)]
      simp (disch := omega) only [and_self, true_and, mm_ltx, mm_lex, mm_eqx, mm_wv, mm_gd, ↓reduceIte, Int.reduceAdd, Int.reduceSub, Int.reduceNeg, Int.reduceLE, Int.reduceLT, Int.reduceMul, Int.reduceEq, if_pos, if_neg]
    · rw [if_neg (show ¬ ¬ (0 ≤ e ∧ e < 3) from fun q => q a), if_pos (show ¬ (0 ≤ m ∧ m ≤ 5) from b)]
      by_cases b2 : m < 0
      · simp (disch := omega) only [and_self, true_and, mm_ltx, mm_lex, mm_eqx, mm_wv, mm_gd, ↓reduceIte, Int.reduceAdd, Int.reduceSub, Int.reduceNeg, Int.reduceLE, Int.reduceLT, Int.reduceMul, Int.reduceEq, if_pos, if_neg]
        rfl
      · simp (disch := omega) only [and_self, true_and, mm_ltx, mm_lex, mm_eqx, mm_wv, mm_gd, ↓reduceIte, Int.reduceAdd, Int.reduceSub, Int.reduceNeg, Int.reduceLE, Int.reduceLT, Int.reduceMul, Int.reduceEq, if_pos, if_neg]
        rfl
  · rw [if_pos (show ¬ (0 ≤ e ∧ e < 3) from a)]
    by_cases a2 : e < 0
    · simp (disch := omega) only [and_self, true_and, mm_ltx, mm_lex, mm_eqx, mm_wv, mm_gd, ↓reduceIte, Int.reduceAdd, Int.reduceSub, Int.reduceNeg, Int.reduceLE, Int.reduceLT, Int.reduceMul, Int.reduceEq, if_pos, if_neg]
      rfl
    · simp (disch := omega) only [and_self, true_and, mm_ltx, mm_lex, mm_eqx, mm_wv, mm_gd, ↓reduceIte, Int.reduceAdd, Int.reduceSub, Int.reduceNeg, Int.reduceLE, Int.reduceLT, Int.reduceMul, Int.reduceEq, if_pos, if_neg]
      rfl
theorem c_35 (hq : mm_P w) (g1 : -2147483648 ≤ m) (g2 : m ≤ 2147483647) : am_C (d + 1) 35 [.ref 32, .int (Int32.ofInt (m))] (mm_hp w μ X n) Q ↔ if ¬ (1 ≤ m ∧ m ≤ 2000) then mm_thr Q w μ X n 1 else Q (.inl (some (.int (Int32.ofInt (μ 122 8))))) (mm_hp w (mm_u μ 122 8 m) X n) := by
  rw [en_35, b_35_0 hq, b_35_12 hq]
  by_cases a : m < 1
  · rw [if_pos (show ¬ (1 ≤ m ∧ m ≤ 2000) by omega)]
    simp (disch := omega) only [and_self, true_and, mm_ltx, mm_lex, mm_eqx, mm_wv, mm_gd, ↓reduceIte, Int.reduceAdd, Int.reduceSub, Int.reduceNeg, Int.reduceLE, Int.reduceLT, Int.reduceMul, Int.reduceEq, if_pos, if_neg]
    rfl
  · by_cases b : m ≤ 2000
    · rw [if_neg (show ¬ ¬ (1 ≤ m ∧ m ≤ 2000) by omega)]
      simp (disch := omega) only [and_self, true_and, mm_ltx, mm_lex, mm_eqx, mm_wv, mm_gd, ↓reduceIte, Int.reduceAdd, Int.reduceSub, Int.reduceNeg, Int.reduceLE, Int.reduceLT, Int.reduceMul, Int.reduceEq, if_pos, if_neg]
    · rw [if_pos (show ¬ (1 ≤ m ∧ m ≤ 2000) by omega)]
      simp (disch := omega) only [and_self, true_and, mm_ltx, mm_lex, mm_eqx, mm_wv, mm_gd, ↓reduceIte, Int.reduceAdd, Int.reduceSub, Int.reduceNeg, Int.reduceLE, Int.reduceLT, Int.reduceMul, Int.reduceEq, if_pos, if_neg]
      rfl
theorem c_46 (hq : mm_P w) : am_C (d + 1) 46 [.ref 32] (mm_hp w μ X n) Q ↔ Q (.inl (some (.int (Int32.ofInt (μ 122 9))))) (mm_hp w μ X n) := by
  rw [en_46, b_46_0 hq]
theorem c_36 (hq : mm_P w) (hg : cg_r μ) : am_C (d + 3) 36 [.ref 32] (mm_hp w μ X n) Q ↔ if ¬ μ 95 1 < 3 then mm_thr Q w μ X n 2 else Q (.inl (some (.int (Int32.ofInt (μ 95 1))))) (mm_hp w (mm_u (mm_fi (chf μ) (mm_inr (μ 95 1)) 216 (-2147483648)) 95 1 (μ 95 1 + 1)) X n) := by
  have hl := hg.1
  rw [en_36 (d := d + 2), b_36_0 hq]
  by_cases a : μ 95 1 < 3
  · have e95 : chf μ 95 = μ 95 := by unfold chf; rw [mm_uu (by decide), mm_uu (by decide)]
    have hg2 : cg_r (chf μ) := by
      refine ⟨by rw [e95]; exact hl, fun l j h0 h1 g0 g1 => ?_⟩
      have hb : mm_inr l ≠ 107 := by unfold mm_inr; split; decide; split <;> decide
      unfold chf
      rw [mm_uu hb, mm_uu hb]
      exact hg.2 l j h0 h1 g0 g1
    rw [if_pos (by rw [mm_ltx, mm_wv (by omega) (by omega), mm_wv (by omega) (by omega)]; exact a), if_neg (fun q => q a), c_86 (d := d + 1) hq, bk_n, b_36_26 hq]
    have := c_80 (d := d) (μ := chf μ) (X := X) (n := n) (Q := am_bk 36 30 [some (.ref 32)] [] (am_E (d + 2) 36 Q) Q) hq hg2 (by rw [e95]; exact a)
    rw [e95] at this
    refine Iff.trans this ?_
    rw [bk_v, b_36_33 hq]
  · rw [if_neg (by rw [mm_ltx, mm_wv (by omega) (by omega), mm_wv (by omega) (by omega)]; exact a), if_pos a]
    rfl
theorem c_50 (hq : mm_P w) (ht : ct_a μ) (hr : cr_r μ) (hc : cc_r μ) : am_C (d + 4) 50 [.ref 32] (mm_hp w μ X n) Q ↔ if ¬ (μ (mm_tr 0 + 1) (μ 128 0) ≠ -2 ∧ μ (mm_tr 1 + 1) (μ 128 1) ≠ -2 ∧ μ (mm_tr 2 + 1) (μ 128 2) ≠ -2) then mm_thr Q w μ X n 0 else Q (.inl (some (.int (Int32.ofInt ((cbest μ (ccell μ) (μ 53 1).toNat).1))))) (mm_hp w μ X n) := by
  have hb := ccell_b hc
  rw [en_50 (d := d + 3), b_50_0 hq, c_127 (d := d + 1) hq ht hc, bk_v, b_50_11 hq]
  by_cases g2 : (μ (mm_tr 0 + 1) (μ 128 0) ≠ -2 ∧ μ (mm_tr 1 + 1) (μ 128 1) ≠ -2 ∧ μ (mm_tr 2 + 1) (μ 128 2) ≠ -2)
  · rw [if_pos g2, if_neg (by decide), if_neg (fun q => q g2), c_29 (d := d + 2) hq, bk_v, b_50_34 hq, c_120 (d := d) hq ht hr hb.1 hb.2, bk_v, b_50_37 hq]
  · rw [if_neg g2, if_pos rfl, if_pos g2]
    rfl
theorem c_48 (hq : mm_P w) (hr : ch_r μ) : am_C (d + 3) 48 [.ref 32] (mm_hp w μ X n) Q ↔ if μ 107 4 = 0 then mm_thr Q w μ X n 2 else Q (.inl (some (.int (Int32.ofInt (mm_sw (mm_u (mm_u μ 107 4 (μ 107 4 - 1)) 107 5 (μ 107 5 + 1)) (mm_inr (μ 121 ((μ 107 3 + (μ 107 4 - 1)) % 12))) (mm_row ((μ 107 3 + (μ 107 4 - 1)) % 12)) 216 107 4))))) (mm_hp w (mm_sw (mm_u (mm_u μ 107 4 (μ 107 4 - 1)) 107 5 (μ 107 5 + 1)) (mm_inr (μ 121 ((μ 107 3 + (μ 107 4 - 1)) % 12))) (mm_row ((μ 107 3 + (μ 107 4 - 1)) % 12)) 216) X n) := by
  have h4 : 0 ≤ μ 107 4 ∧ μ 107 4 ≤ 12 := by unfold ch_r at hr; omega
  rw [en_48 (d := d + 2), b_48_0 hq]
  by_cases a : μ 107 4 = 0
  · rw [if_pos (by rw [a]), if_pos a]
    rfl
  · rw [if_neg (by rw [mm_eqx, mm_wv (by omega) (by omega), mm_wv (by omega) (by omega)]; exact a), if_neg a, c_88 (d := d) hq hr (by omega), bk_n, b_48_25 hq]
theorem c_41 (hq : mm_P w) (hr : ch_r μ) : am_C (d + 3) 41 [.ref 32] (mm_hp w μ X n) Q ↔ if μ 107 5 = 0 then mm_thr Q w μ X n 2 else Q (.inl (some (.int (Int32.ofInt (mm_u (mm_u (mm_sw μ (mm_inr (μ 121 ((μ 107 3 + μ 107 4) % 12))) (mm_row ((μ 107 3 + μ 107 4) % 12)) 216) 107 4 (μ 107 4 + 1)) 107 5 (μ 107 5 - 1) 107 5))))) (mm_hp w (mm_u (mm_u (mm_sw μ (mm_inr (μ 121 ((μ 107 3 + μ 107 4) % 12))) (mm_row ((μ 107 3 + μ 107 4) % 12)) 216) 107 4 (μ 107 4 + 1)) 107 5 (μ 107 5 - 1)) X n) := by
  have h4 : 0 ≤ μ 107 5 ∧ μ 107 5 ≤ 12 := by unfold ch_r at hr; omega
  rw [en_41 (d := d + 2), b_41_0 hq]
  by_cases a : μ 107 5 = 0
  · rw [if_pos (by rw [a]), if_pos a]
    rfl
  · rw [if_neg (by rw [mm_eqx, mm_wv (by omega) (by omega), mm_wv (by omega) (by omega)]; exact a), if_neg a, c_89 (d := d) hq hr (by omega), bk_n, b_41_25 hq]
end CA
