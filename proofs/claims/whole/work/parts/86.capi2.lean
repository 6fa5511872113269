/-! More calls of the class. -/
def chk (μ : mm_M) (l : Int) : mm_M := if μ 107 4 = 12 then ch_keep μ l ((μ 107 3 + 1) % 12) 11 else ch_keep μ l (μ 107 3) (μ 107 4)
section CB
variable {d : Nat} {Q : am_Ou → am_G → Prop} {w : mm_Z} {μ : mm_M} {X : mm_X} {n : mm_N} {c e m l k v : Int}
theorem chf_o {b : Nat} (h : b ≠ 107) : chf μ b = μ b := by
  unfold chf
  rw [mm_uu h, mm_uu h]
theorem c_24 (hq : mm_P w) (ht : ct_a μ) (h1 : -2147483648 ≤ e) (h2 : e ≤ 2147483647) (g1 : -2147483648 ≤ m) (g2 : m ≤ 2147483647) (k1 : -2147483648 ≤ k) (k2 : k ≤ 2147483647) : am_C (d + 3) 24 [.ref 32, .int (Int32.ofInt (e)), .int (Int32.ofInt (m)), .int (Int32.ofInt (k))] (mm_hp w μ X n) Q ↔ if ¬ (0 ≤ e ∧ e < 3 ∧ 0 ≤ m ∧ m < 6 ∧ μ (mm_tr e + 1) m ≠ -2) then mm_thr Q w μ X n 0 else if k = 0 then Q (.inl (some (.int (Int32.ofInt (μ (mm_tr e + 1) m))))) (mm_hp w μ X n) else if k = 1 then Q (.inl (some (.int (Int32.ofInt (μ (mm_tr e + 2) m))))) (mm_hp w μ X n) else if k = 2 then Q (.inl (some (.int (Int32.ofInt (μ (mm_tr e + 3) m))))) (mm_hp w μ X n) else if k = 3 then Q (.inl (some (.int (Int32.ofInt (μ (mm_tr e + 4) m))))) (mm_hp w μ X n) else mm_thr Q w μ X n 1 := by
  rw [en_24 (d := d + 2), b_24_0 hq, c_126 (d := d) hq h1 h2 g1 g2 ht, bk_v, b_24_9 hq]
  by_cases a : 0 ≤ e ∧ e < 3 ∧ 0 ≤ m ∧ m < 6 ∧ μ (mm_tr e + 1) m ≠ -2
  · rw [if_pos a, if_neg (by decide), if_neg (show ¬ ¬ (0 ≤ e ∧ e < 3 ∧ 0 ≤ m ∧ m < 6 ∧ μ (mm_tr e + 1) m ≠ -2) from fun q => q a), mm_wv (z := k) k1 k2, mm_wv (z := e) h1 h2, mm_wv (z := m) g1 g2]
    simp (disch := omega) only [mm_gd]
    rfl
  · rw [if_neg a, if_pos rfl, if_pos a]
    rfl
theorem c_27 (hq : mm_P w) (hg : cg_r μ) (k1 : -2147483648 ≤ k) (k2 : k ≤ 2147483647) : am_C (d + 2) 27 [.ref 32, .int (Int32.ofInt (k))] (mm_hp w μ X n) Q ↔ if 0 ≤ k ∧ k < 3 then Q (.inl (some (.int (Int32.ofInt (μ (mm_tr k) 6))))) (mm_hp w μ X n) else if k = 3 then Q (.inl (some (.int (Int32.ofInt (μ 53 1))))) (mm_hp w μ X n) else if k = 4 then Q (.inl (some (.int (Int32.ofInt (μ 95 1))))) (mm_hp w μ X n) else if k = 5 then Q (.inl (some (.int (Int32.ofInt (cgall μ (μ 95 1).toNat))))) (mm_hp w μ X n) else if k = 6 then Q (.inl (some (.int (Int32.ofInt (μ 107 4))))) (mm_hp w μ X n) else if k = 7 then Q (.inl (some (.int (Int32.ofInt (μ 107 5))))) (mm_hp w μ X n) else if k = 8 then Q (.inl (some (.int (Int32.ofInt (μ 100 1))))) (mm_hp w μ X n) else mm_thr Q w μ X n 1 := by
  rw [en_27 (d := d + 1), b_27_0 hq, mm_wv (z := k) k1 k2, c_78 (d := d) hq hg, bk_v, b_27_88 hq]
  by_cases a0 : k = 0
  · rw [if_pos a0, if_pos (by omega), mm_gd (by omega)]
  · by_cases a1 : k = 1
    · rw [if_neg a0, if_pos a1, if_pos (by omega), mm_gd (by omega)]
    · by_cases a2 : k = 2
      · rw [if_neg a0, if_neg a1, if_pos a2, if_pos (by omega), mm_gd (by omega)]
      · rw [if_neg a0, if_neg a1, if_neg a2, if_neg (show ¬ (0 ≤ k ∧ k < 3) by omega)]
        rfl
theorem c_31 (hq : mm_P w) (hg : cg_r μ) {b : Int} (hb : b = 0 ∨ b = 1) : am_C (d + 2) 31 [.ref 32, .int (Int32.ofInt (b))] (mm_hp w μ X n) Q ↔ if ¬ 1 < μ 95 1 then mm_thr Q w μ X n 2 else Q (.inl (some (.int (Int32.ofInt (cn (cgot (μ (mm_inr (μ 95 1 - 1)))) 216))))) (mm_hp w (mm_u (if b = 0 then chf μ else mm_mg (chf μ) (mm_inr (μ 95 1 - 1 - 1)) (mm_inr (μ 95 1 - 1)) 216) 95 1 (μ 95 1 - 1)) X n) := by
  have hl := hg.1
  have hg2 : cg_r (chf μ) := ⟨by rw [chf_o (by decide)]; exact hl, fun l j h0 h1 g0 g1 => by have := mm_inr_b (z := l); rw [chf_o (by omega)]; exact hg.2 l j h0 h1 g0 g1⟩
  rw [en_31 (d := d + 1), b_31_0 hq]
  by_cases a : 1 < μ 95 1
  · rw [if_pos (by rw [mm_ltx, mm_wv (by omega) (by omega), mm_wv (by omega) (by omega)]; exact a), if_neg (show ¬ ¬ 1 < μ 95 1 from fun q => q a), c_86 (d := d) hq, bk_n, b_31_26 hq]
    have := c_81 (d := d) (μ := chf μ) (X := X) (n := n) (Q := am_bk 31 31 [some (.ref 32), some (.int (Int32.ofInt (b)))] [] (am_E (d + 1) 31 Q) Q) hq hg2 hb (by rw [chf_o (by decide)]; exact a)
    have hi := mm_inr_b (z := μ 95 1 - 1)
    rw [chf_o (b := 95) (by decide), chf_o (b := mm_inr (μ 95 1 - 1)) (by omega)] at this
    refine Iff.trans this ?_
    rw [bk_v, b_31_34 hq]
  · rw [if_neg (by rw [mm_ltx, mm_wv (by omega) (by omega), mm_wv (by omega) (by omega)]; exact a), if_pos (show ¬ 1 < μ 95 1 from a)]
    rfl
theorem c_33 (hq : mm_P w) (ht : ct_a μ) (hg : cg_r μ) (hc : cc_r μ) (hr : ch_r μ) (h1 : -2147483648 ≤ l) (h2 : l ≤ 2147483647) : am_C (d + 4) 33 [.ref 32, .int (Int32.ofInt (l))] (mm_hp w μ X n) Q ↔ if ¬ ((0 ≤ l ∧ l < μ 95 1) ∧ (μ (mm_tr 0 + 1) (μ 128 0) ≠ -2 ∧ μ (mm_tr 1 + 1) (μ 128 1) ≠ -2 ∧ μ (mm_tr 2 + 1) (μ 128 2) ≠ -2)) then mm_thr Q w μ X n 0 else if μ (mm_inr l) (ccell μ) = -2147483648 then Q (.inl (some (.int (Int32.ofInt (0))))) (mm_hp w μ X n) else Q (.inl (some (.int (Int32.ofInt (1))))) (mm_hp w (mm_u (chk μ l) (mm_inr l) (ccell μ) (-2147483648)) X n) := by
  have hb := ccell_b hc
  have hl := hg.1
  rw [en_33 (d := d + 3), b_33_0 hq, c_26 (d := d) hq ht hg hc h1 h2, bk_v, b_33_5 hq]
  by_cases a : (0 ≤ l ∧ l < μ 95 1) ∧ (μ (mm_tr 0 + 1) (μ 128 0) ≠ -2 ∧ μ (mm_tr 1 + 1) (μ 128 1) ≠ -2 ∧ μ (mm_tr 2 + 1) (μ 128 2) ≠ -2)
  · have hv := hg.2 l (ccell μ) a.1.1 (by omega) hb.1 hb.2
    rw [if_pos a, if_neg (by decide), if_neg (show ¬ ¬ ((0 ≤ l ∧ l < μ 95 1) ∧ (μ (mm_tr 0 + 1) (μ 128 0) ≠ -2 ∧ μ (mm_tr 1 + 1) (μ 128 1) ≠ -2 ∧ μ (mm_tr 2 + 1) (μ 128 2) ≠ -2)) from fun q => q a), c_29 (d := d + 2) hq, bk_v, b_33_20 hq]
    simp (disch := omega) only [and_self, true_and, mm_ltx, mm_lex, mm_eqx, mm_wv, mm_gd, ↓reduceIte, Int.reduceAdd, Int.reduceSub, Int.reduceNeg, Int.reduceLE, Int.reduceLT, Int.reduceMul, Int.reduceEq]
    by_cases b : μ (mm_inr l) (ccell μ) = -2147483648
    · rw [if_pos b, if_pos b]
    · rw [if_neg b, if_neg b, c_87 (d := d + 2) hq a.1.1 (by omega) hr, bk_n, b_33_47 hq]
      simp (disch := omega) only [and_self, true_and, mm_ltx, mm_lex, mm_eqx, mm_wv, mm_gd, ↓reduceIte, Int.reduceAdd, Int.reduceSub, Int.reduceNeg, Int.reduceLE, Int.reduceLT, Int.reduceMul, Int.reduceEq]
      rfl
  · rw [if_neg a, if_pos rfl, if_pos (show ¬ ((0 ≤ l ∧ l < μ 95 1) ∧ (μ (mm_tr 0 + 1) (μ 128 0) ≠ -2 ∧ μ (mm_tr 1 + 1) (μ 128 1) ≠ -2 ∧ μ (mm_tr 2 + 1) (μ 128 2) ≠ -2)) from a)]
    rfl
theorem c_40 (hq : mm_P w) (ht : ct_a μ) (hg : cg_r μ) (hc : cc_r μ) (hr : ch_r μ) (h1 : -2147483648 ≤ l) (h2 : l ≤ 2147483647) (v1 : -2147483648 ≤ v) (v2 : v ≤ 2147483647) : am_C (d + 4) 40 [.ref 32, .int (Int32.ofInt (l)), .int (Int32.ofInt (v))] (mm_hp w μ X n) Q ↔ if ¬ ((0 ≤ l ∧ l < μ 95 1) ∧ (μ (mm_tr 0 + 1) (μ 128 0) ≠ -2 ∧ μ (mm_tr 1 + 1) (μ 128 1) ≠ -2 ∧ μ (mm_tr 2 + 1) (μ 128 2) ≠ -2)) then mm_thr Q w μ X n 0 else if ¬ (-2000000000 ≤ v ∧ v ≤ 2000000000) then mm_thr Q w μ X n 1 else if ¬ cinner μ (ccell μ) = 3 then mm_thr Q w μ X n 2 else Q (.inl none) (mm_hp w (mm_u (chk μ l) (mm_inr l) (ccell μ) v) X n) := by
  have hb := ccell_b hc
  have hl := hg.1
  rw [en_40 (d := d + 3), b_40_0 hq, c_26 (d := d) hq ht hg hc h1 h2, bk_v, b_40_5 hq]
  by_cases a : (0 ≤ l ∧ l < μ 95 1) ∧ (μ (mm_tr 0 + 1) (μ 128 0) ≠ -2 ∧ μ (mm_tr 1 + 1) (μ 128 1) ≠ -2 ∧ μ (mm_tr 2 + 1) (μ 128 2) ≠ -2)
  · rw [if_pos a, if_neg (by decide), if_neg (show ¬ ¬ ((0 ≤ l ∧ l < μ 95 1) ∧ (μ (mm_tr 0 + 1) (μ 128 0) ≠ -2 ∧ μ (mm_tr 1 + 1) (μ 128 1) ≠ -2 ∧ μ (mm_tr 2 + 1) (μ 128 2) ≠ -2)) from fun q => q a), mm_wv (z := v) v1 v2, c_54 (d := d + 2) hq (by omega) (by omega), bk_v, b_40_21 hq]
    by_cases b : -2000000000 ≤ v ∧ v ≤ 2000000000
    · rw [if_pos b, if_neg (by decide), if_neg (show ¬ ¬ (-2000000000 ≤ v ∧ v ≤ 2000000000) from fun q => q b), c_29 (d := d + 2) hq, bk_v, b_40_36 hq, c_129 (d := d) hq ht hb.1 hb.2, bk_v, b_40_45 hq]
      by_cases c3 : cinner μ (ccell μ) = 3
      · rw [if_pos c3, if_neg (by decide), if_neg (show ¬ ¬ cinner μ (ccell μ) = 3 from fun q => q c3), c_87 (d := d + 2) hq a.1.1 (by omega) hr, bk_n, b_40_64 hq]
        simp (disch := omega) only [and_self, true_and, mm_ltx, mm_lex, mm_eqx, mm_wv, mm_gd, ↓reduceIte, Int.reduceAdd, Int.reduceSub, Int.reduceNeg, Int.reduceLE, Int.reduceLT, Int.reduceMul, Int.reduceEq]
        rfl
      · rw [if_neg c3, if_pos rfl, if_pos (show ¬ cinner μ (ccell μ) = 3 from c3)]
        rfl
    · rw [if_neg b, if_pos rfl, if_pos (show ¬ (-2000000000 ≤ v ∧ v ≤ 2000000000) from b)]
      rfl
  · rw [if_neg a, if_pos rfl, if_pos (show ¬ ((0 ≤ l ∧ l < μ 95 1) ∧ (μ (mm_tr 0 + 1) (μ 128 0) ≠ -2 ∧ μ (mm_tr 1 + 1) (μ 128 1) ≠ -2 ∧ μ (mm_tr 2 + 1) (μ 128 2) ≠ -2)) from a)]
    rfl
theorem chf_tr {j : Nat} (hj : j ≤ 5) : chf μ (mm_tr e + j) = μ (mm_tr e + j) := chf_o (by have := mm_tr_b (z := e); omega)
theorem c_37 (hq : mm_P w) (ht : ct_a μ) (hw : ∀ e b, 0 ≤ e → e < 3 → μ (mm_tr e) 6 < 6 → (b = -1 ∨ (0 ≤ b ∧ b < 6 ∧ μ (mm_tr e + 1) b ≠ -2)) → fo_wf (mm_u μ (mm_tr e + 1) (sp_fr (μ (mm_tr e + 1))) b (mm_tr e + 1))) (h1 : -2147483648 ≤ e) (h2 : e ≤ 2147483647) (g1 : -2147483648 ≤ m) (g2 : m ≤ 2147483647) (k1 : -2147483648 ≤ k) (k2 : k ≤ 2147483647) : am_C (d + 11) 37 [.ref 32, .int (Int32.ofInt (e)), .int (Int32.ofInt (m)), .int (Int32.ofInt (k))] (mm_hp w μ X n) Q ↔ if ¬ ((0 ≤ e ∧ e < 3) ∧ (m = -1 ∨ (0 ≤ m ∧ m < 6 ∧ μ (mm_tr e + 1) m ≠ -2))) then mm_thr Q w μ X n 0 else if ¬ (0 ≤ k ∧ k < 5) then mm_thr Q w μ X n 1 else if ¬ μ (mm_tr e) 6 < 6 then mm_thr Q w μ X n 2 else Q (.inl (some (.int (Int32.ofInt (sp_fr (μ (mm_tr e + 1))))))) (mm_hp w (tr_arr e (mm_u (mm_u (mm_u (chf μ) (mm_tr e + 1) (sp_fr (μ (mm_tr e + 1))) m) (mm_tr e + 2) (sp_fr (μ (mm_tr e + 1))) k) (mm_tr e) 6 (μ (mm_tr e) 6 + 1))) X n) := by
  rw [en_37 (d := d + 10), b_37_0 hq, c_125 (d := d + 8) hq h1 h2 g1 g2 ht, bk_v, b_37_9 hq]
  by_cases a : (0 ≤ e ∧ e < 3) ∧ (m = -1 ∨ (0 ≤ m ∧ m < 6 ∧ μ (mm_tr e + 1) m ≠ -2))
  · rw [if_pos a, if_neg (by decide), if_neg (show ¬ ¬ ((0 ≤ e ∧ e < 3) ∧ (m = -1 ∨ (0 ≤ m ∧ m < 6 ∧ μ (mm_tr e + 1) m ≠ -2))) from fun q => q a)]
    obtain ⟨he, hm⟩ := a
    have hte := ht e he.1 he.2
    have h6 := hte.2.2
    by_cases b0 : k < 0
    · rw [if_pos (by rw [mm_ltx, mm_wv (by omega) (by omega), mm_wv (by omega) (by omega)]; exact b0), if_pos (show ¬ (0 ≤ k ∧ k < 5) by omega), b_37_29 hq]
      rfl
    · rw [if_neg (by rw [mm_ltx, mm_wv (by omega) (by omega), mm_wv (by omega) (by omega)]; exact b0)]
      by_cases b1 : k < 5
      · rw [if_pos (by rw [mm_ltx, mm_wv (by omega) (by omega), mm_wv (by omega) (by omega)]; exact b1), if_neg (show ¬ ¬ (0 ≤ k ∧ k < 5) by omega)]
        simp (disch := omega) only [and_self, true_and, mm_ltx, mm_lex, mm_eqx, mm_wv, mm_gd, ↓reduceIte, Int.reduceAdd, Int.reduceSub, Int.reduceNeg, Int.reduceLE, Int.reduceLT, Int.reduceMul, Int.reduceEq]
        by_cases c6 : μ (mm_tr e) 6 < 6
        · rw [if_pos c6, if_neg (show ¬ ¬ μ (mm_tr e) 6 < 6 from fun q => q c6), c_86 (d := d + 9) hq, bk_n, b_37_73 hq]
          have e0 : chf μ (mm_tr e) = μ (mm_tr e) := chf_tr (j := 0) (by decide)
          have e1 : chf μ (mm_tr e + 1) = μ (mm_tr e + 1) := chf_tr (j := 1) (by decide)
          have hwf := hw e m he.1 he.2 c6 hm
          have hsame : mm_u (chf μ) (mm_tr e + 1) (sp_fr (chf μ (mm_tr e + 1))) m (mm_tr e + 1) = mm_u μ (mm_tr e + 1) (sp_fr (μ (mm_tr e + 1))) m (mm_tr e + 1) := by
            rw [e1]
            funext j
            rw [mm_ux, mm_ux, e1]
          have htp : mm_tp (chf μ) e := fun j j0 j1 => by rw [e1]; exact (hte.1 j j0 j1).1
          have := c_146 (d := d) (μ := chf μ) (X := X) (n := n) (b := m) (r := k) (Q := am_bk 37 77 [some (.ref 32), some (.int (Int32.ofInt (e))), some (.int (Int32.ofInt (m))), some (.int (Int32.ofInt (k))), some (.ref (mm_tr e))] [] (am_E (d + 10) 37 Q) Q) (mm_PT (e := e) hq) htp (by rw [hsame]; exact hwf)
          rw [e0, e1] at this
          refine Iff.trans this ?_
          rw [bk_v, b_37_80 hq]
        · rw [if_neg c6, if_pos (show ¬ μ (mm_tr e) 6 < 6 from c6)]
          rfl
      · rw [if_neg (by rw [mm_ltx, mm_wv (by omega) (by omega), mm_wv (by omega) (by omega)]; exact b1), if_pos (show ¬ (0 ≤ k ∧ k < 5) by omega), b_37_29 hq]
        rfl
  · rw [if_neg a, if_pos rfl, if_pos (show ¬ ((0 ≤ e ∧ e < 3) ∧ (m = -1 ∨ (0 ≤ m ∧ m < 6 ∧ μ (mm_tr e + 1) m ≠ -2))) from a)]
    rfl
end CB
