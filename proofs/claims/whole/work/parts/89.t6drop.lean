/-! The class drops a member. -/
def cdr1 (μ : mm_M) (e m : Int) : mm_M := tr_arr e (mm_u (mm_u (chf μ) (mm_tr e + 1) m (-2)) (mm_tr e) 6 (μ (mm_tr e) 6 - 1))
def cdr2 (μ : mm_M) (e m : Int) : mm_M := if μ 104 e = m then mm_u (mm_u (cdr1 μ e m) 103 e 0) 104 e 0 else cdr1 μ e m
section DR
variable {d : Nat} {Q : am_Ou → am_G → Prop} {w : mm_Z} {μ : mm_M} {X : mm_X} {n : mm_N} {e m : Int}
theorem cdr1_o {b : Nat} (hw : fo_wf (mm_u μ (mm_tr e + 1) m (-2) (mm_tr e + 1))) (hb : b < mm_tr e ∨ mm_tr e + 5 < b) (h7 : b ≠ 107) : cdr1 μ e m b = μ b := by
  have e1 : chf μ (mm_tr e + 1) = μ (mm_tr e + 1) := chf_tr (j := 1) (by decide)
  have hsame : mm_u (mm_u (chf μ) (mm_tr e + 1) m (-2)) (mm_tr e) 6 (μ (mm_tr e) 6 - 1) (mm_tr e + 1) = mm_u μ (mm_tr e + 1) m (-2) (mm_tr e + 1) := by
    funext j
    rw [mm_uu (by omega), mm_ux, mm_ux, e1]
  unfold cdr1
  rw [tr_arr_row (by rw [hsame]; exact hw) (by omega) (by omega) (by omega) (by omega), mm_uu (by omega), mm_uu (by omega), chf_o h7]
theorem c_30 (hq : mm_P w) (ht : ct_a μ) (hg : cg_r μ) (hf : cf_r μ) (hr : cr_r μ) (hd : ∀ e, 0 ≤ e → e < 3 → -2147483648 ≤ μ 104 e ∧ μ 104 e ≤ 2147483647) (hw : (0 ≤ e ∧ e < 3 ∧ 0 ≤ m ∧ m < 6 ∧ μ (mm_tr e + 1) m ≠ -2) → μ (mm_tr e + 4) m ≠ -1 → fo_wf (mm_u μ (mm_tr e + 1) m (-2) (mm_tr e + 1))) (h1 : -2147483648 ≤ e) (h2 : e ≤ 2147483647) (g1 : -2147483648 ≤ m) (g2 : m ≤ 2147483647) : am_C (d + 11) 30 [.ref 32, .int (Int32.ofInt (e)), .int (Int32.ofInt (m))] (mm_hp w μ X n) Q ↔ if ¬ (0 ≤ e ∧ e < 3 ∧ 0 ≤ m ∧ m < 6 ∧ μ (mm_tr e + 1) m ≠ -2) then mm_thr Q w μ X n 0 else if ¬ (μ (mm_tr e + 4) m ≠ -1 ∧ crns μ e m (μ 53 1).toNat 0 = false) then mm_thr Q w μ X n 2 else Q (.inl (some (.int (Int32.ofInt (cwall (cdr2 μ e m) e m (μ 95 1).toNat))))) (mm_hp w (mm_wp (cdr2 μ e m) e m (μ 95 1) 0) X n) := by
  rw [en_30 (d := d + 10), b_30_0 hq, c_126 (d := d + 8) hq h1 h2 g1 g2 ht, bk_v, b_30_9 hq]
  by_cases a : (0 ≤ e ∧ e < 3 ∧ 0 ≤ m ∧ m < 6 ∧ μ (mm_tr e + 1) m ≠ -2)
  · obtain ⟨a1, a2, a3, a4, a5⟩ := id a
    have hte := ht e a1 a2
    have htb := mm_tr_b (z := e)
    rw [if_pos a, if_neg (by decide), if_neg (show ¬ ¬ (0 ≤ e ∧ e < 3 ∧ 0 ≤ m ∧ m < 6 ∧ μ (mm_tr e + 1) m ≠ -2) from fun q => q a)]
    simp (disch := omega) only [and_self, true_and, mm_ltx, mm_lex, mm_eqx, mm_wv, mm_gd, ↓reduceIte, Int.reduceAdd, Int.reduceSub, Int.reduceNeg, Int.reduceLE, Int.reduceLT, Int.reduceMul, Int.reduceEq]
    rw [c_150 (d := d + 9) (mm_PT (e := e) hq) a3 a4 hte, bk_v, b_30_35 hq]
    by_cases l : μ (mm_tr e + 4) m = -1
    · rw [if_pos l, if_pos rfl, if_pos (show ¬ (μ (mm_tr e + 4) m ≠ -1 ∧ crns μ e m (μ 53 1).toNat 0 = false) from fun q => q.1 l), b_30_50 hq]
      rfl
    · rw [if_neg l, if_neg (by decide), c_122 (d := d + 7) hq hf hr ⟨a1, a2⟩ ⟨a3, a4⟩, bk_v, b_30_47 hq]
      by_cases r : crns μ e m (μ 53 1).toNat 0 = true
      · rw [if_pos r, if_neg (by decide), if_pos (show ¬ (μ (mm_tr e + 4) m ≠ -1 ∧ crns μ e m (μ 53 1).toNat 0 = false) from fun q => by rw [r] at q; exact absurd q.2 (by decide)), b_30_50 hq]
        rfl
      · have r2 : crns μ e m (μ 53 1).toNat 0 = false := by revert r; cases crns μ e m (μ 53 1).toNat 0 <;> simp
        rw [if_neg r, if_pos rfl, if_neg (show ¬ ¬ (μ (mm_tr e + 4) m ≠ -1 ∧ crns μ e m (μ 53 1).toNat 0 = false) from fun q => q ⟨l, r2⟩), c_86 (d := d + 9) hq, bk_n, b_30_65 hq]
        have hwf := hw a l
        have e0 : chf μ (mm_tr e) = μ (mm_tr e) := chf_tr (j := 0) (by decide)
        have e1 : chf μ (mm_tr e + 1) = μ (mm_tr e + 1) := chf_tr (j := 1) (by decide)
        have hsame : mm_u (chf μ) (mm_tr e + 1) m (-2) (mm_tr e + 1) = mm_u μ (mm_tr e + 1) m (-2) (mm_tr e + 1) := by
          funext j
          rw [mm_ux, mm_ux, e1]
        have h144 := c_144 (d := d) (μ := chf μ) (X := X) (n := n) (Q := am_bk 30 67 [some (.ref 32), some (.int (Int32.ofInt (e))), some (.int (Int32.ofInt (m))), some (.ref (mm_tr e))] [] (am_E (d + 10) 30 Q) Q) (mm_PT (e := e) hq) (m := m) a3 a4 (by rw [hsame]; exact hwf)
        rw [e0] at h144
        refine Iff.trans h144 ?_
        have hro : ∀ b : Nat, 95 ≤ b → b ≠ 107 → cdr1 μ e m b = μ b := fun b hb h7 => cdr1_o hwf (by omega) h7
        have hgo : ∀ μ2 : mm_M, (∀ b : Nat, 95 ≤ b → b ≤ 99 → μ2 b = μ b) → cg_r μ2 := fun μ2 h => ⟨by rw [h 95 (by decide) (by decide)]; exact hg.1, fun l j h0 h1 k0 k1 => by have := mm_inr_b (z := l); rw [h _ (by omega) (by omega)]; exact hg.2 l j h0 h1 k0 k1⟩
        have hg2 : cg_r (cdr2 μ e m) := by
          refine hgo _ fun b b0 b1 => ?_
          unfold cdr2
          split
          · rw [mm_uu (by omega), mm_uu (by omega), hro b b0 (by omega)]
          · exact hro b b0 (by omega)
        have e95 : cdr2 μ e m 95 = μ 95 := by
          unfold cdr2
          split
          · rw [mm_uu (by decide), mm_uu (by decide), hro 95 (by decide) (by decide)]
          · exact hro 95 (by decide) (by decide)
        have e104 : cdr1 μ e m 104 = μ 104 := hro 104 (by decide) (by decide)
        show am_bk 30 67 [some (.ref 32), some (.int (Int32.ofInt (e))), some (.int (Int32.ofInt (m))), some (.ref (mm_tr e))] [] (am_E (d + 10) 30 Q) Q (.inl none) (mm_hp w (cdr1 μ e m) X n) ↔ _
        rw [bk_n, b_30_70 hq, c_113 (d := d + 9) (μ := cdr1 μ e m) hq ⟨a1, a2⟩ ⟨a3, a4⟩ (by rw [e104]; exact hd e a1 a2), bk_n, b_30_79 hq, e104]
        have h83 := c_83 (d := d + 8) (μ := cdr2 μ e m) (X := X) (n := n) (Q := am_bk 30 85 [some (.ref 32), some (.int (Int32.ofInt (e))), some (.int (Int32.ofInt (m))), some (.ref (mm_tr e))] [] (am_E (d + 10) 30 Q) Q) hq hg2 ⟨a1, a2⟩ ⟨a3, a4⟩
        rw [e95] at h83
        refine Iff.trans h83 ?_
        rw [bk_v, b_30_88 hq]
  · rw [if_neg a, if_pos rfl, if_pos (show ¬ (0 ≤ e ∧ e < 3 ∧ 0 ≤ m ∧ m < 6 ∧ μ (mm_tr e + 1) m ≠ -2) from a)]
    rfl
end DR
