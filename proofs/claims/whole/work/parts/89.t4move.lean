/-! The class moves a member. -/
section MO
variable {d : Nat} {Q : am_Ou → am_G → Prop} {w : mm_Z} {μ : mm_M} {X : mm_X} {n : mm_N} {e m b : Int}
theorem c_38 (hq : mm_P w) (ht : ct_a μ) (hw : (0 ≤ e ∧ e < 3 ∧ 0 ≤ m ∧ m < 6 ∧ μ (mm_tr e + 1) m ≠ -2) → ((0 ≤ e ∧ e < 3) ∧ (b = -1 ∨ (0 ≤ b ∧ b < 6 ∧ μ (mm_tr e + 1) b ≠ -2))) → ¬ sp_in (μ (mm_tr e + 1)) m 6 b = true → fo_wf (mm_u μ (mm_tr e + 1) m b (mm_tr e + 1))) (h1 : -2147483648 ≤ e) (h2 : e ≤ 2147483647) (g1 : -2147483648 ≤ m) (g2 : m ≤ 2147483647) (k1 : -2147483648 ≤ b) (k2 : b ≤ 2147483647) : am_C (d + 11) 38 [.ref 32, .int (Int32.ofInt (e)), .int (Int32.ofInt (m)), .int (Int32.ofInt (b))] (mm_hp w μ X n) Q ↔ if ¬ ((0 ≤ e ∧ e < 3 ∧ 0 ≤ m ∧ m < 6 ∧ μ (mm_tr e + 1) m ≠ -2) ∧ ((0 ≤ e ∧ e < 3) ∧ (b = -1 ∨ (0 ≤ b ∧ b < 6 ∧ μ (mm_tr e + 1) b ≠ -2)))) then mm_thr Q w μ X n 0 else if sp_in (μ (mm_tr e + 1)) m 6 b = true then mm_thr Q w μ X n 1 else Q (.inl (some (.int (Int32.ofInt (tr_arr e (mm_u (chf μ) (mm_tr e + 1) m b) (mm_tr e + 3) m))))) (mm_hp w (tr_arr e (mm_u (chf μ) (mm_tr e + 1) m b)) X n) := by
  rw [en_38 (d := d + 10), b_38_0 hq, c_126 (d := d + 8) hq h1 h2 g1 g2 ht, bk_v, b_38_9 hq]
  by_cases a : (0 ≤ e ∧ e < 3 ∧ 0 ≤ m ∧ m < 6 ∧ μ (mm_tr e + 1) m ≠ -2)
  · rw [if_pos a, if_neg (by decide), c_125 (d := d + 8) hq h1 h2 k1 k2 ht, bk_v, b_38_21 hq]
    by_cases a2 : ((0 ≤ e ∧ e < 3) ∧ (b = -1 ∨ (0 ≤ b ∧ b < 6 ∧ μ (mm_tr e + 1) b ≠ -2)))
    · rw [if_pos a2, if_neg (by decide), if_neg (show ¬ ¬ ((0 ≤ e ∧ e < 3 ∧ 0 ≤ m ∧ m < 6 ∧ μ (mm_tr e + 1) m ≠ -2) ∧ ((0 ≤ e ∧ e < 3) ∧ (b = -1 ∨ (0 ≤ b ∧ b < 6 ∧ μ (mm_tr e + 1) b ≠ -2)))) from fun q => q ⟨a, a2⟩)]
      obtain ⟨he, hb⟩ := id a2
      have hte := ht e he.1 he.2
      have htp := mm_twp hte
      simp (disch := omega) only [and_self, true_and, mm_ltx, mm_lex, mm_eqx, mm_wv, mm_gd, ↓reduceIte, Int.reduceAdd, Int.reduceSub, Int.reduceNeg, Int.reduceLE, Int.reduceLT, Int.reduceMul, Int.reduceEq]
      rw [c_151 (d := d + 9) (mm_PT (e := e) hq) (by omega) (by omega) (by omega) (by omega) htp, bk_v, b_38_50 hq]
      by_cases u : sp_in (μ (mm_tr e + 1)) m 6 b = true
      · rw [if_pos u, if_neg (by decide), if_pos u]
        rfl
      · rw [if_neg u, if_pos rfl, if_neg u, c_86 (d := d + 9) hq, bk_n, b_38_68 hq]
        have e1 : chf μ (mm_tr e + 1) = μ (mm_tr e + 1) := chf_tr (j := 1) (by decide)
        have hsame : mm_u (chf μ) (mm_tr e + 1) m b (mm_tr e + 1) = mm_u μ (mm_tr e + 1) m b (mm_tr e + 1) := by
          funext j
          rw [mm_ux, mm_ux, e1]
        have := c_147 (d := d) (μ := chf μ) (X := X) (n := n) (b := b) (Q := am_bk 38 72 [some (.ref 32), some (.int (Int32.ofInt (e))), some (.int (Int32.ofInt (m))), some (.int (Int32.ofInt (b))), some (.ref (mm_tr e))] [] (am_E (d + 10) 38 Q) Q) (mm_PT (e := e) hq) (m := m) a.2.2.1 a.2.2.2.1 (by rw [hsame]; exact hw a a2 u)
        refine Iff.trans this ?_
        rw [bk_n, b_38_75 hq]
        simp (disch := omega) only [and_self, true_and, mm_ltx, mm_lex, mm_eqx, mm_wv, mm_gd, ↓reduceIte, Int.reduceAdd, Int.reduceSub, Int.reduceNeg, Int.reduceLE, Int.reduceLT, Int.reduceMul, Int.reduceEq]
    · rw [if_neg a2, if_pos rfl, if_pos (show ¬ ((0 ≤ e ∧ e < 3 ∧ 0 ≤ m ∧ m < 6 ∧ μ (mm_tr e + 1) m ≠ -2) ∧ ((0 ≤ e ∧ e < 3) ∧ (b = -1 ∨ (0 ≤ b ∧ b < 6 ∧ μ (mm_tr e + 1) b ≠ -2)))) from fun q => a2 q.2), b_38_24 hq]
      rfl
  · rw [if_neg a, if_pos rfl, if_pos (show ¬ ((0 ≤ e ∧ e < 3 ∧ 0 ≤ m ∧ m < 6 ∧ μ (mm_tr e + 1) m ≠ -2) ∧ ((0 ≤ e ∧ e < 3) ∧ (b = -1 ∨ (0 ≤ b ∧ b < 6 ∧ μ (mm_tr e + 1) b ≠ -2)))) from fun q => a q.1), b_38_24 hq]
    rfl
end MO
