/-! The reference takes the next order of a formula. -/
section RO
variable {d : Nat} {Q : am_Ou → am_G → Prop} {w : mm_Z} {μ μ' : mm_M} {X : mm_X} {n : mm_N} {c e m f r : Int}
theorem mm_uc {a b : Nat} {k j x y : Int} (h : a ≠ b) : mm_u (mm_u μ a k x) b j y = mm_u (mm_u μ b j y) a k x := by
  funext b' j'
  unfold mm_u
  split
  · rename_i q
    rw [if_neg (fun z => h (by rw [← z.1, ← q.1]))]
  · rfl
theorem rfv_o {a : Nat} {k z : Int} (ha : a ≠ 129 ∧ a ≠ 132 ∧ a ≠ 164 ∧ a ≠ 165 ∧ a ≠ 167 ∧ a ≠ 168 ∧ a ≠ 169 ∧ a ≠ 171 ∧ a ≠ 172) (hv : rfv μ) : rfv (mm_u μ a k z) := by
  obtain ⟨h1, h2, h3, h4, h5, h6, h7, h8, h9⟩ := ha
  unfold rfv
  rw [mm_uu h1.symm, mm_uu h2.symm, mm_uu h3.symm, mm_uu h4.symm, mm_uu h5.symm, mm_uu h6.symm, mm_uu h7.symm, mm_uu h8.symm, mm_uu h9.symm]
  exact hv
theorem c_212 (hq : mm_P w) (hA : rA μ) (hv : rfv μ) (hf : 0 ≤ f ∧ f + 1 = μ 129 47) (h165 : 0 ≤ μ 165 f ∧ μ 165 f < μ 129 11) (h166 : 0 ≤ μ 166 f ∧ μ 166 f ≤ μ 141 (μ 165 f)) (h49 : 0 ≤ μ 129 49 ∧ μ 129 49 ≤ 3000) (h59 : 0 ≤ μ 129 59 ∧ μ 129 59 < 639) (hop : ∀ j, 0 ≤ j → j < μ 129 59 → rop (μ 173 j) (μ 174 j))
    (h1 : μ 166 f = μ 141 (μ 165 f) → 1 ≤ μ 129 59) (h6 : μ 166 f < μ 141 (μ 165 f) → μ 142 (64 * μ 165 f + μ 166 f) = 6 → 1 ≤ μ 129 59) (h2 : μ 166 f < μ 141 (μ 165 f) → 2 ≤ μ 142 (64 * μ 165 f + μ 166 f) → μ 142 (64 * μ 165 f + μ 166 f) ≤ 5 → 2 ≤ μ 129 59) : am_C (d + 7) 212 [.ref 129, .int (Int32.ofInt (f))] (mm_hp w μ X n) Q ↔ Q (.inl none) (mm_hp w (rord μ f) X n) := by
  have hn := hv.1
  have h11 := hA.2.1.1
  obtain ⟨hk1, hk2⟩ := hA.2.2.2.2.2.2.2 (μ 165 f) h165.1 h165.2
  rw [en_212 (d := d + 6), b_212_0 hq]
  simp (disch := omega) only [and_self, true_and, mm_ltx, mm_lex, mm_eqx, mm_wv, mm_gd, ↓reduceIte, Int.reduceAdd, Int.reduceSub, Int.reduceNeg, Int.reduceLE, Int.reduceLT, Int.reduceMul, Int.reduceEq, mm_us, mm_un (show (59 : Int) ≠ 62 by decide), mm_un (show (59 : Int) ≠ 63 by decide), mm_un (show (47 : Int) ≠ 62 by decide), mm_un (show (47 : Int) ≠ 63 by decide), mm_un (show (47 : Int) ≠ 59 by decide), mm_uu (show (173 : Nat) ≠ 129 by decide), mm_uu (show (174 : Nat) ≠ 129 by decide)]
  unfold rord
  by_cases g : μ 166 f = μ 141 (μ 165 f)
  · have h1 := h1 g
    have ho := hop (μ 129 59 - 1) (by omega) (by omega)
    rw [if_pos g, if_pos g]
    try simp (disch := omega) only [and_self, true_and, mm_ltx, mm_lex, mm_eqx, mm_wv, mm_gd, ↓reduceIte, Int.reduceAdd, Int.reduceSub, Int.reduceNeg, Int.reduceLE, Int.reduceLT, Int.reduceMul, Int.reduceEq]
    rw [c_167 (d := d + 4) hq (by rw [mm_un (by decide), mm_un (by decide), mm_us]; exact ho.1) (by rw [mm_un (by decide), mm_un (by decide), mm_un (by decide), mm_us]; omega) (rfv_pop (rfv_f (by decide) (rfv_f (by decide) (rfv_f (by decide) hv))) (by rw [mm_un (by decide), mm_un (by decide), mm_un (by decide)]; omega)), bk_n, b_212_74 hq]
  · obtain ⟨o1, o2, o3, o4⟩ := hk2 (μ 166 f) h166.1 (by omega)
    have h6 := h6 (by omega)
    have h2 := h2 (by omega)
    rw [if_neg g, if_neg g]
    simp (disch := omega) only [and_self, true_and, mm_ltx, mm_lex, mm_eqx, mm_wv, mm_gd, ↓reduceIte, Int.reduceAdd, Int.reduceSub, Int.reduceNeg, Int.reduceLE, Int.reduceLT, Int.reduceMul, Int.reduceEq, mm_uu (show (129 : Nat) ≠ 166 by decide), mm_uu (show (173 : Nat) ≠ 166 by decide)]
    generalize μ 142 (64 * μ 165 f + μ 166 f) = op at *
    have hA1 : rA (mm_u μ 166 f (μ 166 f + 1)) := rA_c (re_u (by omega)) hA
    have hv1 : rfv (mm_u μ 166 f (μ 166 f + 1)) := rfv_o (by decide) hv
    by_cases g0 : op = 0
    · have := o2 g0
      rw [if_pos g0, if_pos g0]
      try simp (disch := omega) only [and_self, true_and, mm_ltx, mm_lex, mm_eqx, mm_wv, mm_gd, ↓reduceIte, Int.reduceAdd, Int.reduceSub, Int.reduceNeg, Int.reduceLE, Int.reduceLT, Int.reduceMul, Int.reduceEq]
      rw [c_217 (d := d + 5) hq (by decide) (by rw [mm_uu (by decide)]; omega), bk_n, b_212_140 hq, b_212_285 hq rfl rfl]
    · rw [if_neg g0, if_neg g0]
      by_cases g1 : op = 1
      · obtain ⟨a1, a2⟩ := o3 g1
        rw [if_pos g1, if_pos g1, c_222 (d := d) hq hA1 hv1 (by rw [mm_uu (by decide)]; omega) (by rw [mm_uu (by decide)]; exact h165.1) a1 (by rw [mm_uu (show (165 : Nat) ≠ 166 by decide), mm_uu (show (146 : Nat) ≠ 166 by decide), mm_uu (show (147 : Nat) ≠ 166 by decide)]; exact a2) (by rw [mm_uu (by decide)]; exact h49) (by rw [mm_uu (by decide)]; omega), bk_n, b_212_158 hq, b_212_285 hq rfl rfl]
      · rw [if_neg g1, if_neg g1]
        by_cases g7 : op = 7
        · rw [if_pos g7, if_pos g7, mm_u2, b_212_285 hq rfl rfl]
        · rw [if_neg g7, if_neg g7]
          by_cases g6 : op = 6
          · have h6 := h6 g6
            have ho := hop (μ 129 59 - 1) (by omega) (by omega)
            have h143 := (o4 (by omega)).1
            have h144 := (o4 (by omega)).2 g6
            have hob := ho.2.1
            have hok := ho.1
            rw [if_pos g6, if_pos g6]
            try simp (disch := omega) only [and_self, true_and, mm_ltx, mm_lex, mm_eqx, mm_wv, mm_gd, ↓reduceIte, Int.reduceAdd, Int.reduceSub, Int.reduceNeg, Int.reduceLE, Int.reduceLT, Int.reduceMul, Int.reduceEq]
            rw [c_177 (d := d + 5) hq ho.1, bk_v, b_212_200 hq, mm_uu (show (129 : Nat) ≠ 166 by decide), mm_uu (show (174 : Nat) ≠ 166 by decide)]
            simp (disch := omega) only [and_self, true_and, mm_ltx, mm_lex, mm_eqx, mm_wv, mm_gd, ↓reduceIte, Int.reduceAdd, Int.reduceSub, Int.reduceNeg, Int.reduceLE, Int.reduceLT, Int.reduceMul, Int.reduceEq, mm_lex8, mm_w8v]
            by_cases gf : 2 ≤ μ 173 (μ 129 59 - 1)
            · have hs : ∀ s : Int, (am_E (d + 6) 212 Q (223, [some (.ref 129), some (.int (Int32.ofInt (f))), some (.int (Int32.ofInt (μ 166 f))), some (.int (Int32.ofInt (μ 165 f))), some (.int (Int32.ofInt (op))), some (.int (Int32.ofInt (μ 143 (64 * μ 165 f + μ 166 f)))), some (.int (Int32.ofInt (μ 144 (64 * μ 165 f + μ 166 f)))), some (.int (Int32.ofInt (1))), none], [.int (Int32.ofInt (s))], mm_hp w (mm_u μ 166 f (μ 166 f + 1)) X n) ↔ Q (.inl none) (mm_hp w (mm_u μ 166 f (μ 144 (64 * μ 165 f + μ 166 f))) X n)) := by
                intro s
                rw [b_212_223 hq, if_neg (by decide), mm_uu (show (129 : Nat) ≠ 166 by decide), b_212_244 hq, if_neg (by decide), b_212_275 hq]
                simp (disch := omega) only [and_self, true_and, mm_ltx, mm_lex, mm_eqx, mm_wv, mm_gd, ↓reduceIte, Int.reduceAdd, Int.reduceSub, Int.reduceNeg, Int.reduceLE, Int.reduceLT, Int.reduceMul, Int.reduceEq]
                rw [b_212_285 hq rfl rfl, ← mm_uc (show (129 : Nat) ≠ 166 by decide), mm_un_id, mm_u2]
              rw [if_pos gf, if_pos (show μ 173 (μ 129 59 - 1) = 2 ∨ μ 173 (μ 129 59 - 1) = 3 ∨ μ 173 (μ 129 59 - 1) = 4 by omega), hs, hs]
              exact ⟨fun q => by split at q <;> exact q, fun q => by split <;> exact q⟩
            · have hs : ∀ s : Int, (s = 0 ∨ s = 1) → (am_E (d + 6) 212 Q (223, [some (.ref 129), some (.int (Int32.ofInt (f))), some (.int (Int32.ofInt (μ 166 f))), some (.int (Int32.ofInt (μ 165 f))), some (.int (Int32.ofInt (op))), some (.int (Int32.ofInt (μ 143 (64 * μ 165 f + μ 166 f)))), some (.int (Int32.ofInt (μ 144 (64 * μ 165 f + μ 166 f)))), some (.int (Int32.ofInt (0))), none], [.int (Int32.ofInt (s))], mm_hp w (mm_u μ 166 f (μ 166 f + 1)) X n) ↔ Q (.inl none) (mm_hp w (mm_u (mm_u μ 129 59 (μ 129 59 - 1)) 166 f (if s = 1 then μ 166 f + 1 else μ 143 (64 * μ 165 f + μ 166 f))) X n)) := by
                intro s hs
                rw [b_212_223 hq, if_pos rfl, mm_uu (show (129 : Nat) ≠ 166 by decide), b_212_244 hq, if_pos rfl]
                rcases hs with rfl | rfl
                · rw [if_pos rfl, b_212_275 hq]
                  simp (disch := omega) only [and_self, true_and, mm_ltx, mm_lex, mm_eqx, mm_wv, mm_gd, ↓reduceIte, Int.reduceAdd, Int.reduceSub, Int.reduceNeg, Int.reduceLE, Int.reduceLT, Int.reduceMul, Int.reduceEq]
                  rw [b_212_285 hq rfl rfl, mm_uc (show (166 : Nat) ≠ 129 by decide), mm_u2]
                · rw [if_neg (by decide), b_212_275 hq]
                  simp (disch := omega) only [and_self, true_and, mm_ltx, mm_lex, mm_eqx, mm_wv, mm_gd, ↓reduceIte, Int.reduceAdd, Int.reduceSub, Int.reduceNeg, Int.reduceLE, Int.reduceLT, Int.reduceMul, Int.reduceEq]
                  rw [b_212_285 hq rfl rfl, mm_uc (show (166 : Nat) ≠ 129 by decide), mm_u2]
              rw [if_neg gf, if_neg (show ¬ (μ 173 (μ 129 59 - 1) = 2 ∨ μ 173 (μ 129 59 - 1) = 3 ∨ μ 173 (μ 129 59 - 1) = 4) by omega)]
              by_cases gp : μ 174 (μ 129 59 - 1) ≤ 0
              · rw [if_pos gp, hs 0 (Or.inl rfl), if_neg (by decide), if_neg (by omega)]
              · rw [if_neg gp, hs 1 (Or.inr rfl), if_pos rfl, if_pos (by omega)]
          · have h2 := h2 (by omega) (by omega)
            rw [if_neg g6, if_neg g6, c_165 (d := d + 3) hq (by omega) (by rw [mm_uu (by decide)]; omega) (by rw [mm_uu (by decide), mm_uu (by decide), mm_uu (by decide)]; exact hop _ (by omega) (by omega)) (by rw [mm_uu (by decide), mm_uu (by decide), mm_uu (by decide)]; exact hop _ (by omega) (by omega)), bk_n, b_212_285 hq rfl rfl]
end RO
