/-! Signs that are typed: the reference's side. -/
def sg_dg (x : Int) : Prop := 48 ≤ x ∧ x ≤ 57
def sg_op (x : Int) : Prop := x = 43 ∨ x = 45 ∨ x = 42 ∨ x = 47
def sg_lt (x : Int) : Prop := x = 120 ∨ x = 121 ∨ x = 122
section TY
variable {d : Nat} {Q : am_Ou → am_G → Prop} {w : mm_Z} {μ : mm_M} {X : mm_X} {n : mm_N} {x : Int}
theorem c_191 (hq : mm_P w) (hx : 0 ≤ x ∧ x ≤ 65535) : am_C (d + 1) 191 [.int (Int32.ofInt (x))] (mm_hp w μ X n) Q ↔ Q (.inl (some (.int (Int32.ofInt (if 48 ≤ x ∧ x ≤ 57 then 1 else 0))))) (mm_hp w μ X n) := by
  rw [en_191, b_191_0 hq]
  by_cases a : x < 48
  · simp (disch := omega) only [and_self, true_and, mm_ltx, mm_lex, mm_eqx, mm_wv, mm_gd, ↓reduceIte, Int.reduceAdd, Int.reduceSub, Int.reduceNeg, Int.reduceLE, Int.reduceLT, Int.reduceMul, Int.reduceEq, if_pos, if_neg]
  · by_cases b : 57 < x
    · simp (disch := omega) only [and_self, true_and, mm_ltx, mm_lex, mm_eqx, mm_wv, mm_gd, ↓reduceIte, Int.reduceAdd, Int.reduceSub, Int.reduceNeg, Int.reduceLE, Int.reduceLT, Int.reduceMul, Int.reduceEq, if_pos, if_neg]
    · simp (disch := omega) only [and_self, true_and, mm_ltx, mm_lex, mm_eqx, mm_wv, mm_gd, ↓reduceIte, Int.reduceAdd, Int.reduceSub, Int.reduceNeg, Int.reduceLE, Int.reduceLT, Int.reduceMul, Int.reduceEq, if_pos, if_neg]
theorem c_195 (hq : mm_P w) (hx : 0 ≤ x ∧ x ≤ 65535) : am_C (d + 1) 195 [.int (Int32.ofInt (x))] (mm_hp w μ X n) Q ↔ Q (.inl (some (.int (Int32.ofInt (if x = 120 ∨ x = 121 ∨ x = 122 then 1 else 0))))) (mm_hp w μ X n) := by
  rw [en_195, b_195_0 hq]
  by_cases a : x = 120
  · simp (disch := omega) only [and_self, true_and, mm_ltx, mm_lex, mm_eqx, mm_wv, mm_gd, ↓reduceIte, Int.reduceAdd, Int.reduceSub, Int.reduceNeg, Int.reduceLE, Int.reduceLT, Int.reduceMul, Int.reduceEq, if_pos, if_neg]
  · by_cases b : x = 121
    · simp (disch := omega) only [and_self, true_and, mm_ltx, mm_lex, mm_eqx, mm_wv, mm_gd, ↓reduceIte, Int.reduceAdd, Int.reduceSub, Int.reduceNeg, Int.reduceLE, Int.reduceLT, Int.reduceMul, Int.reduceEq, if_pos, if_neg]
    · by_cases c : x = 122
      · simp (disch := omega) only [and_self, true_and, mm_ltx, mm_lex, mm_eqx, mm_wv, mm_gd, ↓reduceIte, Int.reduceAdd, Int.reduceSub, Int.reduceNeg, Int.reduceLE, Int.reduceLT, Int.reduceMul, Int.reduceEq, if_pos, if_neg]
      · simp (disch := omega) only [and_self, true_and, mm_ltx, mm_lex, mm_eqx, mm_wv, mm_gd, ↓reduceIte, Int.reduceAdd, Int.reduceSub, Int.reduceNeg, Int.reduceLE, Int.reduceLT, Int.reduceMul, Int.reduceEq, if_pos, if_neg]
theorem c_198 (hq : mm_P w) (hx : 0 ≤ x ∧ x ≤ 65535) : am_C (d + 1) 198 [.int (Int32.ofInt (x))] (mm_hp w μ X n) Q ↔ Q (.inl (some (.int (Int32.ofInt (if x = 43 ∨ x = 45 ∨ x = 42 ∨ x = 47 then 1 else 0))))) (mm_hp w μ X n) := by
  rw [en_198, b_198_0 hq]
  by_cases a : x = 43
  · simp (disch := omega) only [and_self, true_and, mm_ltx, mm_lex, mm_eqx, mm_wv, mm_gd, ↓reduceIte, Int.reduceAdd, Int.reduceSub, Int.reduceNeg, Int.reduceLE, Int.reduceLT, Int.reduceMul, Int.reduceEq, if_pos, if_neg]
  · by_cases b : x = 45
    · simp (disch := omega) only [and_self, true_and, mm_ltx, mm_lex, mm_eqx, mm_wv, mm_gd, ↓reduceIte, Int.reduceAdd, Int.reduceSub, Int.reduceNeg, Int.reduceLE, Int.reduceLT, Int.reduceMul, Int.reduceEq, if_pos, if_neg]
    · by_cases c : x = 42
      · simp (disch := omega) only [and_self, true_and, mm_ltx, mm_lex, mm_eqx, mm_wv, mm_gd, ↓reduceIte, Int.reduceAdd, Int.reduceSub, Int.reduceNeg, Int.reduceLE, Int.reduceLT, Int.reduceMul, Int.reduceEq, if_pos, if_neg]
      · by_cases e : x = 47
        · simp (disch := omega) only [and_self, true_and, mm_ltx, mm_lex, mm_eqx, mm_wv, mm_gd, ↓reduceIte, Int.reduceAdd, Int.reduceSub, Int.reduceNeg, Int.reduceLE, Int.reduceLT, Int.reduceMul, Int.reduceEq, if_pos, if_neg]
        · simp (disch := omega) only [and_self, true_and, mm_ltx, mm_lex, mm_eqx, mm_wv, mm_gd, ↓reduceIte, Int.reduceAdd, Int.reduceSub, Int.reduceNeg, Int.reduceLE, Int.reduceLT, Int.reduceMul, Int.reduceEq, if_pos, if_neg]
theorem c_93 (hq : mm_P w) : am_C (d + 1) 93 [.ref 100] (mm_hp w μ X n) Q ↔ Q (.inl none) (mm_hp w (mm_u μ 100 1 0) X n) := by
  rw [en_93, b_93_0 hq]
/-- signs that may be typed -/
def sg_any (x : Int) : Prop := (48 ≤ x ∧ x ≤ 57) ∨ (x = 43 ∨ x = 45 ∨ x = 42 ∨ x = 47) ∨ (x = 120 ∨ x = 121 ∨ x = 122) ∨ x = 63 ∨ x = 58 ∨ x = 40 ∨ x = 41 ∨ x = 60 ∨ x = 62 ∨ x = 94 ∨ x = 36
theorem c_237 (hq : mm_P w) (hx : 0 ≤ x ∧ x ≤ 65535) (h23 : 0 ≤ μ 129 23 ∧ μ 129 23 ≤ 24) (hno : ¬ sg_any x → Q (.inl (some (.int (Int32.ofInt (0))))) (mm_hp w (mm_u μ 129 0 0) X n)) (hfu : sg_any x → μ 129 23 = 24 → Q (.inl (some (.int (Int32.ofInt (0))))) (mm_hp w (mm_u μ 129 0 0) X n)) (hok : sg_any x → μ 129 23 ≠ 24 → Q (.inl (some (.int (Int32.ofInt (1))))) (mm_hp w (mm_u (mm_u (mm_u μ 129 0 0) 150 (μ 129 23) (mm_c16 x)) 129 23 (μ 129 23 + 1)) X n)) : am_C (d + 2) 237 [.ref 129, .int (Int32.ofInt (x))] (mm_hp w μ X n) Q := by
  rw [en_237 (d := d + 1), b_237_0 hq, c_191 (d := d) hq hx, bk_v, b_237_9 hq]
  have s74 : sg_any x → am_E (d + 1) 237 Q (74, [some (.ref 129), some (.int (Int32.ofInt (x))), none], [], mm_hp w (mm_u μ 129 0 0) X n) := by
    intro hs
    rw [b_237_74 hq, b_237_79 hq, if_neg (by decide), mm_un (by decide)]
    by_cases f : μ 129 23 = 24
    · rw [if_pos (by rw [f])]
      exact hfu hs f
    · rw [if_neg (by rw [mm_eqx, mm_wv (by omega) (by omega), mm_wv (by omega) (by omega)]; exact f)]
      simp (disch := omega) only [and_self, true_and, mm_ltx, mm_lex, mm_eqx, mm_wv, mm_gd, ↓reduceIte, Int.reduceAdd, Int.reduceSub, Int.reduceNeg, Int.reduceLE, Int.reduceLT, Int.reduceMul, Int.reduceEq, mm_uu (show (129 : Nat) ≠ 150 by decide), mm_un (show (23 : Int) ≠ 0 by decide)]
      exact hok hs f
  by_cases a : 48 ≤ x ∧ x ≤ 57
  · rw [if_pos a, if_neg (by decide)]
    exact s74 (Or.inl a)
  · rw [if_neg a, if_pos rfl, c_198 (d := d) hq hx, bk_v, b_237_16 hq]
    by_cases b : x = 43 ∨ x = 45 ∨ x = 42 ∨ x = 47
    · rw [if_pos b, if_neg (by decide)]
      exact s74 (Or.inr (Or.inl b))
    · rw [if_neg b, if_pos rfl, c_195 (d := d) hq hx, bk_v, b_237_23 hq]
      by_cases c : x = 120 ∨ x = 121 ∨ x = 122
      · rw [if_pos c, if_neg (by decide)]
        exact s74 (Or.inr (Or.inr (Or.inl c)))
      · rw [if_neg c, if_pos rfl]
        by_cases e : x = 63 ∨ x = 58 ∨ x = 40 ∨ x = 41 ∨ x = 60 ∨ x = 62 ∨ x = 94 ∨ x = 36
        · have hs := s74 (Or.inr (Or.inr (Or.inr e)))
          split
          · exact hs
          · split
            · exact hs
            · split
              · exact hs
              · split
                · exact hs
                · split
                  · exact hs
                  · split
                    · exact hs
                    · split
                      · exact hs
                      · rename_i q1 q2 q3 q4 q5 q6 q7
                        rcases e with rfl | rfl | rfl | rfl | rfl | rfl | rfl | rfl
                        · exact absurd rfl q1
                        · exact absurd rfl q2
                        · exact absurd rfl q3
                        · exact absurd rfl q4
                        · exact absurd rfl q5
                        · exact absurd rfl q6
                        · exact absurd rfl q7
                        · rw [if_pos rfl]; exact hs
        · simp (disch := omega) only [and_self, true_and, mm_ltx, mm_lex, mm_eqx, mm_wv, mm_gd, ↓reduceIte, Int.reduceAdd, Int.reduceSub, Int.reduceNeg, Int.reduceLE, Int.reduceLT, Int.reduceMul, Int.reduceEq, if_pos, if_neg]
          rw [b_237_79 hq, if_pos rfl]
          refine hno fun q => ?_
          unfold sg_any at q
          omega
end TY
