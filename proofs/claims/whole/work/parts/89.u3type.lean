/-! Signs that are typed: the reference's side. -/
def sg_dg (x : Int) : Prop := 48 ≤ x ∧ x ≤ 57
def sg_op (x : Int) : Prop := x = 43 ∨ x = 45 ∨ x = 42 ∨ x = 47
def sg_lt (x : Int) : Prop := x = 120 ∨ x = 121 ∨ x = 122
section TY
variable {d : Nat} {Q : am_Ou → am_G → Prop} {w : mm_Z} {μ : mm_M} {X : mm_X} {n : mm_N} {x : Int}
theorem c_191 (hq : mm_P w) (hx : 0 ≤ x ∧ x ≤ 65535) : am_C (d + 1) 191 [.int (Int32.ofInt (x))] (mm_hp w μ X n) Q ↔ Q (.inl (some (.int (Int32.ofInt (if 48 ≤ x ∧ x ≤ 57 then 1 else 0))))) (mm_hp w μ X n) := by
  rw [en_191, b_191_0 hq]
  by_cases a : x < 48
  · simp (disch := omega) only [and_self, true_and, mm_ltx, mm_lex, mm_eqx, mm_wv, mm_gd, ↓reduceIte, Int.reduceAdd, Int.reduceSub, Int.reduceNeg, Int.reduceLE, Int.reduceLT, Int.reduceMul, Int.reduceEq, if_pos, if_neg]
  · by_cases b : 57 < x
    · simp (disch := omega) only [and_self, true_and, mm_ltx, mm_lex, mm_eqx, mm_wv, mm_gd, ↓reduceIte, Int.reduceAdd, Int.reduceSub, Int.reduceNeg, Int.reduceLE, Int.reduceLT, Int.reduceMul, Int.reduceEq, if_pos, if_neg]
    · simp (disch := omega) only [and_self, true_and, mm_ltx, mm_lex, mm_eqx, mm_wv, mm_gd, ↓reduceIte, Int.reduceAdd, Int.reduceSub, Int.reduceNeg, Int.reduceLE, Int.reduceLT, Int.reduceMul, Int.reduceEq, if_pos, if_neg]
theorem c_195 (hq : mm_P w) (hx : 0 ≤ x ∧ x ≤ 65535) : am_C (d + 1) 195 [.int (Int32.ofInt (x))] (mm_hp w μ X n) Q ↔ Q (.inl (some (.int (Int32.ofInt (if x = 120 ∨ x = 121 ∨ x = 122 then 1 else 0))))) (mm_hp w μ X n) := by
  rw [en_195, b_195_0 hq]
  by_cases a : x = 120
  · simp (disch := omega) only [and_self, true_and, mm_ltx, mm_lex, mm_eqx, mm_wv, mm_gd, ↓reduceIte, Int.reduceAdd, Int.reduceSub, Int.reduceNeg, Int.reduceLE, Int.reduceLT, Int.reduceMul, Int.reduceEq, if_pos, if_neg]
  · by_cases b : x = 121
    · simp (disch := omega) only [and_self, true_and, mm_ltx, mm_lex, mm_eqx, mm_wv, mm_gd, ↓reduceIte, Int.reduceAdd, Int.reduceSub, Int.reduceNeg, Int.reduceLE, Int.reduceLT, Int.reduceMul, Int.reduceEq, if_pos, if_neg]
    · by_cases c : x = 122
      · simp (disch := omega) only [and_self, true_and, mm_ltx, mm_lex, mm_eqx, mm_wv, mm_gd, ↓reduceIte, Int.reduceAdd, Int.reduceSub, Int.reduceNeg, Int.reduceLE, Int.reduceLT, Int.reduceMul, Int.reduceEq, if_pos, if_neg]
      · simp (disch := omega) only [and_self, true_and, mm_ltx, mm_lex, mm_eqx, mm_wv, mm_gd, ↓reduceIte, Int.reduceAdd, Int.reduceSub, Int.reduceNeg, Int.reduceLE, Int.reduceLT, Int.reduceMul, Int.reduceEq, if_pos, if_neg]
theorem c_198 (hq : mm_P w) (hx : 0 ≤ x ∧ x ≤ 65535) : am_C (d + 1) 198 [.int (Int32.ofInt (x))] (mm_hp w μ X n) Q ↔ Q (.inl (some (.int (Int32.ofInt (if x = 43 ∨ x = 45 ∨ x = 42 ∨ x = 47 then 1 else 0))))) (mm_hp w μ X n) := by
  rw [en_198, b_198_0 hq]
  by_cases a : x = 43
  · simp (disch := omega) only [and_self, true_and, mm_ltx, mm_lex, mm_eqx, mm_wv, mm_gd, ↓reduceIte, Int.reduceAdd, Int.reduceSub, Int.reduceNeg, Int.reduceLE, Int.reduceLT, Int.reduceMul, Int.reduceEq, if_pos, if_neg]
  · by_cases b : x = 45
    · simp (disch := omega) only [and_self, true_and, mm_ltx, mm_lex, mm_eqx, mm_wv, mm_gd, ↓reduceIte, Int.reduceAdd, Int.reduceSub, Int.reduceNeg, Int.reduceLE, Int.reduceLT, Int.reduceMul, Int.reduceEq, if_pos, if_neg]
    · by_cases c : x = 42
      · simp (disch := omega) only [and_self, true_and, mm_ltx, mm_lex, mm_eqx, mm_wv, mm_gd, ↓reduceIte, Int.reduceAdd, Int.reduceSub, Int.reduceNeg, Int.reduceLE, Int.reduceLT, Int.reduceMul, Int.reduceEq, if_pos, if_neg]
      · by_cases e : x = 47
        · simp (disch := omega) only [and_self, true_and, mm_ltx, mm_lex, mm_eqx, mm_wv, mm_gd, ↓reduceIte, Int.reduceAdd, Int.reduceSub, Int.reduceNeg, Int.reduceLE, Int.reduceLT, Int.reduceMul, Int.reduceEq, if_pos, if_neg]
        · simp (disch := omega) only [and_self, true_and, mm_ltx, mm_lex, mm_eqx, mm_wv, mm_gd, ↓reduceIte, Int.reduceAdd, Int.reduceSub, Int.reduceNeg, Int.reduceLE, Int.reduceLT, Int.reduceMul, Int.reduceEq, if_pos, if_neg]
theorem c_93 (hq : mm_P w) : am_C (d + 1) 93 [.ref 100] (mm_hp w μ X n) Q ↔ Q (.inl none) (mm_hp w (mm_u μ 100 1 0) X n) := by
  rw [en_93, b_93_0 hq]
end TY
