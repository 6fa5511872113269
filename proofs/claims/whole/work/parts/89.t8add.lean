/-! The class adds the draft to its rule book. -/
def cadd (μ : mm_M) (v : Int) : mm_M := mm_cp (mm_cp (mm_cp (mm_cp μ 103 (mm_rl v + 1) 3) 104 (mm_rl v + 2) 3) 105 (mm_rl v + 3) 24) 106 (mm_rl v + 4) 24
section AD
variable {d : Nat} {Q : am_Ou → am_G → Prop} {w : mm_Z} {μ : mm_M} {X : mm_X} {n : mm_N} {e m v : Int}
theorem c_110 (hq : mm_P w) : am_C (d + 1) 110 [.ref (mm_rl v), .ref 102] (mm_hp w μ X n) Q ↔ Q (.inl none) (mm_hp w (mm_u (cadd μ v) (mm_rl v) 4 (cadd μ v 102 4)) X n) := by
  rw [en_110, b_110_0 hq]
  rfl
theorem c_119 (hq : mm_P w) (hr : cr_r μ) (h : μ 53 1 < 8) : am_C (d + 2) 119 [.ref 53, .ref 102] (mm_hp w μ X n) Q ↔ Q (.inl none) (mm_hp w (mm_u (mm_u (cadd μ (μ 54 (μ 53 1))) (mm_rl (μ 54 (μ 53 1))) 4 (cadd μ (μ 54 (μ 53 1)) 102 4)) 53 1 (mm_u (cadd μ (μ 54 (μ 53 1))) (mm_rl (μ 54 (μ 53 1))) 4 (cadd μ (μ 54 (μ 53 1)) 102 4) 53 1 + 1)) X n) := by
  have h53 := hr.1
  rw [en_119 (d := d + 1), b_119_0 hq, if_neg (by rw [mm_lex, mm_wv (by omega) (by omega), mm_wv (by omega) (by omega)]; omega)]
  simp (disch := omega) only [and_self, true_and, mm_ltx, mm_lex, mm_eqx, mm_wv, mm_gd, ↓reduceIte, Int.reduceAdd, Int.reduceSub, Int.reduceNeg, Int.reduceLE, Int.reduceLT, Int.reduceMul, Int.reduceEq]
  rw [c_110 (d := d) hq, bk_n, b_119_22 hq]
end AD
