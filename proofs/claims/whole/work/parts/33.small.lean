/-! Contracts of the reference's small methods. -/
section AMY
variable {d : Nat} {Q : am_Ou → am_G → Prop} {g : am_G}
theorem l_213 {a k : Int32} : am_loc 213 [.int a, .int k] = [some (.int a), some (.int k)] := by
  simp [am_loc, am_arg, m_213, Value.category]
theorem c_213 {a k : Int32} : am_C (d + 1) 213 [.int a, .int k] g Q ↔ Q (.inl (some (.int (if k = 0 then a - a / 6 * 6 else if k = 1 then a / 6 - a / 6 / 6 * 6 else a / 36)))) g := by
  rw [am_C_in (by simp [am_arg, m_213, Value.category]), l_213]
  have e6 : ¬ (6 : Int32) = 0 := by decide
  have e36 : ¬ (36 : Int32) = 0 := by decide
  simp only [x_213_0, x_213_1, x_213_4, x_213_5, x_213_7, x_213_8, x_213_11, x_213_12, x_213_13, x_213_16, x_213_17, x_213_19, x_213_20, x_213_22, x_213_23, x_213_26, x_213_27, x_213_29, x_213_30, am_ldI, am_K_go, am_K_en, am_K_ite, am_E_ite, am_cmp_ne, List.getD_cons_zero, List.getD_cons_succ, e6, e36, if_false, if_true, am_ok]
  by_cases h : k = 0
  · simp [h]
  · by_cases h2 : k = 1
    · simp [h, h2]
    · simp [h, h2]
end AMY
