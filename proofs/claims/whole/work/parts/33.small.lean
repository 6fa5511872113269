/-! Contracts of the reference's small methods. -/
section AMY
variable {d : Nat} {Q : am_Ou → am_G → Prop} {g : am_G}
theorem l_213 {a k : Int32} : am_loc 213 [.int a, .int k] = [some (.int a), some (.int k)] := by
  simp [am_loc, am_arg, m_213, Value.category]
theorem c_213 {a k : Int32} : am_C (d + 1) 213 [.int a, .int k] g Q ↔ Q (.inl (some (.int (if k = 0 then a - a / 6 * 6 else if k = 1 then a / 6 - a / 6 / 6 * 6 else a / 36)))) g := by
  rw [am_C_in (by simp [am_arg, m_213, Value.category]), l_213]
  have e6 : ¬ (6 : Int32) = 0 := by decide
  have e36 : ¬ (36 : Int32) = 0 := by decide
  simp only [x_213_0, x_213_1, x_213_4, x_213_5, x_213_7, x_213_8, x_213_11, x_213_12, x_213_13, x_213_16, x_213_17, x_213_19, x_213_20, x_213_22, x_213_23, x_213_26, x_213_27, x_213_29, x_213_30, am_ldI, am_K_go, am_K_en, am_K_ite, am_E_ite, am_cmp_ne, List.getD_cons_zero, List.getD_cons_succ, e6, e36, if_false, if_true, am_ok]
  by_cases h : k = 0
  · simp [h]
  · by_cases h2 : k = 1
    · simp [h, h2]
    · simp [h, h2]
end AMY
/-- the reference's 'goes': which exception, and whether none -/
def am_why (a b c : Int32) : Int32 := if a = 0 then 1 else if b = 0 then 2 else if c = 0 then 3 else 0
section AMY
variable {d : Nat} {Q : am_Ou → am_G → Prop} {g : am_G}
theorem l_185 {mo : Nat} {a b c : Int32} : am_loc 185 [.ref mo, .int a, .int b, .int c] = [some (.ref mo), some (.int a), some (.int b), some (.int c)] := by
  simp [am_loc, am_arg, m_185, Value.category]
theorem c_185 {mo : Nat} {a b c : Int32} {V : Nat → Value} (h : g.1 mo = some (.inr (11, V))) (h32 : 32 ≤ mo) : am_C (d + 1) 185 [.ref mo, .int a, .int b, .int c] g Q ↔ Q (.inl (some (.int (if am_why a b c = 0 then 1 else 0)))) (am_set g mo (.inr (11, updV V 0 (.int (am_why a b c))))) := by
  rw [am_C_in (by simp [am_arg, m_185, Value.category]), l_185]
  have key : ∀ t : Int32, am_E d 185 Q (26, [some (.ref mo), some (.int a), some (.int b), some (.int c)], [.int t, .ref mo], g) ↔ Q (.inl (some (.int (if t = 0 then 1 else 0)))) (am_set g mo (.inr (11, updV V 0 (.int t)))) := by
    intro t
    have e1 : am_gf (am_set g mo (.inr (11, updV V 0 (.int t)))) mo 11 0 = some (.int t) := by rw [am_gf_at am_set_at, am_upd_at]
    simp only [y_185_26, am_pf_at h h32, am_kg_some, x_185_29, am_ldA, List.getD_cons_zero, am_K_go, x_185_30, e1, am_kv_some, x_185_33, am_cmp_ne, am_E_ite, x_185_36, x_185_37, x_185_40, x_185_41]
    by_cases ht : t = 0
    · simp [ht, am_ok]
    · simp [ht, am_ok]
  simp only [x_185_0, x_185_1, x_185_2, x_185_5, x_185_6, x_185_9, x_185_10, x_185_13, x_185_14, x_185_17, x_185_18, x_185_21, x_185_22, x_185_25, am_ldA, am_ldI, List.getD_cons_zero, List.getD_cons_succ, am_K_go, am_cmp_ne, am_E_ite, key]
  unfold am_why
  by_cases h1 : a = 0
  · simp [h1]
  · by_cases h2 : b = 0
    · simp [h1, h2]
    · by_cases h3 : c = 0
      · simp [h1, h2, h3]
      · simp [h1, h2, h3]
end AMY
