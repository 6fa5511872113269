/-! The reference's isMember: a pattern of a contract with a call and a read. -/
section AMY
variable {d : Nat} {Q : am_Ou → am_G → Prop} {g : am_G}
def am_isM (f : Nat → Int32) (a m : Int32) : Int32 := if am_isD a = 0 then 0 else if m < 0 then 0 else if 6 ≤ m then 0 else if f ((6 * a + m).toNatClampNeg) = 0 then 0 else 1
theorem l_196 {mo : Nat} {a m : Int32} : am_loc 196 [.ref mo, .int a, .int m] = [some (.ref mo), some (.int a), some (.int m)] := by
  simp [am_loc, am_arg, m_196, Value.category]
theorem am_dimx {a : Int32} (h : ¬ am_isD a = 0) : ∃ k, k < 3 ∧ a = nI k := by
  unfold am_isD at h
  by_cases h1 : a < 0
  · simp [h1] at h
  · by_cases h2 : (3 : Int32) ≤ a
    · simp [h1, h2] at h
    · obtain ⟨k, hk, rfl⟩ := nI_of h1
      refine ⟨k, Nat.not_le.mp fun h3 => h2 ?_, rfl⟩
      exact nI_le (a := 3) (by omega) (by omega)
theorem am_mx {m : Int32} (h1 : ¬ m < 0) (h2 : ¬ (6 : Int32) ≤ m) : ∃ k, k < 6 ∧ m = nI k := by
  obtain ⟨k, hk, rfl⟩ := nI_of h1
  refine ⟨k, Nat.not_le.mp fun h3 => h2 ?_, rfl⟩
  exact nI_le (a := 6) (by omega) (by omega)
theorem am_ix {k j : Nat} : (6 : Int32) * nI k + nI j = nI (6 * k + j) := by
  show nI 6 * nI k + nI j = _
  rw [pk_mul, nI_add]
theorem c_196 {mo th : Nat} {a m : Int32} {V : Nat → Value} {f : Nat → Int32} (h : g.1 mo = some (.inr (11, V))) (hV : V 1 = .ref th) (hth : g.1 th = some (.inl (.boolean, 18, .inl f))) : am_C (d + 2) 196 [.ref mo, .int a, .int m] g Q ↔ Q (.inl (some (.int (am_isM f a m)))) g := by
  rw [am_C_in (by simp [am_arg, m_196, Value.category]), l_196]
  have e1 : ∀ L, am_E (d + 1) 196 Q (1, L, [.int a], g) ↔ am_C (d + 1) 192 [.int a] g (am_bk 196 1 L [] (am_E (d + 1) 196 Q) Q) := fun L => am_E_st0 (by decide +kernel) v_196_171 (by simp) (by simp)
  have e2 : am_gf g mo 11 1 = some (.ref th) := by rw [am_gf_at h, hV]
  simp only [x_196_0, am_ldI, am_ldA, List.getD_cons_zero, List.getD_cons_succ, am_K_go, e1, c_192, am_bk_ret, Option.toList_some, List.cons_append, List.nil_append, x_196_4, x_196_7, x_196_8, x_196_11, x_196_12, x_196_14, x_196_17, x_196_18, e2, am_kv_some, x_196_21, x_196_23, x_196_24, x_196_25, x_196_26, x_196_27, x_196_28, x_196_31, x_196_32, x_196_35, x_196_36, am_cmp_eq, am_cmp_lt, am_cmp_ge, am_E_ite, Nat.reduceAdd]
  unfold am_isM
  by_cases h1 : am_isD a = 0
  · simp [h1, am_ok]
  · by_cases h2 : m < 0
    · simp [h1, h2, am_ok]
    · by_cases h3 : (6 : Int32) ≤ m
      · simp [h1, h2, h3, am_ok]
      · obtain ⟨k, hk, rfl⟩ := am_dimx h1
        obtain ⟨j, hj, rfl⟩ := am_mx h2 h3
        rw [if_neg h1, if_neg h2, if_neg h3, if_neg h1, if_neg h2, if_neg h3, am_ix, am_iat_z hth (am_out_nI (by omega) (by decide)), am_kv_some, x_196_28, am_cmp_eq, am_E_ite]
        by_cases h4 : f (nI (6 * k + j)).toNatClampNeg = 0
        · simp [h4, x_196_35, x_196_36, am_ok]
        · simp [h4, x_196_31, x_196_32, x_196_36, am_ok]
end AMY
