/-! Calls, as rewriting. -/
section AMX
variable {d P pc M n : Nat} {Q : am_Ou → am_G → Prop} {L : am_Lo} {st : List Value} {g : am_G}
theorem am_bk_ret {v : Option Value} {W : am_Fr → Prop} : am_bk P pc L st W Q (.inl v) g ↔ W (pc + 3, L, v.toList ++ st, g) := Iff.rfl
theorem am_E_st0 {i : Nat} (h : am_dc P pc = some (.invokestatic i)) (hv : am_iv P i = some (0, M, n)) (hn : n ≤ st.length) (hr : (st.drop n).length ≤ 4) : am_E d P Q (pc, L, st, g) ↔ am_C d M (st.take n).reverse g (am_bk P pc L (st.drop n) (am_E d P Q) Q) := by
  refine (am_E_x h).trans ?_
  unfold am_S
  dsimp only
  rw [hv]
  show am_K d P Q (am_inv [0] P i pc L st g) ↔ _
  unfold am_inv
  rw [hv]
  dsimp only
  rw [if_pos ⟨by decide, hn, hr⟩]
  exact Iff.rfl
theorem am_E_vi1 {i a c : Nat} (h : am_dc P pc = some (.invokevirtual i)) (hv : am_iv P i = some (1, M, n)) (hn : n ≤ st.length) (hr : (st.drop n).length ≤ 4) (hs : st.getD (n - 1) .null = .ref a) (hc : am_oc g a = some c) (hc14 : c < 14) (ho : am_co c = am_o M) : am_E d P Q (pc, L, st, g) ↔ am_C d M (st.take n).reverse g (am_bk P pc L (st.drop n) (am_E d P Q) Q) := by
  refine (am_E_x h).trans ?_
  have e : am_rcv P i st g = true := by
    unfold am_rcv
    rw [hv]
    dsimp only
    rw [hs]
    dsimp only
    rw [hc]
    simp [hc14, ho]
  unfold am_S
  dsimp only
  rw [if_pos e]
  unfold am_inv
  rw [hv]
  dsimp only
  rw [if_pos ⟨by decide, hn, hr⟩]
  exact Iff.rfl
theorem am_E_sp2 {i a k : Nat} (h : am_dc P pc = some (.invokespecial i)) (hv : am_iv P i = some (k, M, n)) (hk : k = 2 ∨ k = 5) (hn : n ≤ st.length) (hr : (st.drop n).length ≤ 4) (hs : st.getD (n - 1) .null = .ref a) : am_E d P Q (pc, L, st, g) ↔ am_C d M (st.take n).reverse g (am_bk P pc L (st.drop n) (am_E d P Q) Q) := by
  refine (am_E_x h).trans ?_
  have e : am_ref P i st = true := by
    unfold am_ref
    rw [hv]
    dsimp only
    rw [hs]
  rcases hk with rfl | rfl
  · unfold am_S
    dsimp only
    rw [hv]
    show am_K d P Q (if am_ref P i st = true then am_inv [2, 5] P i pc L st g else none) ↔ _
    rw [if_pos e]
    unfold am_inv
    rw [hv]
    dsimp only
    rw [if_pos ⟨by decide, hn, hr⟩]
    exact Iff.rfl
  · unfold am_S
    dsimp only
    rw [hv]
    show am_K d P Q (if am_ref P i st = true then am_inv [2, 5] P i pc L st g else none) ↔ _
    rw [if_pos e]
    unfold am_inv
    rw [hv]
    dsimp only
    rw [if_pos ⟨by decide, hn, hr⟩]
    exact Iff.rfl
theorem am_out_nI {j n : Nat} (h : j < n) (hn : n < 2 ^ 31) : am_out (nI j) n = false := by
  unfold am_out
  have h1 : ¬ nI j < 0 := nI_pos (by omega)
  have h2 : (nI j).toNatClampNeg = j := nI_clamp (by omega)
  rw [h2]
  simp [h1]
  omega
end AMX
section AMY
variable {d : Nat} {Q : am_Ou → am_G → Prop} {g : am_G}
theorem l_192 {a : Int32} : am_loc 192 [.int a] = [some (.int a)] := by
  simp [am_loc, am_arg, m_192, Value.category]
def am_isD (a : Int32) : Int32 := if a < 0 then 0 else if 3 ≤ a then 0 else 1
theorem c_192 {a : Int32} : am_C (d + 1) 192 [.int a] g Q ↔ Q (.inl (some (.int (am_isD a)))) g := by
  rw [am_C_in (by simp [am_arg, m_192, Value.category]), l_192]
  simp only [x_192_0, x_192_1, x_192_4, x_192_5, x_192_6, x_192_9, x_192_10, x_192_13, x_192_14, am_ldI, List.getD_cons_zero, am_K_go, am_cmp_lt, am_cmp_ge, am_E_ite]
  unfold am_isD
  by_cases h1 : a < 0
  · simp [h1, am_ok]
  · by_cases h2 : (3 : Int32) ≤ a
    · simp [h1, h2, am_ok]
    · simp [h1, h2, am_ok]
end AMY
