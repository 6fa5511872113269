/-! The reference's under: a pattern of a contract with a loop. -/
section AMY
variable {d : Nat} {Q : am_Ou → am_G → Prop} {g : am_G}
def am_un (f : Nat → Int32) (k : Nat) (top : Int32) : Nat → Int32 → Int32
  | 0, v => v
  | n + 1, v => if v < 0 then v else if v = top then v else am_un f k top n (f (nI (6 * k + v.toNatClampNeg)).toNatClampNeg)
theorem l_238 {mo : Nat} {a m t : Int32} : am_loc 238 [.ref mo, .int a, .int m, .int t] = [some (.ref mo), some (.int a), some (.int m), some (.int t), none, none] := by
  simp [am_loc, am_arg, m_238, Value.category, List.replicate]
theorem c_238_loop {mo pa k : Nat} {m t : Int32} {V : Nat → Value} {f : Nat → Int32} (h : g.1 mo = some (.inr (11, V))) (hV : V 2 = .ref pa) (hp : g.1 pa = some (.inl (.int, 18, .inl f))) (hf : ∀ j, j < 18 → ¬ (6 : Int32) ≤ f j) (hk : k < 3) :
    ∀ (n : Nat) (v : Int32), n ≤ 6 → ¬ (6 : Int32) ≤ v → (am_E d 238 Q (6, [some (.ref mo), some (.int (nI k)), some (.int m), some (.int t), some (.int v), some (.int (nI (6 - n)))], [], g) ↔ Q (.inl (some (.int (if am_un f k t n v = t then 1 else 0)))) g) := by
  have e2 : am_gf g mo 11 2 = some (.ref pa) := by rw [am_gf_at h, hV]
  have tail : ∀ (L : am_Lo) (v : Int32), L.getD 4 none = some (.int v) → L.getD 3 none = some (.int t) → (am_E d 238 Q (44, L, [], g) ↔ Q (.inl (some (.int (if v = t then 1 else 0)))) g) := by
    intro L v h1 h2
    simp only [x_238_44, am_lvI h1, x_238_46, am_lvI h2, x_238_47, am_cmp_ne, am_E_ite, x_238_50, x_238_51, x_238_54, x_238_55]
    by_cases h3 : v = t
    · simp [h3, am_ok]
    · simp [h3, am_ok]
  intro n
  induction n with
  | zero =>
    intro v _ _
    simp only [x_238_6, x_238_8, x_238_10, am_ldI, List.getD_cons_zero, List.getD_cons_succ, am_K_go, am_cmp_ge, am_E_ite]
    have hge : (6 : Int32) ≤ nI (6 - 0) := nI_le (a := 6) (b := 6 - 0) (by omega) (by omega)
    rw [if_pos hge, tail _ v rfl rfl]
    exact Iff.rfl
  | succ n ih =>
    intro v hn hv
    simp only [x_238_6, x_238_8, x_238_10, x_238_13, x_238_15, x_238_18, x_238_20, x_238_21, am_ldI, List.getD_cons_zero, List.getD_cons_succ, am_K_go, am_cmp_ge, am_cmp_lt, am_cmp_eq, am_E_ite]
    have hlt : ¬ (6 : Int32) ≤ nI (6 - (n + 1)) := nI_ge (show 6 - (n + 1) < 6 by omega) (by decide)
    rw [if_neg hlt]
    unfold am_un
    by_cases h1 : v < 0
    · rw [if_pos h1, if_pos h1, tail _ v rfl rfl]
    · rw [if_neg h1, if_neg h1]
      by_cases h2 : v = t
      · rw [if_pos h2, if_pos h2, tail _ v rfl rfl]
      · rw [if_neg h2, if_neg h2]
        obtain ⟨j, hj, rfl⟩ := am_mx h1 hv
        have e3 : (nI j).toNatClampNeg = j := nI_clamp (by omega)
        rw [e3]
        have e4 : am_iat .iaload g pa (nI (6 * k + j)) = some (.int (f (nI (6 * k + j)).toNatClampNeg)) := am_iat_i hp (am_out_nI (by omega) (by decide))
        have e5 : nI (6 - (n + 1)) + 1 = nI (6 - n) := by
          rw [← nI_succ]
          congr 1
          omega
        have h6 : ¬ (6 : Int32) ≤ f (nI (6 * k + j)).toNatClampNeg := hf _ (by rw [nI_clamp (by omega)]; omega)
        simp only [x_238_24, x_238_25, x_238_28, x_238_30, x_238_31, x_238_32, x_238_34, x_238_35, x_238_36, x_238_41, am_ldA, am_ldI, am_stI, List.getD_cons_zero, List.getD_cons_succ, am_K_go, e2, am_kv_some, am_ix, e4]
        have hx := ih (f (nI (6 * k + j)).toNatClampNeg) (by omega) h6
        rw [if_pos (by simp)]
        rw [am_K_go, x_238_38 (x := nI (6 - (n + 1))) rfl (by simp [am_s1, am_clr, Value.category]), x_238_41, e5]
        exact hx
theorem c_238 {mo pa k : Nat} {m t : Int32} {V : Nat → Value} {f : Nat → Int32} (h : g.1 mo = some (.inr (11, V))) (hV : V 2 = .ref pa) (hp : g.1 pa = some (.inl (.int, 18, .inl f))) (hf : ∀ j, j < 18 → ¬ (6 : Int32) ≤ f j) (hk : k < 3) (hm : ¬ (6 : Int32) ≤ m) :
    am_C (d + 1) 238 [.ref mo, .int (nI k), .int m, .int t] g Q ↔ Q (.inl (some (.int (if am_un f k t 6 m = t then 1 else 0)))) g := by
  rw [am_C_in (by simp [am_arg, m_238, Value.category]), l_238]
  have e1 : ∀ L v, L.getD 2 none = some (.int v) → 5 < L.length → (am_E d 238 Q (0, L, [], g) ↔ am_E d 238 Q (6, am_s1 (am_s1 L 4 (.int v)) 5 (.int 0), [], g)) := by
    intro L v h1 h2
    have h3 : 5 < (am_s1 L 4 (.int v)).length := by unfold am_s1; rw [List.length_set, am_clr_len]; exact h2
    simp only [x_238_0, am_lvI h1, x_238_1, am_stI, if_pos (show 4 < L.length by omega), am_K_go, x_238_3, x_238_4, if_pos h3]
  rw [e1 _ m rfl (by simp)]
  have := c_238_loop (d := d) (Q := Q) h hV hp hf hk (m := m) (t := t) 6 m (by omega) hm
  exact this
end AMY
