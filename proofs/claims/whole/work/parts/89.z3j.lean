/-! Calls of both sides: rule. -/
section RU
variable {d : Nat} {Q : am_Ou → am_G → Prop} {w : mm_Z} {μ μ' M : mm_M} {X : mm_X} {n : mm_N} {e m l k v b s x z r c i R : Int} {T : Nat → Int} {L : Nat}
theorem mm_rl_e (h : 0 ≤ v ∧ v < 8) : (mm_rl v : Int) = 55 + 5 * v := by
  rcases (by omega : v = 0 ∨ v = 1 ∨ v = 2 ∨ v = 3 ∨ v = 4 ∨ v = 5 ∨ v = 6 ∨ v = 7) with rfl | rfl | rfl | rfl | rfl | rfl | rfl | rfl <;> rfl
theorem cp_o {a0 a a1 : Nat} {N : Int} (h : a1 ≠ a) : mm_cp μ a0 a N a1 = μ a1 := funext fun j => if_neg fun q => h q.1
theorem cp_at {a0 a : Nat} {N j : Int} : mm_cp μ a0 a N a j = if 0 ≤ j ∧ j < N then μ a0 j else μ a j := by
  unfold mm_cp
  by_cases h : 0 ≤ j ∧ j < N
  · rw [if_pos ⟨rfl, h⟩, if_pos h]
  · rw [if_neg (fun q => h q.2), if_neg h]
theorem cadd_o {a : Nat} (h : a ≤ mm_rl v ∨ mm_rl v + 4 < a) : cadd μ v a = μ a := by
  unfold cadd
  rw [cp_o (by omega), cp_o (by omega), cp_o (by omega), cp_o (by omega)]
theorem cadd_k : (∀ j, cadd μ v (mm_rl v + 1) j = if 0 ≤ j ∧ j < 3 then μ 103 j else μ (mm_rl v + 1) j) ∧ (∀ j, cadd μ v (mm_rl v + 2) j = if 0 ≤ j ∧ j < 3 then μ 104 j else μ (mm_rl v + 2) j) ∧ (∀ j, cadd μ v (mm_rl v + 3) j = if 0 ≤ j ∧ j < 24 then μ 105 j else μ (mm_rl v + 3) j) ∧ (∀ j, cadd μ v (mm_rl v + 4) j = if 0 ≤ j ∧ j < 24 then μ 106 j else μ (mm_rl v + 4) j) := by
  have := mm_rl_r v
  unfold cadd
  refine ⟨fun j => ?_, fun j => ?_, fun j => ?_, fun j => ?_⟩
  · rw [cp_o (by omega), cp_o (by omega), cp_o (by omega), cp_at]
  · rw [cp_o (by omega), cp_o (by omega), cp_at, cp_o (by omega), cp_o (by omega)]
  · rw [cp_o (by omega), cp_at, cp_o (by omega), cp_o (by omega), cp_o (by omega), cp_o (by omega)]
  · rw [cp_at, cp_o (by omega), cp_o (by omega), cp_o (by omega), cp_o (by omega), cp_o (by omega), cp_o (by omega)]
/-- what the reference's rule leaves behind -/
theorem rr_post (h0 : 0 ≤ R) (hf : rd_F2 R (rth M 0) μ') : (∀ a, a ≠ 129 → (a < 139 ∨ 148 < a) → (a < 151 ∨ 156 < a) → mm_u (rpat μ' R 3) 129 23 0 a = M a) ∧ (∀ (a : Nat) (j : Int), 139 ≤ a → a ≤ 147 → j < rwd a * R → mm_u (rpat μ' R 3) 129 23 0 a j = M a j) ∧ (∀ j, 3 * R + 3 ≤ j → mm_u (rpat μ' R 3) 129 23 0 139 j = M 139 j ∧ mm_u (rpat μ' R 3) 129 23 0 140 j = M 140 j) ∧ (∀ e, 0 ≤ e → e < 3 → mm_u (rpat μ' R 3) 129 23 0 139 (3 * R + e) = M 148 e ∧ mm_u (rpat μ' R 3) 129 23 0 140 (3 * R + e) = M 149 e) ∧ (∀ e, 0 ≤ e → e < 3 → mm_u (rpat μ' R 3) 129 23 0 148 e = 0) ∧ (∀ j, j ∉ [(0 : Int), 23, 25, 31, 33, 34, 35, 36] → mm_u (rpat μ' R 3) 129 23 0 129 j = M 129 j) ∧ mm_u (rpat μ' R 3) 129 23 0 129 23 = 0 ∧ mm_u (rpat μ' R 3) 129 23 0 129 0 = 0 ∧ (∀ a, 141 ≤ a → a ≤ 147 → mm_u (rpat μ' R 3) 129 23 0 a = μ' a) := by
  have hm : ∀ (a : Nat) (j : Int), a ≠ 129 → ¬ (((a = 141 ∨ a = 145) ∧ j = R) ∨ ((a = 142 ∨ a = 143 ∨ a = 144) ∧ 64 * R ≤ j ∧ j < 64 * R + 64) ∨ ((a = 146 ∨ a = 147) ∧ 24 * R ≤ j ∧ j < 24 * R + 24) ∨ (151 ≤ a ∧ a ≤ 156)) → μ' a j = M a j := fun a j a1 a2 => by
    rw [hf a j (by
      intro q
      rcases q with q | q | q | q | q
      · exact a1 q.1
      · exact a2 (Or.inl q)
      · exact a2 (Or.inr (Or.inl q))
      · exact a2 (Or.inr (Or.inr (Or.inl q)))
      · exact a2 (Or.inr (Or.inr (Or.inr q)))), rth_row a1]
  refine ⟨fun a a1 a2 a3 => ?_, fun a j a1 a2 a3 => ?_, fun j hj => ?_, fun e e0 e1 => ?_, fun e e0 e1 => ?_, fun j hj => ?_, mm_us, ?_, fun a a1 a2 => ?_⟩
  · funext j
    rw [mm_uu a1, rpat_o ⟨by omega, by omega, by omega⟩, hm a j a1 (by omega)]
  · rw [mm_uu (by omega)]
    by_cases q : a = 139
    · subst q
      have : rwd 139 = 3 := rfl
      rw [this] at a3
      rw [rpat_139, if_neg (by omega), hm 139 j (by decide) (by omega)]
    · by_cases q2 : a = 140
      · subst q2
        have : rwd 140 = 3 := rfl
        rw [this] at a3
        rw [rpat_140, if_neg (by omega), hm 140 j (by decide) (by omega)]
      · rw [rpat_o ⟨q, q2, by omega⟩]
        refine hm a j (by omega) fun z => ?_
        rcases (by omega : a = 141 ∨ a = 142 ∨ a = 143 ∨ a = 144 ∨ a = 145 ∨ a = 146 ∨ a = 147) with h | h | h | h | h | h | h <;> subst h <;> first | (rw [show rwd 141 = 1 from rfl] at a3; omega) | (rw [show rwd 142 = 64 from rfl] at a3; omega) | (rw [show rwd 143 = 64 from rfl] at a3; omega) | (rw [show rwd 144 = 64 from rfl] at a3; omega) | (rw [show rwd 145 = 1 from rfl] at a3; omega) | (rw [show rwd 146 = 24 from rfl] at a3; omega) | (rw [show rwd 147 = 24 from rfl] at a3; omega)
  · rw [mm_uu (by decide), mm_uu (by decide), rpat_139, rpat_140, if_neg (by omega), if_neg (by omega), hm 139 j (by decide) (by omega), hm 140 j (by decide) (by omega)]
    exact ⟨rfl, rfl⟩
  · rw [mm_uu (by decide), mm_uu (by decide), rpat_139, rpat_140, if_pos (by omega), if_pos (by omega), show 3 * R + e - 3 * R = e by omega, hm 148 e (by decide) (by omega), hm 149 e (by decide) (by omega)]
    exact ⟨rfl, rfl⟩
  · rw [mm_uu (by decide), rpat_148, if_pos (by omega)]
  · simp only [List.mem_cons, List.not_mem_nil, or_false, not_or] at hj
    rw [mm_un hj.2.1, rpat_o (by decide), hf 129 j (by omega)]
    unfold rth
    rw [mm_un hj.1]
  · rw [mm_un (by decide), rpat_o (by decide), hf 129 0 (by omega)]
    exact mm_us
  · rw [mm_uu (by omega), rpat_o ⟨by omega, by omega, by omega⟩]
end RU
