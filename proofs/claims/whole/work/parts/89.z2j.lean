/-! Calls of both sides: rule, the relation. -/
def LU : List Nat := [53, 100, 102, 103, 104, 105, 106, 107, 127, 139, 140, 141, 142, 143, 144, 145, 146, 147, 148, 151, 152, 153, 154, 155, 156] ++ K_r
section RU
variable {d : Nat} {Q : am_Ou → am_G → Prop} {w : mm_Z} {μ μ' N : mm_M} {X : mm_X} {n : mm_N} {e m l k v b s x z r c i R : Int} {T : Nat → Int} {L : Nat}
theorem K_r_n {a : Nat} (h : a ∈ K_r) : 55 ≤ a ∧ a ≤ 94 := by
  have : ∀ a ∈ K_r, 55 ≤ a ∧ a ≤ 94 := by decide
  exact this a h
theorem LU_m {a : Nat} (h : a ∉ LU) : a ≠ 53 ∧ a ≠ 100 ∧ (a < 102 ∨ 107 < a) ∧ a ≠ 127 ∧ (a < 139 ∨ 148 < a) ∧ (a < 151 ∨ 156 < a) ∧ (a < 55 ∨ 94 < a) := by
  have h2 : a ∉ K_r := fun q => h (List.mem_append_right _ q)
  have h3 : a < 55 ∨ 94 < a := by
    refine Decidable.byContradiction fun q => h2 (K_r_m a (by omega) (by omega))
  simp only [LU, List.mem_append, List.mem_cons, List.not_mem_nil, or_false, not_or] at h
  omega
theorem LU_n {a : Nat} (h : a ∈ LU) : a = 53 ∨ a = 100 ∨ (102 ≤ a ∧ a ≤ 107) ∨ a = 127 ∨ (139 ≤ a ∧ a ≤ 148) ∨ (151 ≤ a ∧ a ≤ 156) ∨ (55 ≤ a ∧ a ≤ 94) := by
  rcases List.mem_append.mp h with h | h
  · simp only [List.mem_cons, List.not_mem_nil, or_false] at h
    omega
  · have := K_r_n h
    omega
theorem J_rul (hJ : J μ) (hR : μ 129 11 = R) (hb : ∀ a, a < 178 → a ≠ 129 → a ∉ LU → N a = μ a) (h9 : ∀ j, j ∉ [(0 : Int), 11, 23, 25, 31, 33, 34, 35, 36, 37, 38] → N 129 j = μ 129 j)
    (hs : ∀ (a : Nat) (j : Int), 139 ≤ a → a ≤ 147 → j < rwd a * R → N a j = μ a j) (hs2 : ∀ j, 3 * R + 3 ≤ j → N 139 j = μ 139 j ∧ N 140 j = μ 140 j) (hpat : ∀ e, 0 ≤ e → e < 3 → N 139 (3 * R + e) = μ 148 e ∧ N 140 (3 * R + e) = μ 149 e) (hz : ∀ e, 0 ≤ e → e < 3 → N 148 e = 0 ∧ N 103 e = 0 ∧ N 104 e = 0) (h102 : N 102 4 = 0) (h100 : N 100 1 = 0) (h23 : N 129 23 = 0)
    (hrl : ∀ r, 0 ≤ r → r < R → ∀ k, k ≤ 4 → N (mm_rl (μ 54 r) + k) = μ (mm_rl (μ 54 r) + k)) (hcr : ∀ v e, 0 ≤ v → v < 8 → 0 ≤ e → e < 3 → (0 ≤ N (mm_rl v + 1) e ∧ N (mm_rl v + 1) e ≤ 2) ∧ (0 ≤ N (mm_rl v + 2) e ∧ N (mm_rl v + 2) e ≤ 5)) (hcf : cf_r N) (h53 : N 53 1 = N 129 11)
    (hN : N 129 11 = R ∨ ((N 129 11 = R + 1 ∧ R < 8) ∧ (∀ e, 0 ≤ e → e < 3 → N (mm_rl (μ 54 R) + 1) e = μ 103 e ∧ N (mm_rl (μ 54 R) + 2) e = μ 104 e) ∧ ∃ C S, rd_RC R N C ∧ rd_RS R N S ∧ rd_fok C S ∧ rd_lyr N (μ 54 R) C S)) (hh : J_h N) : J N := by
  obtain ⟨p1, p2, p3, p4⟩ := hJ.2.1
  have hjd := J_jd hJ
  have e54 : N 54 = μ 54 := hb 54 (by decide) (by decide) (by decide)
  have erp : ∀ x, rp N x = rp μ x := fun x => rp_c (hb 130 (by decide) (by decide) (by decide)) (hb 131 (by decide) (by decide) (by decide))
  have hrr : rr_r N := by
    refine ⟨by have := p1.1; rcases hN with q | q <;> omega, fun j j0 j1 => ?_⟩
    by_cases a : j < 3 * R
    · rw [hs 139 j (by decide) (by decide) a, hs 140 j (by decide) (by decide) a]
      exact p1.2 j j0 j1
    · by_cases c : j < 3 * R + 3
      · have h1 := hpat (j - 3 * R) (by omega) (by omega)
        rw [show 3 * R + (j - 3 * R) = j by omega] at h1
        have h2 := hjd.2 (j - 3 * R) (by omega) (by omega)
        rw [h1.1, h1.2, h2.2.2.1]
        refine ⟨h2.1, h2.2.2.2.1, fun q => ?_⟩
        rw [(h2.2.2.2.2 q).1]
        exact h2.2.1
      · rw [(hs2 j (by omega)).1, (hs2 j (by omega)).2]
        exact p1.2 j j0 j1
  refine J_mk LU [0, 11, 23, 25, 31, 33, 34, 35, 36, 37, 38] hb h9 hJ (Or.inl (by decide)) (Or.inr ⟨hrr, ⟨by rw [h53]; exact hrr.1, by rw [e54]; exact p2.2.1, hcr⟩, h53, fun r' x r0 r1 x0 x1 => ?_⟩) (Or.inl (by decide)) (Or.inr fun r' r0 r1 => ?_) (Or.inl (by decide)) (Or.inl (by decide)) (Or.inr ⟨by rw [h102]; decide, fun x x0 x1 => ?_⟩) (Or.inr ⟨by rw [h23, h100], by rw [h100]; decide, fun i i0 i1 => by rw [h100] at i1; omega⟩) (Or.inl (by decide)) (Or.inr hcf) (Or.inl (by decide)) (Or.inr hh)
  · by_cases a : r' < R
    · rw [e54, hrl r' r0 a 1 (by decide), hrl r' r0 a 2 (by decide), hs 139 (3 * r' + x) (by decide) (by decide) (by show 3 * r' + x < 3 * R; omega), hs 140 (3 * r' + x) (by decide) (by decide) (by show 3 * r' + x < 3 * R; omega), erp]
      exact p4 r' x r0 (by omega) x0 x1
    · rcases hN with q | ⟨q, q1, q2⟩
      · omega
      · obtain rfl : r' = R := by omega
        have h2 := hjd.2 x x0 x1
        rw [e54, (q1 x x0 x1).1, (q1 x x0 x1).2, (hpat x x0 x1).1, (hpat x x0 x1).2, erp, h2.2.2.1]
        refine ⟨rfl, fun g => ?_⟩
        have h3 := h2.2.2.2.2 g
        rw [h3.1]
        exact ⟨rfl, h3.2⟩
  · by_cases a : r' < R
    · obtain ⟨C, S, c1, c2, c3, c4⟩ := hJ.2.2.2.1 r' r0 (by omega)
      have hC24 := rd_fok_24 c3
      have hS24 := c3.2.2.1
      refine ⟨C, S, ⟨by rw [hs 141 r' (by decide) (by decide) (by show r' < 1 * R; omega)]; exact c1.1, fun i hi => ?_⟩, ⟨by rw [hs 145 r' (by decide) (by decide) (by show r' < 1 * R; omega)]; exact c2.1, fun j hj => ?_⟩, c3, ?_⟩
      · rw [hs 142 (64 * r' + i) (by decide) (by decide) (by show 64 * r' + (i : Int) < 64 * R; omega), hs 143 (64 * r' + i) (by decide) (by decide) (by show 64 * r' + (i : Int) < 64 * R; omega), hs 144 (64 * r' + i) (by decide) (by decide) (by show 64 * r' + (i : Int) < 64 * R; omega)]
        exact c1.2 i hi
      · rw [hs 146 (24 * r' + j) (by decide) (by decide) (by show 24 * r' + (j : Int) < 24 * R; omega), hs 147 (24 * r' + j) (by decide) (by decide) (by show 24 * r' + (j : Int) < 24 * R; omega)]
        exact c2.2 j hj
      · have h0 := hrl r' r0 a 0 (by decide)
        rw [Nat.add_zero] at h0
        unfold rd_lyr
        rw [e54, h0, hrl r' r0 a 3 (by decide), hrl r' r0 a 4 (by decide)]
        exact c4
    · rcases hN with q | ⟨q, q1, q2⟩
      · omega
      · obtain rfl : r' = R := by omega
        rw [e54]
        exact q2
  · have h2 := hjd.2 x x0 x1
    rw [(hz x x0 x1).1, (hz x x0 x1).2.1, (hz x x0 x1).2.2, hb 149 (by decide) (by decide) (by decide)]
    exact ⟨by decide, by decide, rfl, h2.2.2.2.1, fun q => absurd rfl q⟩
/-- what the class's reader has in its draft fits a rule -/
theorem rd_lay_cf {C : rd_C} {S : rd_S} {f g : Int → Int} (hf : rd_fok C S) (hl : ∀ i, i < C.1 → rd_leg f g C S i) : ∀ j, 0 ≤ j → j < rd_ph C C.1 → (-2147483648 ≤ f j ∧ f j ≤ 2147483647) ∧ (f j = 7 → -2147483648 ≤ g j ∧ g j ≤ 2147483647) := by
  intro j j0 j1
  have hb := rd_fok_b hf
  have hff := hf
  obtain ⟨f1, f2, f3, f4, h, -, -, -, hs⟩ := hff
  obtain ⟨a, a1, a2, a3⟩ := rd_at hb C.1 (Nat.le_refl _) j j0 j1
  obtain ⟨l0, l1, l2, l6, l7⟩ := hl a a1
  have hok := hs a (Nat.zero_le a) a1
  have e1 : rd_ph C (a + 1) = rd_ph C a + 1 + (if (C.2 a).1 = 1 then (C.2 a).2.2 else 0) := rfl
  rw [e1] at a3
  unfold rd_ok1 at hok
  rcases hok with z | z | z | z | z
  · rw [if_neg (by omega)] at a3
    obtain rfl : j = rd_ph C a := by omega
    rw [(l0 z.1).1]
    exact ⟨by decide, fun q => absurd q (by decide)⟩
  · rw [if_pos z.1] at a3
    obtain ⟨p1, p2, p3, p4⟩ := l1 z.1
    by_cases y : j = rd_ph C a
    · rw [y, p2]
      exact ⟨by decide, fun q => absurd q (by decide)⟩
    · have hq := p4 (j - rd_ph C a - 1).toNat (by omega)
      rw [show rd_ph C a + 1 + ((j - rd_ph C a - 1).toNat : Int) = j by omega] at hq
      have hr2 := z.2.2.2.2.2 ((C.2 a).2.1.toNat + (j - rd_ph C a - 1).toNat) (by omega) (by omega)
      rw [hq.1, hq.2]
      exact ⟨by decide, fun _ => by have := hr2.1; omega⟩
  · rw [if_neg (by omega)] at a3
    obtain rfl : j = rd_ph C a := by omega
    rw [l2 z.1.1 z.1.2]
    exact ⟨by omega, fun q => by omega⟩
  · rw [if_neg (by omega)] at a3
    obtain rfl : j = rd_ph C a := by omega
    rw [(l6 z.1).2.1]
    exact ⟨by decide, fun q => absurd q (by decide)⟩
  · rw [if_neg (by omega)] at a3
    obtain rfl : j = rd_ph C a := by omega
    rw [(l7 z.1).2.1]
    exact ⟨by decide, fun q => absurd q (by decide)⟩
end RU
