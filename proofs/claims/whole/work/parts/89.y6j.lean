/-! Calls of both sides: drop. What names a member. -/
section NM
variable {μ μ' : mm_M} {C : rd_C} {S : rd_S} {r v e m : Int}
theorem crn_iff : ∀ (k : Nat) (i : Int), crn μ v e m k i = true ↔ ∃ j : Nat, j < k ∧ μ (mm_rl v + 3) (i + j) = 7 ∧ μ (mm_rl v + 4) (i + j) = 10 * e + m := by
  intro k
  induction k with
  | zero => intro i; exact ⟨fun h => absurd h (by unfold crn; decide), fun ⟨j, h, _⟩ => absurd h (Nat.not_lt_zero j)⟩
  | succ k ih =>
    intro i
    unfold crn
    rw [Bool.or_eq_true, decide_eq_true_iff, ih]
    constructor
    · rintro (h | ⟨j, h1, h2, h3⟩)
      · exact ⟨0, Nat.succ_pos k, by rw [show i + ((0 : Nat) : Int) = i by omega]; exact h.1, by rw [show i + ((0 : Nat) : Int) = i by omega]; exact h.2⟩
      · exact ⟨j + 1, by omega, by rw [show i + ((j + 1 : Nat) : Int) = i + 1 + j by omega]; exact h2, by rw [show i + ((j + 1 : Nat) : Int) = i + 1 + j by omega]; exact h3⟩
    · rintro ⟨j, h1, h2, h3⟩
      cases j with
      | zero => rw [show i + ((0 : Nat) : Int) = i by omega] at h2 h3; exact Or.inl ⟨h2, h3⟩
      | succ j => rw [show i + ((j + 1 : Nat) : Int) = i + 1 + j by omega] at h2 h3; exact Or.inr ⟨j, by omega, h2, h3⟩
theorem rir_s_iff : ∀ k : Nat, rir_s μ e m r k = true ↔ ∃ j : Nat, j < k ∧ μ 146 (24 * r + j) = e ∧ μ 147 (24 * r + j) = 48 + m := by
  intro k
  induction k with
  | zero => exact ⟨fun h => absurd h (by unfold rir_s; decide), fun ⟨j, h, _⟩ => absurd h (Nat.not_lt_zero j)⟩
  | succ k ih =>
    unfold rir_s
    rw [Bool.or_eq_true, decide_eq_true_iff, ih]
    constructor
    · rintro (⟨j, h1, h2⟩ | h)
      · exact ⟨j, by omega, h2⟩
      · exact ⟨k, by omega, h⟩
    · rintro ⟨j, h1, h2⟩
      by_cases z : j = k
      · rw [z] at h2; exact Or.inr h2
      · exact Or.inl ⟨j, by omega, h2⟩
theorem rd_at (hb : ∀ i, i < C.1 → (C.2 i).1 = 1 → 0 ≤ (C.2 i).2.2) : ∀ n : Nat, n ≤ C.1 → ∀ i : Int, 0 ≤ i → i < rd_ph C n → ∃ a, a < n ∧ rd_ph C a ≤ i ∧ i < rd_ph C (a + 1) := by
  intro n
  induction n with
  | zero =>
    intro _ i h0 h1
    have : rd_ph C 0 = 0 := rfl
    omega
  | succ n ih =>
    intro hn i h0 h1
    by_cases z : i < rd_ph C n
    · obtain ⟨a, a1, a2⟩ := ih (by omega) i h0 z
      exact ⟨a, by omega, a2⟩
    · exact ⟨n, by omega, by omega, h1⟩
/-- both sides say alike whether a formula names a member -/
theorem rd_names (hC : rd_RC r μ C) (hS : rd_RS r μ S) (hf : rd_fok C S) (hl : rd_lyr μ v C S) (he : 0 ≤ e ∧ e < 3) (hm : 0 ≤ m ∧ m < 6) : crn μ v e m (μ (mm_rl v) 4).toNat 0 = rir_s μ e m r (μ 145 r).toNat := by
  have hb := rd_fok_b hf
  have hff := hf
  obtain ⟨f1, f2, f3, f4, h, -, -, -, hs⟩ := hff
  refine Bool.eq_iff_iff.mpr ?_
  rw [crn_iff, rir_s_iff, hl.1, hS.1]
  have sg : ∀ x : Int, 0 ≤ x → x < 10 → (sgd x = 48 + m ↔ x = m) := fun x x0 x1 => by
    unfold sgd
    (repeat' split) <;> omega
  have hrf : ∀ i, i < C.1 → (C.2 i).1 = 1 → rd_rf S (C.2 i).2.1 (C.2 i).2.2 := fun i hi g => by
    have := hs i (Nat.zero_le i) hi
    unfold rd_ok1 at this
    rcases this with z | z | z | z | z
    · omega
    · exact z.2.2
    · omega
    · omega
    · omega
  constructor
  · rintro ⟨j, h1, h2, h3⟩
    rw [Int.zero_add] at h2 h3
    obtain ⟨a, a1, a2, a3⟩ := rd_at hb C.1 (Nat.le_refl _) j (by omega) (by omega)
    obtain ⟨l0, l1, l2, l6, l7⟩ := hl.2 a a1
    have hok := hs a (Nat.zero_le a) a1
    have e1 : rd_ph C (a + 1) = rd_ph C a + 1 + (if (C.2 a).1 = 1 then (C.2 a).2.2 else 0) := rfl
    rw [e1] at a3
    have hat : ∀ y : Int, y = rd_ph C a → (j : Int) = y → μ (mm_rl v + 3) (rd_ph C a) = 7 := fun y y1 y2 => by rw [← y1, ← y2]; exact h2
    unfold rd_ok1 at hok
    rcases hok with z | z | z | z | z
    · rw [if_neg (by omega)] at a3
      have := hat _ rfl (by omega)
      rw [(l0 z.1).1] at this
      omega
    · rw [if_pos z.1] at a3
      obtain ⟨p1, p2, p3, p4⟩ := l1 z.1
      by_cases y : (j : Int) = rd_ph C a
      · have := hat _ rfl y
        rw [p2] at this
        omega
      · have hq := p4 (j - rd_ph C a - 1).toNat (by omega)
        rw [show rd_ph C a + 1 + (((j : Int) - rd_ph C a - 1).toNat : Int) = j by omega] at hq
        have hr := hrf a a1 z.1
        have hr2 := hr.2.2.2 ((C.2 a).2.1.toNat + (j - rd_ph C a - 1).toNat) (by omega) (by omega)
        have hs1 := hS.2 ((C.2 a).2.1.toNat + (j - rd_ph C a - 1).toNat) (by omega)
        have hu : (C.2 a).2.1.toNat + ((j : Int) - rd_ph C a - 1).toNat < S.1 := by omega
        generalize (C.2 a).2.1.toNat + ((j : Int) - rd_ph C a - 1).toNat = u at *
        have hg := hq.2
        rw [h3] at hg
        refine ⟨u, by omega, by rw [hs1.1]; omega, by rw [hs1.2]; exact (sg _ hr2.1.2.1 hr2.1.2.2).mpr (by omega)⟩
    · rw [if_neg (by omega)] at a3
      have := hat _ rfl (by omega)
      rw [l2 z.1.1 z.1.2] at this
      omega
    · rw [if_neg (by omega)] at a3
      have := hat _ rfl (by omega)
      rw [(l6 z.1).2.1] at this
      omega
    · rw [if_neg (by omega)] at a3
      have := hat _ rfl (by omega)
      rw [(l7 z.1).2.1] at this
      omega
  · rintro ⟨u, h1, h2, h3⟩
    obtain ⟨a, a1, a2, a3, a4⟩ := f4 u (by omega)
    obtain ⟨p1, p2, p3, p4⟩ := (hl.2 a a1).2.1 a2
    have hr := hrf a a1 a2
    have hr2 := hr.2.2.2 u (by omega) (by omega)
    have hs1 := hS.2 u (by omega)
    have hq := p4 (u - (C.2 a).2.1.toNat) (by omega)
    rw [show (C.2 a).2.1.toNat + (u - (C.2 a).2.1.toNat) = u by omega] at hq
    have hph := rd_fok_m hf (show a + 1 ≤ C.1 by omega) (Nat.le_refl _)
    have e1 : rd_ph C (a + 1) = rd_ph C a + 1 + (if (C.2 a).1 = 1 then (C.2 a).2.2 else 0) := rfl
    rw [if_pos a2] at e1
    have hph0 := rd_fok_m hf (Nat.zero_le a) (show a ≤ C.1 by omega)
    have e0 : rd_ph C 0 = 0 := rfl
    have hm' : (S.2 u).2 = m := (sg _ hr2.1.2.1 hr2.1.2.2).mp (by rw [← hs1.2]; exact h3)
    have he' : (S.2 u).1 = e := by rw [← hs1.1]; exact h2
    refine ⟨(rd_ph C a + 1 + ((u - (C.2 a).2.1.toNat : Nat) : Int)).toNat, by omega, ?_, ?_⟩
    · rw [show (0 : Int) + ((rd_ph C a + 1 + ((u - (C.2 a).2.1.toNat : Nat) : Int)).toNat : Int) = rd_ph C a + 1 + ((u - (C.2 a).2.1.toNat : Nat) : Int) by omega]
      exact hq.1
    · rw [show (0 : Int) + ((rd_ph C a + 1 + ((u - (C.2 a).2.1.toNat : Nat) : Int)).toNat : Int) = rd_ph C a + 1 + ((u - (C.2 a).2.1.toNat : Nat) : Int) by omega, hq.2, hm', he']
/-- both sides say alike whether the rules name a member -/
theorem J_names (hJ : J μ) (he : 0 ≤ e ∧ e < 3) (hm : 0 ≤ m ∧ m < 6) : crns μ e m (μ 53 1).toNat 0 = rir μ e m (μ 129 11).toNat := by
  obtain ⟨p1, p2, p3, p4⟩ := hJ.2.1
  rw [p3]
  have hone : ∀ r, 0 ≤ r → r < μ 129 11 → crn1 μ (μ 54 r) e m = (decide (0 < μ 139 (3 * r + e) ∧ μ 140 (3 * r + e) = m) || rir_s μ e m r (μ 145 r).toNat) := fun r r0 r1 => by
    obtain ⟨C, S, c1, c2, c3, c4⟩ := hJ.2.2.2.1 r r0 r1
    unfold crn1
    rw [rd_names c1 c2 c3 c4 he hm]
    congr 1
    refine decide_eq_decide.mpr ?_
    have h := p4 r e r0 r1 he.1 he.2
    have hr := p1.2 (3 * r + e) (by omega) (by have := p1.1; omega)
    rw [h.1]
    constructor
    · rintro ⟨a, b⟩
      exact ⟨by omega, by rw [← (h.2 a).1]; exact b⟩
    · rintro ⟨a, b⟩
      exact ⟨by omega, by rw [(h.2 (by omega)).1]; exact b⟩
  have key : ∀ (k i : Nat), (i : Int) + k ≤ μ 129 11 → (rir μ e m i || crns μ e m k i) = rir μ e m (i + k) := by
    intro k
    induction k with
    | zero => intro i _; unfold crns; rw [Bool.or_false]; rfl
    | succ k ih =>
      intro i hi
      have := ih (i + 1) (by omega)
      unfold crns
      rw [hone i (by omega) (by omega), ← Bool.or_assoc]
      have e1 : rir μ e m (i + 1) = (rir μ e m i || decide (0 < μ 139 (3 * (i : Int) + e) ∧ μ 140 (3 * (i : Int) + e) = m) || rir_s μ e m i (μ 145 i).toNat) := rfl
      rw [← Bool.or_assoc, ← e1, show i + (k + 1) = i + 1 + k by omega, ← this]
      rfl
  have h11 := p1.1
  have := key (μ 129 11).toNat 0 (by omega)
  rw [Nat.zero_add] at this
  rw [← this]
  rfl
end NM
