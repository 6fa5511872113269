/-! Undo and redo of both sides. -/
/-- the changes of an edit carried out: the first k of them; flags from row F, values from row V -/
def rgo (μ : mm_M) (e : Int) (F V : Nat) : Nat → mm_M
  | 0 => μ
  | k + 1 => mm_u (mm_u (rgo μ e F V k) 137 (216 * μ 157 e + μ 159 (216 * e + k)) (μ F (216 * e + k))) 138 (216 * μ 157 e + μ 159 (216 * e + k)) (μ V (216 * e + k))
section JH
variable {μ μ' : mm_M} {e m l c v b x : Int}
theorem rund_go : ∀ k, rund μ e k = rgo μ e 160 161 k := by
  intro k
  induction k with
  | zero => rfl
  | succ k ih => unfold rund rgo; rw [ih]
theorem rred_go : ∀ k, rred μ e k = rgo μ e 162 163 k := by
  intro k
  induction k with
  | zero => rfl
  | succ k ih => unfold rred rgo; rw [ih]
theorem rgo_row {F V : Nat} : ∀ (k : Nat) (a : Nat), a ≠ 137 → a ≠ 138 → rgo μ e F V k a = μ a := by
  intro k
  induction k with
  | zero => intro a _ _; rfl
  | succ k ih =>
    intro a h1 h2
    unfold rgo
    rw [mm_uu h2, mm_uu h1, ih a h1 h2]
theorem rgo_v {F V : Nat} : ∀ (K : Nat), (∀ k : Nat, k < K → 0 ≤ μ 159 (216 * e + k) ∧ μ 159 (216 * e + k) < 216) →
    (∀ j, ¬ (216 * μ 157 e ≤ j ∧ j < 216 * μ 157 e + 216) → rgo μ e F V K 137 j = μ 137 j ∧ rgo μ e F V K 138 j = μ 138 j)
    ∧ ∀ c, 0 ≤ c → c < 216 → (∃ k : Nat, k < K ∧ μ 159 (216 * e + k) = c ∧ rgo μ e F V K 137 (216 * μ 157 e + c) = μ F (216 * e + k) ∧ rgo μ e F V K 138 (216 * μ 157 e + c) = μ V (216 * e + k)) ∨ ((∀ k : Nat, k < K → μ 159 (216 * e + k) ≠ c) ∧ rgo μ e F V K 137 (216 * μ 157 e + c) = μ 137 (216 * μ 157 e + c) ∧ rgo μ e F V K 138 (216 * μ 157 e + c) = μ 138 (216 * μ 157 e + c)) := by
  intro K
  induction K with
  | zero => intro _; exact ⟨fun j _ => ⟨rfl, rfl⟩, fun c _ _ => Or.inr ⟨fun k hk => by omega, rfl, rfl⟩⟩
  | succ K ih =>
    intro hk
    obtain ⟨i1, i2⟩ := ih (fun k h => hk k (by omega))
    have hK := hk K (by omega)
    have e7 : ∀ j, rgo μ e F V (K + 1) 137 j = if j = 216 * μ 157 e + μ 159 (216 * e + K) then μ F (216 * e + K) else rgo μ e F V K 137 j := fun j => by
      conv => lhs; unfold rgo
      rw [mm_uu (by decide), mm_ux]
      by_cases z : j = 216 * μ 157 e + μ 159 (216 * e + K)
      · rw [if_pos ⟨rfl, z⟩, if_pos z]
      · rw [if_neg (fun q => z q.2), if_neg z]
    have e8 : ∀ j, rgo μ e F V (K + 1) 138 j = if j = 216 * μ 157 e + μ 159 (216 * e + K) then μ V (216 * e + K) else rgo μ e F V K 138 j := fun j => by
      conv => lhs; unfold rgo
      rw [mm_ux]
      by_cases z : j = 216 * μ 157 e + μ 159 (216 * e + K)
      · rw [if_pos ⟨rfl, z⟩, if_pos z]
      · rw [if_neg (fun q => z q.2), if_neg z, mm_uu (by decide)]
    refine ⟨fun j hj => ?_, fun c c0 c1 => ?_⟩
    · rw [e7, e8, if_neg (by omega), if_neg (by omega)]
      exact i1 j hj
    · rw [e7, e8]
      by_cases z : c = μ 159 (216 * e + K)
      · left
        refine ⟨K, by omega, z.symm, ?_, ?_⟩
        · rw [if_pos (by rw [z])]
        · rw [if_pos (by rw [z])]
      · rw [if_neg (by omega), if_neg (by omega)]
        rcases i2 c c0 c1 with ⟨k, k1, k2⟩ | ⟨k1, k2⟩
        · exact Or.inl ⟨k, by omega, k2⟩
        · right
          refine ⟨fun k hk => ?_, k2⟩
          by_cases y : k = K
          · subst y; exact fun q => z q.symm
          · exact k1 k (by omega)
/-- one edit goes over: back (u was e + 1) or forth (u was e) -/
theorem J_h_sw (h : J_h μ) (hl3 : μ 95 1 ≤ 3) {e : Nat} (he : (e : Int) < μ 129 37) {nu : Int} (ho : (μ 129 38 = e + 1 ∧ nu = e) ∨ (μ 129 38 = e ∧ nu = e + 1)) (r38 : μ' 129 38 = nu) (r37 : μ' 129 37 = μ 129 37) (a3 : μ' 107 3 = μ 107 3) (a4 : μ' 107 4 = nu) (a5 : μ' 107 5 = μ 129 37 - nu) (a21 : μ' 121 = μ 121)
    (arow : ∀ z c, 0 ≤ z → z < 12 → 0 ≤ c → c < 216 → μ' (mm_row z) c = if z = (μ 107 3 + e) % 12 then μ (mm_inr (μ 157 e)) c else μ (mm_row z) c) (a95 : μ' 95 1 = μ 95 1) (ai : ∀ l c, 0 ≤ l → l < 3 → 0 ≤ c → c < 216 → μ' (mm_inr l) c = if l = μ 157 e then μ (mm_row ((μ 107 3 + e) % 12)) c else μ (mm_inr l) c)
    (rb : ∀ b, 157 ≤ b → b ≤ 163 → μ' b = μ b) : J_h μ' := by
  obtain ⟨c1, ⟨d1, d2, d3⟩, d4, d5, d6, s, s1, s2⟩ := h
  obtain ⟨k1, k2, k3, k4, k5⟩ := c1
  have hh := s2 e he
  unfold J_he at hh
  obtain ⟨j1, j2, j3, j4, j5, j6, j7⟩ := hh
  refine ⟨⟨by rw [a3]; exact k1, by omega, by omega, by omega, by rw [a21]; exact k5⟩, ⟨by omega, by rw [rb 157 (by decide) (by decide), rb 158 (by decide) (by decide)]; exact d2, by rw [rb 159 (by decide) (by decide), rb 160 (by decide) (by decide), rb 162 (by decide) (by decide)]; exact d3⟩, by rw [rb 161 (by decide) (by decide), rb 163 (by decide) (by decide)]; exact d4, by omega, by omega, s, fun l c l0 l1 c0 c1 => ?_, fun i hi => ?_⟩
  · rw [a95] at l1
    rw [r38, ai l c l0 (by omega) c0 c1]
    have hcur := s1 l c l0 l1 c0 c1
    by_cases z : l = μ 157 e
    · rw [if_pos z, j4 c c0 c1]
      rcases ho with ⟨o1, o2⟩ | ⟨o1, o2⟩
      · rw [if_pos (by omega), o2, z]; rfl
      · rw [if_neg (by omega), o2, z]; rfl
    · rw [if_neg z, ← hcur]
      rcases ho with ⟨o1, o2⟩ | ⟨o1, o2⟩
      · rw [o1, o2]; exact (j3 l c z).symm
      · rw [o1, o2]; exact j3 l c z
  · rw [r37] at hi
    have hi2 := s2 i hi
    unfold J_he at hi2 ⊢
    obtain ⟨m1, m2, m3, m4, m5, m6, m7⟩ := hi2
    rw [a3, a95, a21, r38, rb 157 (by decide) (by decide), rb 158 (by decide) (by decide), rb 159 (by decide) (by decide), rb 160 (by decide) (by decide), rb 161 (by decide) (by decide), rb 162 (by decide) (by decide), rb 163 (by decide) (by decide)]
    refine ⟨m1, m2, m3, fun c c0 c1 => ?_, m5, m6, m7⟩
    rw [arow _ c (by omega) (by omega) c0 c1]
    by_cases z : i = e
    · subst z
      rw [if_pos rfl]
      have hcur := s1 (μ 157 i) c j1.1 j1.2 c0 c1
      rw [← hcur]
      rcases ho with ⟨o1, o2⟩ | ⟨o1, o2⟩
      · rw [if_neg (by omega), o1]; rfl
      · rw [if_pos (by omega), o1]; rfl
    · rw [if_neg (by omega), m4 c c0 c1]
      rcases ho with ⟨o1, o2⟩ | ⟨o1, o2⟩
      · by_cases y : (i : Int) < μ 129 38
        · rw [if_pos y, if_pos (by omega)]
        · rw [if_neg y, if_neg (by omega)]
      · by_cases y : (i : Int) < μ 129 38
        · rw [if_pos y, if_pos (by omega)]
        · rw [if_neg y, if_neg (by omega)]
/-- what comes into the layer -/
theorem J_h_val (h : J_h μ) {e : Nat} (he : (e : Int) < μ 129 37) {F V : Nat} (ho : (μ 129 38 = e + 1 ∧ F = 160 ∧ V = 161) ∨ (μ 129 38 = e ∧ F = 162 ∧ V = 163)) (hc : 0 ≤ c ∧ c < 216) :
    (∀ k, 216 * (e : Int) ≤ k → k < 216 * e + μ 158 e → μ 159 k = c → μ (mm_row ((μ 107 3 + e) % 12)) (cc c) = if μ F k = 0 then -2147483648 else μ V k) ∧ ((∀ k, 216 * (e : Int) ≤ k → k < 216 * e + μ 158 e → μ 159 k ≠ c) → μ (mm_row ((μ 107 3 + e) % 12)) (cc c) = μ (mm_inr (μ 157 e)) (cc c)) := by
  obtain ⟨c1, ⟨d1, d2, d3⟩, d4, d5, d6, s, s1, s2⟩ := h
  have hh := s2 e he
  unfold J_he at hh
  obtain ⟨j1, j2, j3, j4, j5, j6, j7⟩ := hh
  have hcb := cc_b hc.1 hc.2
  have hcur := s1 (μ 157 e) (cc c) j1.1 j1.2 hcb.1 hcb.2
  have hrow := j4 (cc c) hcb.1 hcb.2
  refine ⟨fun k k0 k1 k2 => ?_, fun hno => ?_⟩
  · have := j6 k k0 k1
    rw [k2] at this
    rcases ho with ⟨o1, rfl, rfl⟩ | ⟨o1, rfl, rfl⟩
    · rw [hrow, if_pos (by omega)]; exact this.1
    · rw [hrow, if_neg (by omega)]; exact this.2
  · have hs : s e (μ 157 e) (cc c) = s (e + 1) (μ 157 e) (cc c) := by
      by_cases z : s e (μ 157 e) (cc c) = s (e + 1) (μ 157 e) (cc c)
      · exact z
      · obtain ⟨k, k0, k1, k2⟩ := j7 c hc.1 hc.2 z
        exact absurd k2 (hno k k0 k1)
    rw [hrow, ← hcur]
    rcases ho with ⟨o1, -⟩ | ⟨o1, -⟩
    · rw [if_pos (by omega), hs, o1]; rfl
    · rw [if_neg (by omega), ← hs, o1]; rfl
end JH
section LC
variable {d : Nat} {w : mm_Z} {μ : mm_M} {X : mm_X} {n : mm_N} {e m l k v b : Int}
/-- the relation behind an exchange -/
theorem J_swap (hJ : J μ) {e : Nat} (he : (e : Int) < μ 129 37) {F V : Nat} {nu y : Int} (ho : (μ 129 38 = e + 1 ∧ F = 160 ∧ V = 161 ∧ nu = e) ∨ (μ 129 38 = e ∧ F = 162 ∧ V = 163 ∧ nu = e + 1)) {M μ2 : mm_M} (eM : ∀ a, a < 129 → M a = mm_u (mm_u (mm_sw μ (mm_inr (μ 157 e)) (mm_row ((μ 107 3 + e) % 12)) 216) 107 4 nu) 107 5 (μ 129 37 - nu) a) (hM : ∀ b, b < 129 → μ2 b = M b) (hR : ∀ b, 129 < b → b < 178 → μ2 b = rgo μ e F V (μ 158 e).toNat b) (h9 : ∀ j, j ≠ 0 → μ2 129 j = if j = 38 then nu else μ 129 j) : J μ2 := by
  have hl3 := (J_cg1 hJ).1
  have hjh := J_jh hJ
  obtain ⟨c1, ⟨d1, d2, d3⟩, d4, d5, d6, s, s1, s2⟩ := J_jh hJ
  have hh := s2 e he
  unfold J_he at hh
  obtain ⟨j1, j2, j3, j4, j5, j6, j7⟩ := hh
  have hre := mm_row_r ((μ 107 3 + (e : Int)) % 12)
  have hie := mm_inr_r (μ 157 e)
  have hent : ∀ k : Nat, k < (μ 158 e).toNat → 0 ≤ μ 159 (216 * (e : Int) + k) ∧ μ 159 (216 * (e : Int) + k) < 216 := fun k hk => (d3 _ (by omega) (by omega)).1
  obtain ⟨v1, v2⟩ := rgo_v (μ := μ) (e := e) (F := F) (V := V) (μ 158 e).toNat hent
  have hrow : ∀ z c, 0 ≤ z → z < 12 → 0 ≤ c → c < 216 → μ2 (mm_row z) c = if z = (μ 107 3 + e) % 12 then μ (mm_inr (μ 157 e)) c else μ (mm_row z) c := fun z c z0 z1 c0 c1 => by
    have hz := mm_row_r z
    rw [hM _ (by omega), eM _ (by omega), mm_uu (by omega), mm_uu (by omega)]
    unfold mm_sw
    rw [if_pos ⟨c0, c1⟩, if_neg (by omega)]
    by_cases q : z = (μ 107 3 + e) % 12
    · rw [if_pos (by rw [q]), if_pos q]
    · rw [if_neg (fun t => q ?_), if_neg q]
      unfold mm_row at t
      rw [if_pos ⟨z0, z1⟩, if_pos (by omega)] at t
      omega
  have hinr : ∀ l c, 0 ≤ l → l < 3 → 0 ≤ c → c < 216 → μ2 (mm_inr l) c = if l = μ 157 e then μ (mm_row ((μ 107 3 + e) % 12)) c else μ (mm_inr l) c := fun l c l0 l1 c0 c1 => by
    have hz := mm_inr_r l
    rw [hM _ (by omega), eM _ (by omega), mm_uu (by omega), mm_uu (by omega)]
    unfold mm_sw
    rw [if_pos ⟨c0, c1⟩]
    by_cases q : l = μ 157 e
    · rw [if_pos (by rw [q]), if_pos q]
    · rw [if_neg (mm_inr_ne ⟨l0, l1⟩ ⟨j1.1, by omega⟩ q), if_neg (by omega), if_neg q]
  have hoth : ∀ b, b < 129 → b ≠ 107 → ¬ (97 ≤ b ∧ b ≤ 99) → ¬ (109 ≤ b ∧ b ≤ 120) → μ2 b = μ b := fun b b0 b1 b2 b3 => by
    rw [hM _ b0, eM _ b0, mm_uu b1, mm_uu b1]
    funext j
    unfold mm_sw
    split
    · rw [if_neg (by omega), if_neg (by omega)]
    · rfl
  have h107 : ∀ j, μ2 107 j = if j = 5 then μ 129 37 - nu else if j = 4 then nu else μ 107 j := fun j => by
    rw [hM _ (by decide), eM _ (by decide), mm_ux, mm_ux]
    by_cases q5 : j = 5
    · rw [if_pos ⟨rfl, q5⟩, if_pos q5]
    · rw [if_neg (fun t => q5 t.2), if_neg q5]
      by_cases q4 : j = 4
      · rw [if_pos ⟨rfl, q4⟩, if_pos q4]
      · rw [if_neg (fun t => q4 t.2), if_neg q4]
        unfold mm_sw
        split
        · rw [if_neg (by omega), if_neg (by omega)]
        · rfl
  have hres : ∀ b, 129 < b → b < 178 → b ≠ 137 → b ≠ 138 → μ2 b = μ b := fun b b0 b1 b2 b3 => by rw [hR b b0 b1, rgo_row _ b b2 b3]
  obtain ⟨⟨g0, g1⟩, g2, g3, g4⟩ := hJ.2.2.1
  have FV : ∀ k, 0 ≤ k → k < 2592 → (μ F k = 0 ∨ μ F k = 1) ∧ (-2000000000 ≤ μ V k ∧ μ V k ≤ 2000000000) := fun k k0 k1 => by
    rcases ho with ⟨-, rfl, rfl, -⟩ | ⟨-, rfl, rfl, -⟩
    · exact ⟨(d3 k k0 k1).2.1, (d4 k k0 k1).1⟩
    · exact ⟨(d3 k k0 k1).2.2, (d4 k k0 k1).2⟩
  refine J_mk [97, 98, 99, 107, 109, 110, 111, 112, 113, 114, 115, 116, 117, 118, 119, 120, 137, 138] [0, 38] (fun b b1 b2 b3 => ?_) (fun j hj => ?_) hJ (Or.inl (by decide)) (Or.inl (by decide)) (Or.inr ?_) (Or.inl (by decide)) (Or.inl (by decide)) (Or.inl (by decide)) (Or.inl (by decide)) (Or.inl (by decide)) (Or.inl (by decide)) (Or.inl (by decide)) (Or.inl (by decide)) (Or.inr ?_)
  · simp only [List.mem_cons, List.not_mem_nil, or_false, not_or] at b3
    by_cases q : b < 129
    · exact hoth b q (by omega) (by omega) (by omega)
    · exact hres b (by omega) b1 (by omega) (by omega)
  · simp only [List.mem_cons, List.not_mem_nil, or_false, not_or] at hj
    rw [h9 j hj.1, if_neg hj.2]
  · have e95 : μ2 95 = μ 95 := hoth 95 (by decide) (by decide) (by decide) (by decide)
    refine ⟨⟨by rw [e95]; exact g0, fun l j l0 l1 j0 j1' => ?_⟩, fun j j0 j1' => ?_, fun l c l0 l1 c0 c1 => ?_, fun j j0 j1' => ?_⟩
    · rw [hinr l j l0 l1 j0 j1']
      split
      · have := cc_cc j0 j1'
        have hcb := cc_b j0 j1'
        obtain ⟨w1, w2⟩ := J_h_val (c := cc j) hjh he (F := F) (V := V) (by rcases ho with ⟨a, b, c, d⟩ | ⟨a, b, c, d⟩; exact Or.inl ⟨a, b, c⟩; exact Or.inr ⟨a, b, c⟩) hcb
        rw [this] at w1 w2
        rcases v2 (cc j) hcb.1 hcb.2 with ⟨k, k1, k2, -⟩ | ⟨k1, -⟩
        · rw [w1 (216 * e + k) (by omega) (by omega) k2]
          have := FV (216 * (e : Int) + k) (by omega) (by omega)
          split <;> omega
        · rw [w2 (fun k k0 kk q => k1 (k - 216 * (e : Int)).toNat (by omega) (by rw [show 216 * (e : Int) + ((k - 216 * (e : Int)).toNat : Int) = k by omega]; exact q))]
          exact g1 _ j j1.1 (by omega) j0 j1'
      · exact g1 l j l0 l1 j0 j1'
    · rw [hR 137 (by decide) (by decide), hR 138 (by decide) (by decide)]
      by_cases q : 216 * μ 157 e ≤ j ∧ j < 216 * μ 157 e + 216
      · rcases v2 (j - 216 * μ 157 e) (by omega) (by omega) with ⟨k, k1, k2, k3, k4⟩ | ⟨k1, k3, k4⟩
        · rw [show 216 * μ 157 e + (j - 216 * μ 157 e) = j by omega] at k3 k4
          rw [k3, k4]
          exact FV _ (by omega) (by omega)
        · rw [show 216 * μ 157 e + (j - 216 * μ 157 e) = j by omega] at k3 k4
          rw [k3, k4]
          exact g2 j j0 j1'
      · rw [(v1 j q).1, (v1 j q).2]
        exact g2 j j0 j1'
    · rw [e95] at l1
      have hcb := cc_b c0 c1
      rw [hinr l (cc c) l0 (by omega) hcb.1 hcb.2, hR 137 (by decide) (by decide), hR 138 (by decide) (by decide)]
      by_cases q : l = μ 157 e
      · rw [if_pos q, q]
        obtain ⟨w1, w2⟩ := J_h_val (c := c) hjh he (F := F) (V := V) (by rcases ho with ⟨a, b, c, d⟩ | ⟨a, b, c, d⟩; exact Or.inl ⟨a, b, c⟩; exact Or.inr ⟨a, b, c⟩) ⟨c0, c1⟩
        rcases v2 c c0 c1 with ⟨k, k1, k2, k3, k4⟩ | ⟨k1, k3, k4⟩
        · rw [w1 (216 * e + k) (by omega) (by omega) k2, k3, k4]
        · rw [w2 (fun k k0 kk q => k1 (k - 216 * (e : Int)).toNat (by omega) (by rw [show 216 * (e : Int) + ((k - 216 * (e : Int)).toNat : Int) = k by omega]; exact q)), k3, k4]
          exact g3 _ c j1.1 j1.2 c0 c1
      · have := v1 (216 * l + c) (by omega)
        rw [if_neg q, this.1, this.2]
        exact g3 l c l0 l1 c0 c1
    · rw [e95] at j0
      rw [hR 137 (by decide) (by decide), (v1 j (by omega)).1]
      exact g4 j j0 j1'
  · refine J_h_sw (μ := μ) (nu := nu) hjh hl3.2 he (by rcases ho with ⟨a, b, c, d⟩ | ⟨a, b, c, d⟩; exact Or.inl ⟨a, d⟩; exact Or.inr ⟨a, d⟩) ?_ ?_ ?_ ?_ ?_ ?_ hrow ?_ hinr (fun b b0 b1 => hres b (by omega) (by omega) (by omega) (by omega))
    · rw [h9 38 (by decide), if_pos rfl]
    · rw [h9 37 (by decide), if_neg (by decide)]
    · rw [h107]; rfl
    · rw [h107]; rfl
    · rw [h107]; rfl
    · exact hoth 121 (by decide) (by decide) (by decide) (by decide)
    · rw [hoth 95 (by decide) (by decide) (by decide) (by decide)]
end LC
