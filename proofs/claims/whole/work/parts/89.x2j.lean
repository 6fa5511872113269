/-! The whole relation, and what leaves its parts as they are. -/
def J_u (μ : mm_M) : Prop := ∀ i j, 0 ≤ i → i < 8 → 0 ≤ j → j < 8 → μ 54 i = μ 54 j → i = j
def J_c (μ : mm_M) : Prop := ∀ e, 0 ≤ e → e < 3 → (0 ≤ μ 128 e ∧ μ 128 e < 6) ∧ μ 136 e = μ 128 e
def J_d (μ : mm_M) : Prop := (0 ≤ μ 102 4 ∧ μ 102 4 ≤ 24) ∧ ∀ e, 0 ≤ e → e < 3 → (0 ≤ μ 103 e ∧ μ 103 e ≤ 2) ∧ (0 ≤ μ 104 e ∧ μ 104 e ≤ 5) ∧ μ 148 e = μ 103 e ∧ (-2147483648 ≤ μ 149 e ∧ μ 149 e ≤ 2147483647) ∧ (μ 103 e ≠ 0 → μ 149 e = μ 104 e ∧ rp μ e (μ 104 e) ≠ -2)
def J_x (μ : mm_M) : Prop := μ 129 23 = μ 100 1 ∧ (0 ≤ μ 100 1 ∧ μ 100 1 ≤ 24) ∧ ∀ i, 0 ≤ i → i < μ 100 1 → μ 150 i = μ 101 i ∧ 0 ≤ μ 101 i ∧ μ 101 i ≤ 65535
def J_n (μ : mm_M) : Prop := μ 129 8 = μ 95 1 ∧ μ 129 65 = μ 122 8 ∧ (1 ≤ μ 122 8 ∧ μ 122 8 ≤ 2000) ∧ μ 129 64 = μ 122 9 ∧ (0 ≤ μ 129 46 ∧ μ 129 46 < 3)
/-- the edits: s e is what the layers hold behind e edits -/
def J_he (μ : mm_M) (s : Nat → Int → Int → Int) (e : Nat) : Prop :=
  (0 ≤ μ 157 e ∧ μ 157 e < μ 95 1) ∧ μ 121 ((μ 107 3 + e) % 12) = μ 157 e ∧ (∀ l c, l ≠ μ 157 e → s (e + 1) l c = s e l c)
  ∧ (∀ c, 0 ≤ c → c < 216 → μ (mm_row ((μ 107 3 + e) % 12)) c = if (e : Int) < μ 129 38 then s e (μ 157 e) c else s (e + 1) (μ 157 e) c)
  ∧ (0 ≤ μ 158 e ∧ μ 158 e ≤ 216) ∧ (∀ k, 216 * (e : Int) ≤ k → k < 216 * e + μ 158 e → (s e (μ 157 e) (cc (μ 159 k)) = (if μ 160 k = 0 then -2147483648 else μ 161 k)) ∧ (s (e + 1) (μ 157 e) (cc (μ 159 k)) = if μ 162 k = 0 then -2147483648 else μ 163 k))
  ∧ ∀ c, 0 ≤ c → c < 216 → s e (μ 157 e) (cc c) ≠ s (e + 1) (μ 157 e) (cc c) → ∃ k, 216 * (e : Int) ≤ k ∧ k < 216 * e + μ 158 e ∧ μ 159 k = c
def J_h (μ : mm_M) : Prop := ch_r μ ∧ rh_r μ ∧ (∀ k, 0 ≤ k → k < 2592 → (-2000000000 ≤ μ 161 k ∧ μ 161 k ≤ 2000000000) ∧ (-2000000000 ≤ μ 163 k ∧ μ 163 k ≤ 2000000000)) ∧ μ 107 4 = μ 129 38 ∧ μ 107 4 + μ 107 5 = μ 129 37
  ∧ ∃ s : Nat → Int → Int → Int, (∀ l c, 0 ≤ l → l < μ 95 1 → 0 ≤ c → c < 216 → s (μ 129 38).toNat l c = μ (mm_inr l) c) ∧ ∀ e : Nat, (e : Int) < μ 129 37 → J_he μ s e
def J (μ : mm_M) : Prop := J_t μ ∧ J_p μ ∧ J_g μ ∧ J_f μ ∧ J_u μ ∧ J_c μ ∧ J_d μ ∧ J_x μ ∧ J_n μ ∧ cf_r μ ∧ (∀ j, 0 ≤ j → j < 18 → 0 ≤ μ 132 j ∧ μ 132 j ≤ 4) ∧ J_h μ
/-- rows that calls of trees alone change -/
def Kr (P : Nat → Prop) (μ μ' : mm_M) : Prop := ∀ b, P b → μ' b = μ b
section JC
variable {μ μ' : mm_M} {e m l c v r : Int}
theorem mm_tr_r (h : 0 ≤ e ∧ e < 3) : 35 ≤ mm_tr e ∧ mm_tr e ≤ 47 := by
  rcases (by omega : e = 0 ∨ e = 1 ∨ e = 2) with rfl | rfl | rfl <;> exact ⟨by decide, by decide⟩
theorem mm_rl_r (v : Int) : 55 ≤ mm_rl v ∧ mm_rl v ≤ 90 := by
  unfold mm_rl
  (repeat' split) <;> exact ⟨by decide, by decide⟩
theorem mm_inr_r (v : Int) : 97 ≤ mm_inr v ∧ mm_inr v ≤ 99 := by
  unfold mm_inr
  (repeat' split) <;> exact ⟨by decide, by decide⟩
theorem mm_row_r (v : Int) : 109 ≤ mm_row v ∧ mm_row v ≤ 120 := by
  unfold mm_row
  split
  · exact ⟨by omega, by omega⟩
  · exact ⟨by decide, by decide⟩
theorem rp_c (h0 : μ' 130 = μ 130) (h1 : μ' 131 = μ 131) : rp μ' e = rp μ e := by
  funext m
  unfold rp
  rw [h0, h1]
theorem J_t_c (ha : ∀ b, 35 ≤ b → b ≤ 52 → μ' b = μ b) (hb : ∀ b, 130 ≤ b → b ≤ 134 → μ' b = μ b) (h : J_t μ) : J_t μ' := by
  intro e e0 e1
  have := h e e0 e1
  have ht := mm_tr_r ⟨e0, e1⟩
  have r := rp_c (e := e) (hb 130 (by decide) (by decide)) (hb 131 (by decide) (by decide))
  unfold tr_ok mm_tw rt_ok rt_r at this ⊢
  rw [r, hb 130 (by decide) (by decide), hb 131 (by decide) (by decide), hb 132 (by decide) (by decide), hb 133 (by decide) (by decide), hb 134 (by decide) (by decide), ha (mm_tr e) (by omega) (by omega), ha (mm_tr e + 1) (by omega) (by omega), ha (mm_tr e + 2) (by omega) (by omega), ha (mm_tr e + 3) (by omega) (by omega), ha (mm_tr e + 4) (by omega) (by omega), ha (mm_tr e + 5) (by omega) (by omega)]
  exact this
theorem cr_r_c (h53 : μ' 53 1 = μ 53 1) (h54 : μ' 54 = μ 54) (hr : ∀ b, 55 ≤ b → b ≤ 94 → μ' b = μ b) (h : cr_r μ) : cr_r μ' := by
  obtain ⟨h1, h2, h3⟩ := h
  refine ⟨by rw [h53]; exact h1, by rw [h54]; exact h2, fun v e v0 v1 e0 e1 => ?_⟩
  have := mm_rl_r v
  rw [hr (mm_rl v + 1) (by omega) (by omega), hr (mm_rl v + 2) (by omega) (by omega)]
  exact h3 v e v0 v1 e0 e1
theorem rr_r_c (h11 : μ' 129 11 = μ 129 11) (h39 : μ' 139 = μ 139) (h40 : μ' 140 = μ 140) (h : rr_r μ) : rr_r μ' := by
  unfold rr_r at h ⊢
  rw [h11, h39, h40]
  exact h
theorem J_p_c (h53 : μ' 53 1 = μ 53 1) (h54 : μ' 54 = μ 54) (hr : ∀ b, 55 ≤ b → b ≤ 94 → μ' b = μ b) (h11 : μ' 129 11 = μ 129 11) (h39 : μ' 139 = μ 139) (h40 : μ' 140 = μ 140) (hp : ∀ r e, 0 ≤ r → r < μ 129 11 → 0 ≤ e → e < 3 → μ 139 (3 * r + e) ≠ 0 → rp μ e (μ 140 (3 * r + e)) ≠ -2 → rp μ' e (μ 140 (3 * r + e)) ≠ -2) (h : J_p μ) : J_p μ' := by
  obtain ⟨a1, a2, a3, a4⟩ := h
  refine ⟨rr_r_c h11 h39 h40 a1, cr_r_c h53 h54 hr a2, by rw [h53, h11]; exact a3, fun r e r0 r1 e0 e1 => ?_⟩
  rw [h11] at r1
  have := a4 r e r0 r1 e0 e1
  have hv := mm_rl_r (μ 54 r)
  rw [h54, hr (mm_rl (μ 54 r) + 1) (by omega) (by omega), hr (mm_rl (μ 54 r) + 2) (by omega) (by omega), h39, h40]
  exact ⟨this.1, fun g => ⟨(this.2 g).1, hp r e r0 r1 e0 e1 g (this.2 g).2⟩⟩
theorem cg_r_c (h95 : μ' 95 1 = μ 95 1) (hi : ∀ b, 97 ≤ b → b ≤ 99 → μ' b = μ b) (h : cg_r μ) : cg_r μ' := by
  obtain ⟨h1, h2⟩ := h
  refine ⟨by rw [h95]; exact h1, fun l j l0 l1 j0 j1 => ?_⟩
  have := mm_inr_r l
  rw [hi _ (by omega) (by omega)]
  exact h2 l j l0 l1 j0 j1
theorem J_g_c (h95 : μ' 95 1 = μ 95 1) (hi : ∀ b, 97 ≤ b → b ≤ 99 → μ' b = μ b) (h37 : μ' 137 = μ 137) (h38 : μ' 138 = μ 138) (h : J_g μ) : J_g μ' := by
  obtain ⟨a1, a2, a3, a4⟩ := h
  refine ⟨cg_r_c h95 hi a1, by rw [h37, h38]; exact a2, fun l c l0 l1 c0 c1 => ?_, by rw [h95, h37]; exact a4⟩
  rw [h95] at l1
  have := mm_inr_r l
  rw [hi _ (by omega) (by omega), h37, h38]
  exact a3 l c l0 l1 c0 c1
theorem J_f_c (h54 : μ' 54 = μ 54) (hr : ∀ b, 55 ≤ b → b ≤ 94 → μ' b = μ b) (h11 : μ' 129 11 = μ 129 11) (hb : ∀ b, 141 ≤ b → b ≤ 147 → μ' b = μ b) (h : J_f μ) : J_f μ' := by
  intro r r0 r1
  rw [h11] at r1
  obtain ⟨C, S, a1, a2, a3, a4⟩ := h r r0 r1
  have hv := mm_rl_r (μ 54 r)
  refine ⟨C, S, ?_, ?_, a3, ?_⟩
  · unfold rd_RC at a1 ⊢
    rw [hb 141 (by decide) (by decide), hb 142 (by decide) (by decide), hb 143 (by decide) (by decide), hb 144 (by decide) (by decide)]
    exact a1
  · unfold rd_RS at a2 ⊢
    rw [hb 145 (by decide) (by decide), hb 146 (by decide) (by decide), hb 147 (by decide) (by decide)]
    exact a2
  · unfold rd_lyr at a4 ⊢
    rw [h54, hr (mm_rl (μ 54 r)) (by omega) (by omega), hr (mm_rl (μ 54 r) + 3) (by omega) (by omega), hr (mm_rl (μ 54 r) + 4) (by omega) (by omega)]
    exact a4
theorem J_u_c (h54 : μ' 54 = μ 54) (h : J_u μ) : J_u μ' := by
  unfold J_u at h ⊢
  rw [h54]
  exact h
theorem J_c_c (h28 : μ' 128 = μ 128) (h36 : μ' 136 = μ 136) (h : J_c μ) : J_c μ' := by
  unfold J_c at h ⊢
  rw [h28, h36]
  exact h
theorem J_d_c (h02 : μ' 102 4 = μ 102 4) (h03 : μ' 103 = μ 103) (h04 : μ' 104 = μ 104) (h48 : μ' 148 = μ 148) (h49 : μ' 149 = μ 149) (hp : ∀ e, 0 ≤ e → e < 3 → μ 103 e ≠ 0 → rp μ e (μ 104 e) ≠ -2 → rp μ' e (μ 104 e) ≠ -2) (h : J_d μ) : J_d μ' := by
  refine ⟨by rw [h02]; exact h.1, fun e e0 e1 => ?_⟩
  have := h.2 e e0 e1
  rw [h03, h04, h48, h49]
  exact ⟨this.1, this.2.1, this.2.2.1, this.2.2.2.1, fun g => ⟨(this.2.2.2.2 g).1, hp e e0 e1 g (this.2.2.2.2 g).2⟩⟩
theorem J_x_c (h9 : μ' 129 23 = μ 129 23) (h1 : μ' 100 1 = μ 100 1) (h101 : μ' 101 = μ 101) (h150 : μ' 150 = μ 150) (h : J_x μ) : J_x μ' := by
  unfold J_x at h ⊢
  rw [h9, h1, h101, h150]
  exact h
theorem J_n_c (h8 : μ' 129 8 = μ 129 8) (h95 : μ' 95 1 = μ 95 1) (h65 : μ' 129 65 = μ 129 65) (h228 : μ' 122 8 = μ 122 8) (h64 : μ' 129 64 = μ 129 64) (h229 : μ' 122 9 = μ 122 9) (h46 : 0 ≤ μ' 129 46 ∧ μ' 129 46 < 3) (h : J_n μ) : J_n μ' := by
  unfold J_n at h ⊢
  rw [h8, h95, h65, h228, h64, h229]
  exact ⟨h.1, h.2.1, h.2.2.1, h.2.2.2.1, h46⟩
theorem cf_r_c (hr : ∀ b, 55 ≤ b → b ≤ 94 → μ' b = μ b) (h : cf_r μ) : cf_r μ' := by
  intro v v0 v1
  have := mm_rl_r v
  rw [hr (mm_rl v) (by omega) (by omega), hr (mm_rl v + 3) (by omega) (by omega), hr (mm_rl v + 4) (by omega) (by omega)]
  exact h v v0 v1
theorem ch_r_c (h07 : ∀ j, 3 ≤ j → j ≤ 5 → μ' 107 j = μ 107 j) (h21 : μ' 121 = μ 121) (h : ch_r μ) : ch_r μ' := by
  unfold ch_r at h ⊢
  rw [h07 3 (by decide) (by decide), h07 4 (by decide) (by decide), h07 5 (by decide) (by decide), h21]
  exact h
theorem rh_r_cg (h37 : μ' 129 37 = μ 129 37) (h38 : μ' 129 38 = μ 129 38) (hb : ∀ b, 157 ≤ b → b ≤ 163 → μ' b = μ b) (h : rh_r μ) : rh_r μ' := by
  unfold rh_r at h ⊢
  rw [h37, h38, hb 157 (by decide) (by decide), hb 158 (by decide) (by decide), hb 159 (by decide) (by decide), hb 160 (by decide) (by decide), hb 162 (by decide) (by decide)]
  exact h
theorem J_h_c (h07 : ∀ j, 3 ≤ j → j ≤ 5 → μ' 107 j = μ 107 j) (h21 : μ' 121 = μ 121) (hw : ∀ b, 109 ≤ b → b ≤ 120 → μ' b = μ b) (h95 : μ' 95 1 = μ 95 1) (hi : ∀ b, 97 ≤ b → b ≤ 99 → μ' b = μ b) (h37 : μ' 129 37 = μ 129 37) (h38 : μ' 129 38 = μ 129 38) (hb : ∀ b, 157 ≤ b → b ≤ 163 → μ' b = μ b) (h : J_h μ) : J_h μ' := by
  obtain ⟨a1, a2, a3, a4, a5, s, a6, a7⟩ := h
  refine ⟨ch_r_c h07 h21 a1, rh_r_cg h37 h38 hb a2, ?_, ?_, ?_, s, fun l c l0 l1 c0 c1 => ?_, fun e he => ?_⟩
  · rw [hb 161 (by decide) (by decide), hb 163 (by decide) (by decide)]; exact a3
  · rw [h07 4 (by decide) (by decide), h38]; exact a4
  · rw [h07 4 (by decide) (by decide), h07 5 (by decide) (by decide), h37]; exact a5
  · rw [h95] at l1
    have := mm_inr_r l
    rw [h38, hi _ (by omega) (by omega)]
    exact a6 l c l0 l1 c0 c1
  · rw [h37] at he
    have := a7 e he
    have hv := mm_row_r ((μ 107 3 + (e : Int)) % 12)
    unfold J_he at this ⊢
    rw [h95, h07 3 (by decide) (by decide), h21, h38, hw (mm_row ((μ 107 3 + (e : Int)) % 12)) (by omega) (by omega), hb 157 (by decide) (by decide), hb 158 (by decide) (by decide), hb 159 (by decide) (by decide), hb 160 (by decide) (by decide), hb 161 (by decide) (by decide), hb 162 (by decide) (by decide), hb 163 (by decide) (by decide)]
    exact this
/-- history that is forgotten: no edit is left -/
theorem J_h_0 (h3 : 0 ≤ μ' 107 3 ∧ μ' 107 3 < 12) (h4 : μ' 107 4 = 0) (h5 : μ' 107 5 = 0) (h21 : ∀ s, 0 ≤ s → s < 12 → 0 ≤ μ' 121 s ∧ μ' 121 s < 3) (h37 : μ' 129 37 = 0) (h38 : μ' 129 38 = 0) (hr : ∀ e, 0 ≤ e → e < 12 → (0 ≤ μ' 157 e ∧ μ' 157 e < 3) ∧ (0 ≤ μ' 158 e ∧ μ' 158 e ≤ 216)) (hk : ∀ k, 0 ≤ k → k < 2592 → (0 ≤ μ' 159 k ∧ μ' 159 k < 216) ∧ (μ' 160 k = 0 ∨ μ' 160 k = 1) ∧ (μ' 162 k = 0 ∨ μ' 162 k = 1)) (hv : ∀ k, 0 ≤ k → k < 2592 → (-2000000000 ≤ μ' 161 k ∧ μ' 161 k ≤ 2000000000) ∧ (-2000000000 ≤ μ' 163 k ∧ μ' 163 k ≤ 2000000000)) : J_h μ' := by
  refine ⟨⟨h3, by omega, by omega, by omega, h21⟩, ⟨by omega, hr, hk⟩, hv, by omega, by omega, fun _ l c => μ' (mm_inr l) c, fun l c _ _ _ _ => rfl, fun e he => by omega⟩
/-- history is forgotten by both -/
theorem J_h_f (h07 : μ' 107 3 = μ 107 3) (h4 : μ' 107 4 = 0) (h5 : μ' 107 5 = 0) (h21 : μ' 121 = μ 121) (h37 : μ' 129 37 = 0) (h38 : μ' 129 38 = 0) (hb : ∀ b, 157 ≤ b → b ≤ 163 → μ' b = μ b) (h : J_h μ) : J_h μ' := by
  obtain ⟨a1, a2, a3, -, -, -⟩ := h
  refine J_h_0 (by rw [h07]; exact a1.1) h4 h5 (by rw [h21]; exact a1.2.2.2.2) h37 h38 ?_ ?_ ?_
  · rw [hb 157 (by decide) (by decide), hb 158 (by decide) (by decide)]; exact a2.2.1
  · rw [hb 159 (by decide) (by decide), hb 160 (by decide) (by decide), hb 162 (by decide) (by decide)]; exact a2.2.2
  · rw [hb 161 (by decide) (by decide), hb 163 (by decide) (by decide)]; exact a3
/-- what leaves everything as it is -/
theorem J_cg (hb : ∀ b, b < 178 → b ≠ 129 → μ' b = μ b) (h9 : ∀ j, j = 8 ∨ j = 11 ∨ j = 23 ∨ j = 37 ∨ j = 38 ∨ j = 64 ∨ j = 65 ∨ j = 46 → μ' 129 j = μ 129 j) (h : J μ) : J μ' := by
  obtain ⟨j1, j2, j3, j4, j5, j6, j7, j8, j9, j10, j11, j12⟩ := h
  have e : ∀ b, b < 178 → b ≠ 129 → μ' b = μ b := hb
  have rpe : ∀ e, rp μ' e = rp μ e := fun e => rp_c (hb 130 (by decide) (by decide)) (hb 131 (by decide) (by decide))
  refine ⟨J_t_c (fun b _ _ => hb b (by omega) (by omega)) (fun b _ _ => hb b (by omega) (by omega)) j1, J_p_c (by rw [hb 53 (by decide) (by decide)]) (hb 54 (by decide) (by decide)) (fun b _ _ => hb b (by omega) (by omega)) (h9 11 (by decide)) (hb 139 (by decide) (by decide)) (hb 140 (by decide) (by decide)) (fun r e _ _ _ _ _ g => by rw [rpe]; exact g) j2, J_g_c (by rw [hb 95 (by decide) (by decide)]) (fun b _ _ => hb b (by omega) (by omega)) (hb 137 (by decide) (by decide)) (hb 138 (by decide) (by decide)) j3, J_f_c (hb 54 (by decide) (by decide)) (fun b _ _ => hb b (by omega) (by omega)) (h9 11 (by decide)) (fun b _ _ => hb b (by omega) (by omega)) j4, J_u_c (hb 54 (by decide) (by decide)) j5, J_c_c (hb 128 (by decide) (by decide)) (hb 136 (by decide) (by decide)) j6, J_d_c (by rw [hb 102 (by decide) (by decide)]) (hb 103 (by decide) (by decide)) (hb 104 (by decide) (by decide)) (hb 148 (by decide) (by decide)) (hb 149 (by decide) (by decide)) (fun e _ _ _ g => by rw [rpe]; exact g) j7, J_x_c (h9 23 (by decide)) (by rw [hb 100 (by decide) (by decide)]) (hb 101 (by decide) (by decide)) (hb 150 (by decide) (by decide)) j8, J_n_c (h9 8 (by decide)) (by rw [hb 95 (by decide) (by decide)]) (h9 65 (by decide)) (by rw [hb 122 (by decide) (by decide)]) (h9 64 (by decide)) (by rw [hb 122 (by decide) (by decide)]) (by rw [h9 46 (by decide)]; exact j9.2.2.2.2) j9, cf_r_c (fun b _ _ => hb b (by omega) (by omega)) j10, by rw [hb 132 (by decide) (by decide)]; exact j11, J_h_c (fun j _ _ => by rw [hb 107 (by decide) (by decide)]) (hb 121 (by decide) (by decide)) (fun b _ _ => hb b (by omega) (by omega)) (by rw [hb 95 (by decide) (by decide)]) (fun b _ _ => hb b (by omega) (by omega)) (h9 37 (by decide)) (h9 38 (by decide)) (fun b _ _ => hb b (by omega) (by omega)) j12⟩
end JC
