/-! What the relation says to each side; calls of both sides: the small ones. -/
section CG
variable {μ μ' : mm_M} {e m l c v r s : Int}
theorem rq_c (h1 : μ' 131 = μ 131) : rq μ' e = rq μ e := by
  funext m
  unfold rq
  rw [h1]
theorem rhere_c (h0 : μ' 130 = μ 130) (h6 : μ' 136 = μ 136) : rhere μ' = rhere μ := by
  unfold rhere
  rw [h0, h6]
theorem rlay_c (h : μ' 137 = μ 137) : ∀ k, rlay μ' c k = rlay μ c k := by
  intro k
  induction k with
  | zero => rfl
  | succ k ih =>
    unfold rlay
    rw [h, ih]
theorem rinner_c (h0 : μ' 130 = μ 130) (h1 : μ' 131 = μ 131) : rinner μ' c = rinner μ c := by
  unfold rinner
  rw [rp_c h0 h1, rp_c h0 h1, rp_c h0 h1]
theorem rwin_c (h0 : μ' 130 = μ 130) (h1 : μ' 131 = μ 131) (h39 : μ' 139 = μ 139) (h40 : μ' 140 = μ 140) : ∀ k, rwin μ' c k = rwin μ c k := by
  have hs : ∀ r, rspc μ' r = rspc μ r := fun r => by unfold rspc rspc1; rw [h39, h40, rq_c h1, rq_c h1, rq_c h1]
  have hf : ∀ r, rfits μ' r c = rfits μ r c := fun r => by unfold rfits rfit; rw [h39, h40, rq_c h1, rq_c h1, rq_c h1, rp_c h0 h1, rp_c h0 h1, rp_c h0 h1]
  intro k
  induction k with
  | zero => rfl
  | succ k ih =>
    unfold rwin
    rw [ih, hf, hs, hs]
theorem rtg_c (h0 : μ' 130 = μ 130) (h1 : μ' 131 = μ 131) : rtg μ' e s m = rtg μ e s m := by
  unfold rtg
  rw [rp_c h0 h1, rq_c h1, h0]
theorem rNv_c (hb : ∀ b, 130 ≤ b → b ≤ 147 → b ≠ 135 → b ≠ 136 → μ' b = μ b) (h11 : μ' 129 11 = μ 129 11) (h46 : μ' 129 46 = μ 129 46) (h65 : μ' 129 65 = μ 129 65) : rNv μ' = rNv μ := by
  have b0 := hb 130 (by decide) (by decide) (by decide) (by decide)
  have b1 := hb 131 (by decide) (by decide) (by decide) (by decide)
  have b2 := hb 132 (by decide) (by decide) (by decide) (by decide)
  have b7 := hb 137 (by decide) (by decide) (by decide) (by decide)
  have b8 := hb 138 (by decide) (by decide) (by decide) (by decide)
  have b9 := hb 139 (by decide) (by decide) (by decide) (by decide)
  have b10 := hb 140 (by decide) (by decide) (by decide) (by decide)
  have b11 := hb 141 (by decide) (by decide) (by decide) (by decide)
  have b12 := hb 142 (by decide) (by decide) (by decide) (by decide)
  have b13 := hb 143 (by decide) (by decide) (by decide) (by decide)
  have b14 := hb 144 (by decide) (by decide) (by decide) (by decide)
  have b16 := hb 146 (by decide) (by decide) (by decide) (by decide)
  have b17 := hb 147 (by decide) (by decide) (by decide) (by decide)
  have e1 : ∀ c, rilay μ' c = rilay μ c := fun c => by unfold rilay; rw [rinner_c b0 b1, rlay_c b7, h46]
  have e2 : ∀ c, rwin μ' c (μ' 129 11).toNat = rwin μ c (μ 129 11).toNat := fun c => by rw [h11, rwin_c b0 b1 b9 b10]
  have e3 : ∀ c, rinner μ' c = rinner μ c := fun c => rinner_c b0 b1
  have e4 : ∀ e m, fo_ch (rp μ' e) m = fo_ch (rp μ e) m := fun e m => by rw [rp_c b0 b1]
  have e5 : ∀ e s m, rtg μ' e s m = rtg μ e s m := fun e s m => rtg_c b0 b1
  unfold rNv
  simp only [e1, e2, e3, e4, e5, b2, b8, b11, b12, b13, b14, b16, b17, h65]
theorem mm_w0 : mm_w 0 = 0 := by decide
end CG
section JJ
variable {μ : mm_M} {e m l c v r s : Int}
theorem J_ct (h : J μ) : ct_a μ := fun e e0 e1 => (h.1 e e0 e1).2.1
theorem J_rt (h : J μ) : rt_a μ := fun e e0 e1 => (h.1 e e0 e1).2.2.1.2.1
theorem J_ro (h : J μ) : ∀ e, 0 ≤ e → e < 3 → rt_ok μ e := fun e e0 e1 => (h.1 e e0 e1).2.2.1
theorem J_cr (h : J μ) : cr_r μ := h.2.1.2.1
theorem J_rr (h : J μ) : rr_r μ := h.2.1.1
theorem J_cg1 (h : J μ) : cg_r μ := h.2.2.1.1
theorem J_cc (h : J μ) : cc_r μ := fun e e0 e1 => (h.2.2.2.2.2.1 e e0 e1).1
theorem J_rc (h : J μ) : rc_r μ := fun e e0 e1 => by have := h.2.2.2.2.2.1 e e0 e1; rw [this.2]; exact this.1
theorem J_jn (h : J μ) : J_n μ := h.2.2.2.2.2.2.2.2.1
theorem J_jh (h : J μ) : J_h μ := h.2.2.2.2.2.2.2.2.2.2.2
theorem J_jx (h : J μ) : J_x μ := h.2.2.2.2.2.2.2.1
theorem J_jd (h : J μ) : J_d μ := h.2.2.2.2.2.2.1
theorem J_rg (h : J μ) : rg_r μ := ⟨by rw [(J_jn h).1]; exact (J_cg1 h).1, fun j j0 j1 => ⟨(h.2.2.1.2.1 j j0 j1).1, by have := (h.2.2.1.2.1 j j0 j1).2; omega⟩⟩
theorem J_there (h : J μ) (he : 0 ≤ e ∧ e < 3) (hm : 0 ≤ m ∧ m < 6) : μ (mm_tr e + 1) m ≠ -2 ↔ μ 130 (6 * e + m) ≠ 0 := by
  rw [(h.1 e he.1 he.2).2.2.2.1 m hm.1 hm.2]
  exact rp_th (J_rt h e he.1 he.2) hm.1 hm.2
theorem J_ch (h : J μ) : ((μ (mm_tr 0 + 1) (μ 128 0) ≠ -2 ∧ μ (mm_tr 1 + 1) (μ 128 1) ≠ -2 ∧ μ (mm_tr 2 + 1) (μ 128 2) ≠ -2) ↔ 0 ≤ rhere μ) ∧ (0 ≤ rhere μ → ccell μ = cc (rhere μ) ∧ rcell μ (rhere μ)) := by
  have c0 := h.2.2.2.2.2.1 0 (by decide) (by decide)
  have c1 := h.2.2.2.2.2.1 1 (by decide) (by decide)
  have c2 := h.2.2.2.2.2.1 2 (by decide) (by decide)
  have t0 := J_there h (e := 0) (m := μ 128 0) (by decide) c0.1
  have t1 := J_there h (e := 1) (m := μ 128 1) (by decide) c1.1
  have t2 := J_there h (e := 2) (m := μ 128 2) (by decide) c2.1
  have q0 := rp_th (e := 0) (J_rt h 0 (by decide) (by decide)) c0.1.1 c0.1.2
  have q1 := rp_th (e := 1) (J_rt h 1 (by decide) (by decide)) c1.1.1 c1.1.2
  have q2 := rp_th (e := 2) (J_rt h 2 (by decide) (by decide)) c2.1.1 c2.1.2
  rw [show (6 : Int) * 0 + μ 128 0 = μ 128 0 by omega] at t0 q0
  rw [show (6 : Int) * 1 + μ 128 1 = 6 + μ 128 1 by omega] at t1 q1
  rw [show (6 : Int) * 2 + μ 128 2 = 12 + μ 128 2 by omega] at t2 q2
  have hr : rhere μ = if μ 130 (μ 128 0) ≠ 0 ∧ μ 130 (6 + μ 128 1) ≠ 0 ∧ μ 130 (12 + μ 128 2) ≠ 0 then μ 128 0 + 6 * μ 128 1 + 36 * μ 128 2 else -1 := by
    unfold rhere
    rw [c0.2, c1.2, c2.2]
  rw [t0, t1, t2]
  by_cases g : μ 130 (μ 128 0) ≠ 0 ∧ μ 130 (6 + μ 128 1) ≠ 0 ∧ μ 130 (12 + μ 128 2) ≠ 0
  · rw [if_pos g] at hr
    have hb : 0 ≤ rhere μ ∧ rhere μ < 216 := by omega
    refine ⟨⟨fun _ => hb.1, fun _ => g⟩, fun _ => ⟨?_, hb, fun e e0 e1 => ?_⟩⟩
    · rw [hr]
      show μ 128 0 * 36 + μ 128 1 * 6 + μ 128 2 * 1 = _
      unfold cc
      omega
    · rw [hr]
      rcases (by omega : e = 0 ∨ e = 1 ∨ e = 2) with rfl | rfl | rfl
      · show rp μ 0 ((μ 128 0 + 6 * μ 128 1 + 36 * μ 128 2) % 6) ≠ -2
        rw [show (μ 128 0 + 6 * μ 128 1 + 36 * μ 128 2) % 6 = μ 128 0 by omega]
        exact q0.mpr g.1
      · show rp μ 1 ((μ 128 0 + 6 * μ 128 1 + 36 * μ 128 2) / 6 % 6) ≠ -2
        rw [show (μ 128 0 + 6 * μ 128 1 + 36 * μ 128 2) / 6 % 6 = μ 128 1 by omega]
        exact q1.mpr g.2.1
      · show rp μ 2 ((μ 128 0 + 6 * μ 128 1 + 36 * μ 128 2) / 36) ≠ -2
        rw [show (μ 128 0 + 6 * μ 128 1 + 36 * μ 128 2) / 36 = μ 128 2 by omega]
        exact q2.mpr g.2.2
  · rw [if_neg g] at hr
    exact ⟨⟨fun z => absurd z g, fun z => by omega⟩, fun z => by omega⟩
end JJ
section LC
variable {d : Nat} {w : mm_Z} {μ : mm_M} {X : mm_X} {n : mm_N} {e m l k v : Int}
theorem L_at (hq : mm_Q w) (hJ : J μ) (hn : n0 n) (h1 : -2147483648 ≤ e) (h2 : e ≤ 2147483647) (g1 : -2147483648 ≤ m) (g2 : m ≤ 2147483647) : PRI w X n (d + 200) 2 [.ref 32, .int (Int32.ofInt (e)), .int (Int32.ofInt (m)), .ref 178] 160 [.ref 129, .int (Int32.ofInt (e)), .int (Int32.ofInt (m))] μ := by
  intro Q1 hQ
  have hp := mm_QP hq
  rw [en_2 (d := d + 199), b_2_0 hq, c_25 (d := d + 198) hp h1 h2 g1 g2]
  by_cases a : 0 ≤ e ∧ e < 3
  · rw [if_neg (show ¬ ¬ (0 ≤ e ∧ e < 3) from fun z => z a)]
    by_cases b : 0 ≤ m ∧ m ≤ 5
    · rw [if_neg (show ¬ ¬ (0 ≤ m ∧ m ≤ 5) from fun z => z b), bk_v, b_2_8 hq, mm_w0, mm_gd (by decide)]
      refine hQ 0 _ X n nr_r fun Q2 hQ2 => ?_
      rw [c_160 (d := d + 198) hp h1 h2 g1 g2, if_neg (show ¬ ¬ (0 ≤ e ∧ e < 3) from fun z => z a), if_neg (show ¬ ¬ (0 ≤ m ∧ m ≤ 5) from fun z => z b)]
      have hc := hJ.2.2.2.2.2.1
      have ev : mm_u (mm_u μ 128 e m) 178 0 (mm_w (μ 128 e)) 136 e = μ 128 e := by rw [mm_uu (by decide), mm_uu (by decide)]; exact (hc e a.1 a.2).2
      rw [ev]
      refine hQ2 _ _ (J_mk [128, 136] [0] (fun b b1 b2 b3 => ?_) (fun j hj => ?_) hJ (Or.inl (by decide)) (Or.inl (by decide)) (Or.inl (by decide)) (Or.inl (by decide)) (Or.inl (by decide)) (Or.inr fun e' e0 e1 => ?_) (Or.inl (by decide)) (Or.inl (by decide)) (Or.inl (by decide)) (Or.inl (by decide)) (Or.inl (by decide)) (Or.inl (by decide))) ?_ (fun _ => ?_)
      · simp only [List.mem_cons, List.not_mem_nil, or_false, not_or] at b3
        unfold rth
        rw [mm_uu b3.2, mm_uu b2, mm_uu (by omega), mm_uu b3.1]
      · simp only [List.mem_cons, List.not_mem_nil, or_false] at hj
        unfold rth
        rw [mm_uu (by decide), mm_un hj, mm_uu (by decide), mm_uu (by decide)]
      · unfold rth
        rw [mm_uu (show (128 : Nat) ≠ 136 by decide), mm_uu (show (128 : Nat) ≠ 129 by decide), mm_uu (show (128 : Nat) ≠ 178 by decide)]
        have := hc e' e0 e1
        by_cases z : e' = e
        · subst z
          rw [mm_us, mm_us]
          exact ⟨⟨b.1, by omega⟩, rfl⟩
        · rw [mm_un z, mm_un z, mm_uu (by decide), mm_uu (by decide), mm_uu (by decide)]
          exact this
      · unfold rth
        rw [mm_uu (by decide), mm_us]
      · unfold rth
        rw [mm_uu (by decide), mm_uu (by decide), mm_us]
    · rw [if_pos (show ¬ (0 ≤ m ∧ m ≤ 5) from b)]
      refine ⟨n0_6 hn, ?_⟩
      rw [bk_h (hp := 17) (by decide +kernel), b_2_17 hq]
      refine hQ 2 _ X _ (nr_t hn) fun Q2 hQ2 => ?_
      rw [c_160 (d := d + 198) hp h1 h2 g1 g2, if_neg (show ¬ ¬ (0 ≤ e ∧ e < 3) from fun z => z a), if_pos (show ¬ (0 ≤ m ∧ m ≤ 5) from b)]
      exact hQ2 0 _ (J_th hJ) mm_us (fun z => absurd z (by decide))
  · rw [if_pos (show ¬ (0 ≤ e ∧ e < 3) from a)]
    refine ⟨n0_6 hn, ?_⟩
    rw [bk_h (hp := 13) (by decide +kernel), b_2_13 hq]
    refine hQ 1 _ X _ (nr_t hn) fun Q2 hQ2 => ?_
    rw [c_160 (d := d + 198) hp h1 h2 g1 g2, if_pos (show ¬ (0 ≤ e ∧ e < 3) from a)]
    exact hQ2 0 _ (J_th hJ) mm_us (fun z => absurd z (by decide))
theorem L_fuel (hq : mm_Q w) (hJ : J μ) (hn : n0 n) (g1 : -2147483648 ≤ m) (g2 : m ≤ 2147483647) : PRI w X n (d + 200) 9 [.ref 32, .int (Int32.ofInt (m)), .ref 178] 184 [.ref 129, .int (Int32.ofInt (m))] μ := by
  intro Q1 hQ
  have hp := mm_QP hq
  rw [en_9 (d := d + 199), b_9_0 hq, c_35 (d := d + 198) hp g1 g2]
  by_cases b : 1 ≤ m ∧ m ≤ 2000
  · rw [if_neg (show ¬ ¬ (1 ≤ m ∧ m ≤ 2000) from fun z => z b), bk_v, b_9_7 hq, mm_w0, mm_gd (by decide)]
    refine hQ 0 _ X n nr_r fun Q2 hQ2 => ?_
    rw [c_184 (d := d + 198) hp g1 g2, if_neg (show ¬ ¬ (1 ≤ m ∧ m ≤ 2000) from fun z => z b)]
    have hjn := J_jn hJ
    have ev : mm_u (mm_u μ 122 8 m) 178 0 (mm_w (μ 122 8)) 129 65 = μ 122 8 := by rw [mm_uu (by decide), mm_uu (by decide)]; exact hjn.2.1
    rw [ev]
    refine hQ2 _ _ (J_mk [122] [0, 65] (fun b b1 b2 b3 => ?_) (fun j hj => ?_) hJ (Or.inl (by decide)) (Or.inl (by decide)) (Or.inl (by decide)) (Or.inl (by decide)) (Or.inl (by decide)) (Or.inl (by decide)) (Or.inl (by decide)) (Or.inl (by decide)) (Or.inr ?_) (Or.inl (by decide)) (Or.inl (by decide)) (Or.inl (by decide))) ?_ (fun _ => ?_)
    · simp only [List.mem_cons, List.not_mem_nil, or_false] at b3
      unfold rth
      rw [mm_uu b2, mm_uu b2, mm_uu (by omega), mm_uu b3]
    · simp only [List.mem_cons, List.not_mem_nil, or_false, not_or] at hj
      unfold rth
      rw [mm_un hj.2, mm_un hj.1, mm_uu (by decide), mm_uu (by decide)]
    · unfold J_n rth
      rw [mm_us, mm_un (show (8 : Int) ≠ 65 by decide), mm_un (show (8 : Int) ≠ 0 by decide), mm_un (show (64 : Int) ≠ 65 by decide), mm_un (show (64 : Int) ≠ 0 by decide), mm_un (show (46 : Int) ≠ 65 by decide), mm_un (show (46 : Int) ≠ 0 by decide), mm_uu (show (129 : Nat) ≠ 178 by decide), mm_uu (show (129 : Nat) ≠ 122 by decide), mm_uu (show (95 : Nat) ≠ 129 by decide), mm_uu (show (95 : Nat) ≠ 129 by decide), mm_uu (show (95 : Nat) ≠ 178 by decide), mm_uu (show (95 : Nat) ≠ 122 by decide), mm_uu (show (122 : Nat) ≠ 129 by decide), mm_uu (show (122 : Nat) ≠ 129 by decide), mm_uu (show (122 : Nat) ≠ 178 by decide), mm_us, mm_un (show (9 : Int) ≠ 8 by decide)]
      exact ⟨hjn.1, rfl, b, hjn.2.2.2⟩
    · unfold rth
      rw [mm_un (by decide), mm_us]
    · unfold rth
      rw [mm_uu (by decide), mm_uu (by decide), mm_us]
  · rw [if_pos (show ¬ (1 ≤ m ∧ m ≤ 2000) from b)]
    refine ⟨n0_6 hn, ?_⟩
    rw [bk_h (hp := 12) (by decide +kernel), b_9_12 hq]
    refine hQ 1 _ X _ (nr_t hn) fun Q2 hQ2 => ?_
    rw [c_184 (d := d + 198) hp g1 g2, if_pos (show ¬ (1 ≤ m ∧ m ≤ 2000) from b)]
    exact hQ2 0 _ (J_th hJ) mm_us (fun z => absurd z (by decide))
theorem L_winner (hq : mm_Q w) (hJ : J μ) (hn : n0 n) : PRI w X n (d + 200) 22 [.ref 32, .ref 178] 242 [.ref 129] μ := by
  intro Q1 hQ
  have hp := mm_QP hq
  obtain ⟨hc1, hc2⟩ := J_ch hJ
  have hJo : ∀ v, J (mm_u μ 178 0 v) := fun v => J_o hJ
  have ehere : ∀ v, rhere (mm_u μ 178 0 v) = rhere μ := fun v => rhere_c (mm_uu (by decide)) (mm_uu (by decide))
  rw [en_22 (d := d + 199), b_22_0 hq, c_50 (d := d + 195) hp (J_ct hJ) (J_cr hJ) (J_cc hJ)]
  by_cases a : (μ (mm_tr 0 + 1) (μ 128 0) ≠ -2 ∧ μ (mm_tr 1 + 1) (μ 128 1) ≠ -2 ∧ μ (mm_tr 2 + 1) (μ 128 2) ≠ -2)
  · rw [if_neg (fun z => z a), bk_v, b_22_6 hq, mm_w0, mm_gd (by decide)]
    refine hQ 0 _ X n nr_r fun Q2 hQ2 => ?_
    have h0 := hc1.mp a
    obtain ⟨e1, e2⟩ := hc2 h0
    rw [c_242 (d := d + 195) hp (J_rt (hJo _)) (J_rc (hJo _)) (J_rr (hJo _)), ehere, if_neg (by omega)]
    have hw := (J_win hJ.1 hJ.2.1 e2 (μ 129 11).toNat (by have := (J_rr hJ).1; omega)).1
    rw [← e1] at hw
    rw [rwin_c (mm_uu (by decide)) (mm_uu (by decide)) (mm_uu (by decide)) (mm_uu (by decide)), mm_uu (show (129 : Nat) ≠ 178 by decide), ← hw, ← hJ.2.1.2.2.1]
    refine hQ2 _ _ (J_th (hJo _)) mm_us (fun _ => ?_)
    unfold rth
    rw [mm_uu (by decide), mm_us]
  · rw [if_pos a]
    refine ⟨n0_6 hn, ?_⟩
    rw [bk_h (hp := 11) (by decide +kernel), b_22_11 hq]
    refine hQ 1 _ X _ (nr_t hn) fun Q2 hQ2 => ?_
    rw [c_242 (d := d + 195) hp (J_rt hJ) (J_rc hJ) (J_rr hJ), if_pos (by by_cases z : rhere μ < 0; exact z; exact absurd (hc1.mpr (by omega)) a)]
    exact hQ2 0 _ (J_th hJ) mm_us (fun z => absurd z (by decide))
theorem L_about (hq : mm_Q w) (hJ : J μ) (hn : n0 n) (h1 : -2147483648 ≤ e) (h2 : e ≤ 2147483647) (g1 : -2147483648 ≤ m) (g2 : m ≤ 2147483647) (k1 : -2147483648 ≤ k) (k2 : k ≤ 2147483647) : PRI w X n (d + 200) 1 [.ref 32, .int (Int32.ofInt (e)), .int (Int32.ofInt (m)), .int (Int32.ofInt (k)), .ref 178] 157 [.ref 129, .int (Int32.ofInt (e)), .int (Int32.ofInt (m)), .int (Int32.ofInt (k))] μ := by
  intro Q1 hQ
  have hp := mm_QP hq
  have hJo : ∀ v, J (mm_u μ 178 0 v) := fun v => J_o hJ
  have thr : ∀ k', (1 ≤ k' ∧ k' ≤ 2) → ∀ (P : ∀ Q2, (∀ (b : Int) (μ2 : mm_M), J μ2 → μ2 129 0 = k' → (mm_w k' = 0 → μ2 178 0 = mm_w b) → Q2 (.inl (some (.int (Int32.ofInt (b))))) (mm_hp w μ2 X (mm_th n))) → am_C (d + 200) 157 [.ref 129, .int (Int32.ofInt (e)), .int (Int32.ofInt (m)), .int (Int32.ofInt (k))] (mm_hp w μ X (mm_th n)) Q2), Q1 (.inl (some (.int (Int32.ofInt (k'))))) (mm_hp w μ X (mm_th n)) := fun k' _ P => hQ k' _ X _ (nr_t hn) P
  rw [en_1 (d := d + 199), b_1_0 hq, c_24 (d := d + 196) hp (J_ct hJ) h1 h2 g1 g2 k1 k2]
  have href : ∀ (μ : mm_M) (n : mm_N) (Q2 : am_Ou → am_G → Prop), J μ → (am_C (d + 200) 157 [.ref 129, .int (Int32.ofInt (e)), .int (Int32.ofInt (m)), .int (Int32.ofInt (k))] (mm_hp w μ X n) Q2 ↔ _) := fun μ n Q2 h => c_157 (d := d + 197) (Q := Q2) (μ := μ) (X := X) (n := n) hp (J_rt h) (J_ro h) h1 h2 g1 g2 k1 k2
  by_cases a : 0 ≤ e ∧ e < 3 ∧ 0 ≤ m ∧ m < 6 ∧ μ (mm_tr e + 1) m ≠ -2
  · have a' : 0 ≤ e ∧ e < 3 ∧ 0 ≤ m ∧ m < 6 ∧ μ 130 (6 * e + m) ≠ 0 := ⟨a.1, a.2.1, a.2.2.1, a.2.2.2.1, (J_there hJ ⟨a.1, a.2.1⟩ ⟨a.2.2.1, a.2.2.2.1⟩).mp a.2.2.2.2⟩
    have hm : rp μ e m ≠ -2 := (rp_th (J_rt hJ e a.1 a.2.1) a.2.2.1 a.2.2.2.1).mpr a'.2.2.2.2
    rw [if_neg (show ¬ ¬ (0 ≤ e ∧ e < 3 ∧ 0 ≤ m ∧ m < 6 ∧ μ (mm_tr e + 1) m ≠ -2) from fun z => z a)]
    obtain ⟨⟨t1, t2, t3, t4, t5⟩, -, to, ta, tr, -⟩ := hJ.1 e a.1 a.2.1
    have go : ∀ v, (0 ≤ k ∧ k ≤ 3) → v = (if k = 0 then μ 131 (6 * e + m) else if k = 1 then μ 132 (6 * e + m) else if k = 2 then fo_dp (rq μ e) 6 m else if m ∈ fo_L (rp μ e) then ((fo_L (rp μ e)).idxOf m : Int) else -1) → am_bk 1 7 [some (.ref 32), some (.int (Int32.ofInt (e))), some (.int (Int32.ofInt (m))), some (.int (Int32.ofInt (k))), some (.ref 178), none] [.int (Int32.ofInt (0)), .ref 178] (am_E (d + 199) 1 Q1) Q1 (.inl (some (.int (Int32.ofInt (v))))) (mm_hp w μ X n) := by
      intro v hk hv
      rw [bk_v, b_1_10 hq, mm_w0, mm_gd (by decide)]
      refine hQ 0 _ X n nr_r fun Q2 hQ2 => ?_
      rw [href _ _ _ (hJo _), if_neg (fun z => z (by rw [mm_uu (by decide)]; exact a')), if_neg (fun z => z hk), mm_uu (show (131 : Nat) ≠ 178 by decide), mm_uu (show (132 : Nat) ≠ 178 by decide), rq_c (mm_uu (by decide)), rp_c (mm_uu (by decide)) (mm_uu (by decide)), ← hv]
      refine hQ2 _ _ (J_th (hJo _)) mm_us (fun _ => ?_)
      unfold rth
      rw [mm_uu (by decide), mm_us]
    by_cases k0 : k = 0
    · rw [if_pos k0]
      refine go _ (by omega) ?_
      rw [if_pos k0, ta m a.2.2.1 a.2.2.2.1, ← rp_q' hm]
      rfl
    · rw [if_neg k0]
      by_cases k1' : k = 1
      · rw [if_pos k1']
        refine go _ (by omega) ?_
        rw [if_neg k0, if_pos k1', tr m a.2.2.1 a.2.2.2.1 hm]
      · rw [if_neg k1']
        by_cases k2' : k = 2
        · rw [if_pos k2']
          refine go _ (by omega) ?_
          rw [if_neg k0, if_neg k1', if_pos k2', J_dep hJ.1 ⟨a.1, a.2.1⟩ a.2.2.1 a.2.2.2.1 hm]
        · rw [if_neg k2']
          by_cases k3' : k = 3
          · rw [if_pos k3']
            refine go _ (by omega) ?_
            rw [if_neg k0, if_neg k1', if_neg k2', t4 m a.2.2.1 a.2.2.2.1, ag_L ta]
          · rw [if_neg k3']
            refine ⟨n0_6 hn, ?_⟩
            rw [bk_h (hp := 19) (by decide +kernel), b_1_19 hq]
            refine thr 2 (by decide) fun Q2 hQ2 => ?_
            rw [href _ _ _ hJ, if_neg (fun z => z a'), if_pos (fun z => by omega)]
            exact hQ2 0 _ (J_th hJ) mm_us (fun z => absurd z (by decide))
  · rw [if_pos a]
    refine ⟨n0_6 hn, ?_⟩
    rw [bk_h (hp := 15) (by decide +kernel), b_1_15 hq]
    refine thr 1 (by decide) fun Q2 hQ2 => ?_
    rw [href _ _ _ hJ, if_pos (fun z => a ⟨z.1, z.2.1, z.2.2.1, z.2.2.2.1, (J_there hJ ⟨z.1, z.2.1⟩ ⟨z.2.2.1, z.2.2.2.1⟩).mpr z.2.2.2.2⟩)]
    exact hQ2 0 _ (J_th hJ) mm_us (fun z => absurd z (by decide))
end LC
