/-! Calls of both sides: rule, the call. -/
section RU
variable {d : Nat} {Q : am_Ou → am_G → Prop} {w : mm_Z} {μ μ' M : mm_M} {X : mm_X} {n : mm_N} {e m l k v b s x z r c i R : Int} {T : Nat → Int} {L : Nat}
/-- what the class's rule leaves behind a formula -/
def cend (μ : mm_M) : mm_M := mm_u (mm_u (mm_fi (mm_fi μ 103 3 0) 104 3 0) 102 4 0) 100 1 0
theorem cend_o {a : Nat} (h : a ≠ 100 ∧ a ≠ 102 ∧ a ≠ 103 ∧ a ≠ 104) : cend μ a = μ a := by
  unfold cend
  rw [mm_uu h.1, mm_uu h.2.1, mm_fi_ne h.2.2.2, mm_fi_ne h.2.2.1]
theorem cend_v : (∀ e, 0 ≤ e → e < 3 → cend μ 103 e = 0 ∧ cend μ 104 e = 0) ∧ cend μ 102 4 = 0 ∧ cend μ 100 1 = 0 := by
  unfold cend
  refine ⟨fun e e0 e1 => ⟨?_, ?_⟩, ?_, mm_us⟩
  · rw [mm_uu (by decide), mm_uu (by decide), mm_fi_ne (by decide), mm_fi_at e0 e1]
  · rw [mm_uu (by decide), mm_uu (by decide), mm_fi_at e0 e1]
  · rw [mm_uu (by decide), mm_us]
/-- the class's new rule -/
def cnew (μ : mm_M) : mm_M := chf (mm_u (mm_u (cadd μ (μ 54 (μ 53 1))) (mm_rl (μ 54 (μ 53 1))) 4 (cadd μ (μ 54 (μ 53 1)) 102 4)) 53 1 (mm_u (cadd μ (μ 54 (μ 53 1))) (mm_rl (μ 54 (μ 53 1))) 4 (cadd μ (μ 54 (μ 53 1)) 102 4) 53 1 + 1))
theorem c_42 (hq : mm_P w) (hr : cr_r μ) (h : rd_tx T L μ)
    (q1 : ¬ μ 53 1 < 8 → mm_thr Q w μ X n 2)
    (q2 : μ 53 1 < 8 → ¬ ((rd_F T L 3 0 rd_C0 rd_S0).1 = true ∧ L ≤ (rd_F T L 3 0 rd_C0 rd_S0).2.1) → (rd_F T L 3 0 rd_C0 rd_S0).2.1 ≤ L → ∀ μ', rd_fr μ μ' → Q (.inl (some (.int (Int32.ofInt (((rd_F T L 3 0 rd_C0 rd_S0).2.1 : Int) + 1))))) (mm_hp w (cend μ') X n))
    (q3 : μ 53 1 < 8 → ((rd_F T L 3 0 rd_C0 rd_S0).1 = true ∧ L ≤ (rd_F T L 3 0 rd_C0 rd_S0).2.1) → ∀ μ', rd_fr μ μ' → rd_lay μ' (rd_F T L 3 0 rd_C0 rd_S0).2.2.1 (rd_F T L 3 0 rd_C0 rd_S0).2.2.2 → Q (.inl (some (.int (Int32.ofInt (-1 + 1))))) (mm_hp w (cend (cnew μ')) X n)) : am_C (d + 27) 42 [.ref 32] (mm_hp w μ X n) Q := by
  have h53 := hr.1
  rw [en_42 (d := d + 26), b_42_0 hq]
  by_cases a : μ 53 1 < 8
  · rw [if_pos (by rw [mm_ltx, mm_wv (by omega) (by omega), mm_wv (by omega) (by omega)]; omega)]
    refine c_95 (d := d + 1) hq h fun μ' hf ho => ?_
    have hle : (rd_F T L 3 0 rd_C0 rd_S0).2.1 ≤ L := by
      cases hc : (rd_F T L 3 0 rd_C0 rd_S0).1 with
      | true => exact (ho.1 hc).2.2.1
      | false => exact (ho.2 hc).2.2.1
    have hL := h.1
    rw [bk_v, b_42_27 hq]
    by_cases g : (rd_F T L 3 0 rd_C0 rd_S0).1 = true ∧ L ≤ (rd_F T L 3 0 rd_C0 rd_S0).2.1
    · have ea : rd_ans T L rd_C0 rd_S0 = -1 := if_pos g
      have hr' : cr_r μ' := cr_r_c (by rw [hf 53 (by decide) (by decide) (by decide) (by decide)]) (hf 54 (by decide) (by decide) (by decide) (by decide)) (fun b b1 b2 => hf b (by omega) (by omega) (by omega) (by omega)) hr
      have h53' : μ' 53 1 < 8 := by rw [hf 53 (by decide) (by decide) (by decide) (by decide)]; exact a
      rw [ea, if_neg (by decide), c_119 (d := d + 24) hq hr' h53', bk_n, b_42_43 hq, c_86 (d := d + 25) hq, bk_n, b_42_50 hq, c_109 (d := d + 24) hq, bk_n, b_42_57 hq, c_93 (d := d + 25) hq, bk_n, b_42_64 hq]
      exact q3 a g μ' hf (ho.1 g.1).2.2.2.1
    · have ea : rd_ans T L rd_C0 rd_S0 = ((rd_F T L 3 0 rd_C0 rd_S0).2.1 : Int) := if_neg g
      rw [ea, if_pos (by rw [mm_lex, mm_wv (by omega) (by omega), mm_wv (by omega) (by omega)]; omega), b_42_50 hq, c_109 (d := d + 24) hq, bk_n, b_42_57 hq, c_93 (d := d + 25) hq, bk_n, b_42_64 hq]
      exact q2 a g hle μ' hf
  · rw [if_neg (by rw [mm_ltx, mm_wv (by omega) (by omega), mm_wv (by omega) (by omega)]; omega)]
    exact q1 a
theorem L_rule (hq : mm_Q w) (hJ : J μ) (hn : n0 n) : PRI w X n (d + 200) 16 [.ref 32, .ref 178] 225 [.ref 129] μ := by
  intro Q1 hQ
  have hp := mm_QP hq
  obtain ⟨p1, p2, p3, p4⟩ := hJ.2.1
  have hjx := J_jx hJ
  have hx2 := hjx.2.1
  have hjd := J_jd hJ
  have h11 := p1.1
  obtain ⟨T, hT⟩ : ∃ T : Nat → Int, T = fun i : Nat => μ 101 i := ⟨_, rfl⟩
  obtain ⟨L, hL⟩ : ∃ L : Nat, (L : Int) = μ 100 1 := ⟨(μ 100 1).toNat, by omega⟩
  have htx : rd_tx T L μ := ⟨by omega, hL.symm, fun i hi => by rw [hT]; exact ⟨rfl, (hjx.2.2 i (by omega) (by omega)).2⟩⟩
  have htr : ∀ M : mm_M, M 129 = μ 129 → M 150 = μ 150 → rd_tr T L M := fun M m1 m2 => ⟨by omega, by rw [m1, hjx.1, hL], fun i hi => by rw [m2, hT, (hjx.2.2 i (by omega) (by omega)).1]; exact ⟨rfl, (hjx.2.2 i (by omega) (by omega)).2⟩⟩
  have hmain := rd_main (T := T) (N := L) (C := rd_C0) (S := rd_S0) (by omega)
  rw [en_16 (d := d + 199), b_16_0 hq]
  refine c_42 (d := d + 172) hp p2 htx (fun a => ?_) (fun a g hle μ' hf => ?_) (fun a g μ' hf hlay => ?_)
  · have a8 : μ 129 11 = 8 := by omega
    refine ⟨n0_6 hn, ?_⟩
    rw [bk_h (hp := 11) (by decide +kernel), b_16_11 hq]
    refine hQ 1 _ X _ (nr_t hn) fun Q2 hQ2 => ?_
    exact c_225 (d := d + 192) hp h11 (htr μ rfl rfl) (fun _ => hQ2 0 _ (J_th hJ) mm_us (fun z => absurd z (by decide))) (fun z => absurd z (by omega)) (fun z => absurd z (by omega)) (fun z => absurd z (by omega))
  · rw [if_neg g] at hmain
    generalize (rd_F T L 3 0 rd_C0 rd_S0).2.1 = u at *
    rw [bk_v, b_16_6 hq, mm_w0, mm_gd (by decide)]
    refine hQ 0 _ X n nr_r fun Q2 hQ2 => ?_
    generalize hM : mm_u (cend μ') 178 0 (mm_w ((u : Int) + 1)) = M
    have M0 : ∀ a, a ≠ 178 → a ≠ 100 → a ≠ 102 → a ≠ 103 → a ≠ 104 → a ≠ 105 → a ≠ 106 → a ≠ 127 → M a = μ a := fun a b1 b2 b3 b4 b5 b6 b7 b8 => by
      rw [← hM, mm_uu b1, cend_o ⟨b2, b3, b4, b5⟩, hf a b8 b3 b6 b7]
    have m9 : M 129 = μ 129 := M0 129 (by decide) (by decide) (by decide) (by decide) (by decide) (by decide) (by decide) (by decide)
    have hcv := cend_v (μ := μ')
    refine c_225 (d := d + 192) hp (by rw [m9]; exact h11) (htr M m9 (M0 150 (by decide) (by decide) (by decide) (by decide) (by decide) (by decide) (by decide) (by decide))) (fun z => absurd z (by rw [m9]; omega)) (fun _ v hv _ μ'' hf2 => ?_) (fun _ C' S' v hv => absurd (hmain.symm.trans hv) (by intro q; cases q)) (fun _ v hv => ⟨u, (congrArg Prod.snd (hmain.symm.trans hv)).symm, by omega⟩)
    obtain rfl : u = v := by have : (u : Int) = v := congrArg Prod.snd (hmain.symm.trans hv); omega
    rw [m9] at hf2 ⊢
    obtain ⟨f1, f2, f3, f4, f5, f6, f7, f8, f9⟩ := rr_post h11.1 hf2
    generalize mm_u (rpat μ'' (μ 129 11) 3) 129 23 0 = P at *
    have P0 : ∀ a, a ≠ 129 → (a < 139 ∨ 148 < a) → (a < 151 ∨ 156 < a) → a ≠ 178 → a ≠ 100 → a ≠ 102 → a ≠ 103 → a ≠ 104 → a ≠ 105 → a ≠ 106 → a ≠ 127 → P a = μ a := fun a b1 b2 b3 b4 b5 b6 b7 b8 b9 b10 b11 => by
      rw [f1 a b1 b2 b3, M0 a b4 b5 b6 b7 b8 b9 b10 b11]
    have Mm : ∀ a, 139 ≤ a → a ≤ 149 → M a = μ a := fun a a1 a2 => M0 a (by omega) (by omega) (by omega) (by omega) (by omega) (by omega) (by omega) (by omega)
    have prl : ∀ a, 55 ≤ a → a ≤ 94 → P a = μ a := fun a a1 a2 => P0 a (by omega) (by omega) (by omega) (by omega) (by omega) (by omega) (by omega) (by omega) (by omega) (by omega) (by omega)
    have p9 : ∀ j, j ∉ [(0 : Int), 23, 25, 31, 33, 34, 35, 36] → P 129 j = μ 129 j := fun j hj => by rw [f6 j hj, m9]
    have hb : ∀ a, a < 178 → a ≠ 129 → a ∉ LU → P a = μ a := fun a a1 a2 a3 => by
      have := LU_m a3
      exact P0 a a2 (by omega) (by omega) (by omega) (by omega) (by omega) (by omega) (by omega) (by omega) (by omega) (by omega)
    have p107 : P 107 = μ 107 := P0 107 (by decide) (by decide) (by decide) (by decide) (by decide) (by decide) (by decide) (by decide) (by decide) (by decide) (by decide)
    refine hQ2 _ P (J_rul (R := μ 129 11) hJ rfl hb (fun j hj => p9 j (fun q => hj ?_)) (fun a j a1 a2 a3 => by rw [f2 a j a1 a2 a3, Mm a a1 (by omega)]) (fun j hj => by rw [(f3 j hj).1, (f3 j hj).2, Mm 139 (by decide) (by decide), Mm 140 (by decide) (by decide)]; exact ⟨rfl, rfl⟩) (fun e e0 e1 => by rw [(f4 e e0 e1).1, (f4 e e0 e1).2, Mm 148 (by decide) (by decide), Mm 149 (by decide) (by decide)]; exact ⟨rfl, rfl⟩) (fun e e0 e1 => ⟨f5 e e0 e1, ?_, ?_⟩) ?_ ?_ f7 (fun r r0 r1 k hk => ?_) (fun v e v0 v1 e0 e1 => ?_) (cf_r_c prl hJ.2.2.2.2.2.2.2.2.2.1) ?_ (Or.inl (p9 11 (by decide))) (J_h_c (fun j _ _ => by rw [p107]) (hb 121 (by decide) (by decide) (by decide)) (fun b b1 b2 => hb b (by omega) (by omega) (fun q => ?_)) (by rw [hb 95 (by decide) (by decide) (by decide)]) (fun b b1 b2 => hb b (by omega) (by omega) (fun q => ?_)) (p9 37 (by decide)) (p9 38 (by decide)) (fun b b1 b2 => hb b (by omega) (by omega) (fun q => ?_)) (J_jh hJ))) ?_ (fun _ => ?_)
    · simp only [List.mem_cons, List.not_mem_nil, or_false] at q ⊢
      omega
    · rw [f1 103 (by decide) (by decide) (by decide), ← hM, mm_uu (by decide)]; exact (hcv.1 e e0 e1).1
    · rw [f1 104 (by decide) (by decide) (by decide), ← hM, mm_uu (by decide)]; exact (hcv.1 e e0 e1).2
    · rw [f1 102 (by decide) (by decide) (by decide), ← hM, mm_uu (by decide)]; exact hcv.2.1
    · rw [f1 100 (by decide) (by decide) (by decide), ← hM, mm_uu (by decide)]; exact hcv.2.2
    · have := mm_rl_r (μ 54 r)
      exact prl _ (by omega) (by omega)
    · have := mm_rl_r v
      rw [prl _ (by omega) (by omega), prl _ (by omega) (by omega)]
      exact p2.2.2 v e v0 v1 e0 e1
    · rw [P0 53 (by decide) (by decide) (by decide) (by decide) (by decide) (by decide) (by decide) (by decide) (by decide) (by decide) (by decide), p9 11 (by decide), p3]
    · have := LU_n q; omega
    · have := LU_n q; omega
    · have := LU_n q; omega
    · exact f8
    · rw [f1 178 (by decide) (by decide) (by decide), ← hM, mm_us, Int.add_comm]
  · rw [if_pos g] at hmain
    have hfok := rd_fok_r (T := T) (k := L) (by omega) g.1
    generalize hrF : (rd_F T L 3 0 rd_C0 rd_S0).2.2 = CS at *
    obtain ⟨C, S⟩ := CS
    have hfok : rd_fok C S := hfok
    have hlay : rd_lay μ' C S := hlay
    rw [bk_v, b_16_6 hq, mm_w0, mm_gd (by decide)]
    refine hQ 0 _ X n nr_r fun Q2 hQ2 => ?_
    have e53 : μ' 53 = μ 53 := hf 53 (by decide) (by decide) (by decide) (by decide)
    have e54 : μ' 54 = μ 54 := hf 54 (by decide) (by decide) (by decide) (by decide)
    have hR8 : 0 ≤ μ 129 11 ∧ μ 129 11 < 8 := by omega
    have hv8 := p2.2.1 (μ 129 11) hR8.1 hR8.2
    obtain ⟨v, hv⟩ : ∃ v, v = μ 54 (μ 129 11) := ⟨_, rfl⟩
    have hvv : μ' 54 (μ' 53 1) = v := by rw [e53, e54, p3, hv]
    rw [← hv] at hv8
    have hvr := mm_rl_r v
    generalize hM : mm_u (cend (cnew μ')) 178 0 (mm_w (-1 + 1)) = M
    have C0 : ∀ a, a ≠ 53 → a ≠ 107 → (a < mm_rl v ∨ mm_rl v + 4 < a) → cnew μ' a = μ' a := fun a b1 b2 b3 => by
      unfold cnew
      rw [hvv, chf_x b2, mm_uu b1, mm_uu (by omega), cadd_o (by omega)]
    have M0 : ∀ a, a ≠ 178 → a ≠ 100 → a ≠ 102 → a ≠ 103 → a ≠ 104 → a ≠ 105 → a ≠ 106 → a ≠ 127 → a ≠ 53 → a ≠ 107 → (a < mm_rl v ∨ mm_rl v + 4 < a) → M a = μ a := fun a b1 b2 b3 b4 b5 b6 b7 b8 b9 b10 b11 => by
      rw [← hM, mm_uu b1, cend_o ⟨b2, b3, b4, b5⟩, C0 a b9 b10 b11, hf a b8 b3 b6 b7]
    have Mr : ∀ k, 1 ≤ k → k ≤ 4 → M (mm_rl v + k) = cadd μ' v (mm_rl v + k) := fun k k1 k4 => by
      rw [← hM, mm_uu (by omega), cend_o ⟨by omega, by omega, by omega, by omega⟩]
      unfold cnew
      rw [hvv, chf_x (by omega), mm_uu (by omega), mm_uu (by omega)]
    have Mr0 : M (mm_rl v) 4 = μ' 102 4 := by
      rw [← hM, mm_uu (by omega), cend_o ⟨by omega, by omega, by omega, by omega⟩]
      unfold cnew
      rw [hvv, chf_x (by omega), mm_uu (by omega), mm_us, cadd_o (by omega)]
    have M53 : M 53 1 = μ 53 1 + 1 := by
      rw [← hM, mm_uu (by omega), cend_o (by decide)]
      unfold cnew
      rw [hvv, chf_x (by omega), mm_us, mm_uu (by omega), cadd_o (by omega), e53]
    have M107 : M 107 = chf μ 107 := by
      rw [← hM, mm_uu (by omega), cend_o (by decide)]
      unfold cnew
      rw [chf_7, chf_7, hvv, mm_uu (by decide), mm_uu (by omega), cadd_o (by omega), hf 107 (by decide) (by decide) (by decide) (by decide)]
    have m9 : M 129 = μ 129 := M0 129 (by decide) (by decide) (by decide) (by decide) (by decide) (by decide) (by decide) (by decide) (by decide) (by decide) (by omega)
    have hcv := cend_v (μ := cnew μ')
    refine c_225 (d := d + 192) hp (by rw [m9]; exact h11) (htr M m9 (M0 150 (by decide) (by decide) (by decide) (by decide) (by decide) (by decide) (by decide) (by decide) (by decide) (by decide) (by omega))) (fun z => absurd z (by rw [m9]; omega)) (fun _ v hv => absurd (hmain.symm.trans hv) (by intro q; cases q)) (fun _ C' S' v' hv' μ'' hf2 hC hS => ?_) (fun _ v hv => absurd (hmain.symm.trans hv) (by intro q; cases q))
    have hCS : some (C, S) = some (C', S') := congrArg Prod.fst (hmain.symm.trans hv')
    obtain ⟨rfl, rfl⟩ : C = C' ∧ S = S' := by cases hCS; exact ⟨rfl, rfl⟩
    rw [m9] at hf2 hC hS ⊢
    obtain ⟨f1, f2, f3, f4, f5, f6, f7, f8, f9⟩ := rr_post h11.1 hf2
    generalize mm_u (rpat μ'' (μ 129 11) 3) 129 23 0 = P at *
    have P0 : ∀ a, a ≠ 129 → (a < 139 ∨ 148 < a) → (a < 151 ∨ 156 < a) → a ≠ 178 → a ≠ 100 → a ≠ 102 → a ≠ 103 → a ≠ 104 → a ≠ 105 → a ≠ 106 → a ≠ 127 → a ≠ 53 → a ≠ 107 → (a < mm_rl v ∨ mm_rl v + 4 < a) → P a = μ a := fun a b1 b2 b3 b4 b5 b6 b7 b8 b9 b10 b11 b12 b13 b14 => by
      rw [f1 a b1 b2 b3, M0 a b4 b5 b6 b7 b8 b9 b10 b11 b12 b13 b14]
    have Mm : ∀ a, 139 ≤ a → a ≤ 149 → M a = μ a := fun a a1 a2 => M0 a (by omega) (by omega) (by omega) (by omega) (by omega) (by omega) (by omega) (by omega) (by omega) (by omega) (by omega)
    generalize hN : rfgt (mm_u P 129 11 (μ 129 11 + 1)) = N
    have N0 : ∀ a, a ≠ 129 → N a = P a := fun a b1 => by rw [← hN, rfgt_x b1, mm_uu b1]
    have N9 : ∀ j, j ∉ [(0 : Int), 11, 23, 25, 31, 33, 34, 35, 36, 37, 38] → N 129 j = μ 129 j := fun j hj => by
      simp only [List.mem_cons, List.not_mem_nil, or_false, not_or] at hj
      rw [← hN]
      unfold rfgt
      rw [mm_un (by omega), mm_un (by omega), mm_un (by omega), f6 j (by simp only [List.mem_cons, List.not_mem_nil, or_false, not_or]; omega), m9]
    have N11 : N 129 11 = μ 129 11 + 1 := by
      rw [← hN]
      unfold rfgt
      rw [mm_un (by decide), mm_un (by decide), mm_us]
    have hb : ∀ a, a < 178 → a ≠ 129 → a ∉ LU → N a = μ a := fun a a1 a2 a3 => by
      have := LU_m a3
      rw [N0 a a2]
      exact P0 a a2 (by omega) (by omega) (by omega) (by omega) (by omega) (by omega) (by omega) (by omega) (by omega) (by omega) (by omega) (by omega) (by omega)
    have Nrl : ∀ v', 0 ≤ v' → v' < 8 → v' ≠ v → ∀ k, k ≤ 4 → N (mm_rl v' + k) = μ (mm_rl v' + k) := fun v' v0 v1 v2 k hk => by
      have h1 := mm_rl_e (v := v') ⟨v0, v1⟩
      have h2 := mm_rl_e (v := v) hv8
      rw [N0 _ (by omega)]
      exact P0 _ (by omega) (by omega) (by omega) (by omega) (by omega) (by omega) (by omega) (by omega) (by omega) (by omega) (by omega) (by omega) (by omega) (by omega)
    have Nk : ∀ k, 1 ≤ k → k ≤ 4 → N (mm_rl v + k) = cadd μ' v (mm_rl v + k) := fun k k1 k4 => by
      rw [N0 _ (by omega), f1 _ (by omega) (by omega) (by omega), Mr k k1 k4]
    have Nk0 : N (mm_rl v) 4 = μ' 102 4 := by rw [N0 _ (by omega), f1 _ (by omega) (by omega) (by omega), Mr0]
    obtain ⟨ck1, ck2, ck3, ck4⟩ := cadd_k (μ := μ') (v := v)
    have hph := hfok.2.1
    have hleg : ∀ i, i < C.1 → rd_leg (N (mm_rl v + 3)) (N (mm_rl v + 4)) C S i := fun i hi => by
      have hl := hlay.2 i hi
      rw [rd_leg_le] at hl
      have hm1 := rd_fok_m hfok (Nat.zero_le i) (show i ≤ C.1 by omega)
      have hm2 := rd_fok_m hfok (show i + 1 ≤ C.1 by omega) (Nat.le_refl _)
      have e0 : rd_ph C 0 = 0 := rfl
      have e1 : rd_ph C (i + 1) = rd_ph C i + 1 + (if (C.2 i).1 = 1 then (C.2 i).2.2 else 0) := rfl
      have h3 : ∀ j, 0 ≤ j → j < 24 → N (mm_rl v + 3) j = μ' 105 j ∧ N (mm_rl v + 4) j = μ' 106 j := fun j j0 j1 => by
        rw [Nk 3 (by decide) (by decide), Nk 4 (by decide) (by decide), ck3, ck4, if_pos ⟨j0, j1⟩, if_pos ⟨j0, j1⟩]
        exact ⟨rfl, rfl⟩
      have hbb := rd_fok_b hfok i hi
      have hph0 : 0 ≤ rd_ph C i ∧ rd_ph C i < 24 := by
        by_cases z : (C.2 i).1 = 1
        · rw [if_pos z] at e1
          have := hbb z
          omega
        · rw [if_neg z] at e1
          omega
      have h0 := h3 (rd_ph C i) hph0.1 hph0.2
      unfold rd_leg at hl ⊢
      rw [h0.1, h0.2]
      refine ⟨hl.1, fun z => ?_, hl.2.2.1, hl.2.2.2.1, hl.2.2.2.2⟩
      obtain ⟨l1, l2, l3, l4⟩ := hl.2.1 z
      refine ⟨l1, l2, l3, fun j hj => ?_⟩
      rw [if_pos z] at e1
      rw [(h3 (rd_ph C i + 1 + j) (by omega) (by omega)).1, (h3 (rd_ph C i + 1 + j) (by omega) (by omega)).2]
      exact l4 j hj
    have hlr : rd_lyr N v C S := ⟨by rw [Nk0]; exact hlay.1, hleg⟩
    have hpat : ∀ e, 0 ≤ e → e < 3 → N (mm_rl v + 1) e = μ 103 e ∧ N (mm_rl v + 2) e = μ 104 e := fun e e0 e1 => by
      rw [Nk 1 (by decide) (by decide), Nk 2 (by decide) (by decide), ck1, ck2, if_pos ⟨e0, e1⟩, if_pos ⟨e0, e1⟩, hf 103 (by decide) (by decide) (by decide) (by decide), hf 104 (by decide) (by decide) (by decide) (by decide)]
      exact ⟨rfl, rfl⟩
    have hu := hJ.2.2.2.2.1
    have hcf := hJ.2.2.2.2.2.2.2.2.2.1
    refine hQ2 _ N (J_rul (R := μ 129 11) hJ rfl hb N9 (fun a j a1 a2 a3 => by rw [N0 a (by omega), f2 a j a1 a2 a3, Mm a a1 (by omega)]) (fun j hj => by rw [N0 139 (by decide), N0 140 (by decide), (f3 j hj).1, (f3 j hj).2, Mm 139 (by decide) (by decide), Mm 140 (by decide) (by decide)]; exact ⟨rfl, rfl⟩) (fun e e0 e1 => by rw [N0 139 (by decide), N0 140 (by decide), (f4 e e0 e1).1, (f4 e e0 e1).2, Mm 148 (by decide) (by decide), Mm 149 (by decide) (by decide)]; exact ⟨rfl, rfl⟩) (fun e e0 e1 => ⟨by rw [N0 148 (by decide)]; exact f5 e e0 e1, ?_, ?_⟩) ?_ ?_ ?_ (fun r r0 r1 k hk => ?_) (fun v' e v0 v1 e0 e1 => ?_) (fun v' v0 v1 => ?_) ?_ (Or.inr ⟨⟨N11, hR8.2⟩, by rw [← hv]; exact hpat, C, S, ?_, ?_, hfok, by rw [← hv]; exact hlr⟩) (J_h_f ?_ ?_ ?_ (hb 121 (by decide) (by decide) (by decide)) ?_ ?_ (fun b b1 b2 => hb b (by omega) (by omega) (fun q => ?_)) (J_jh hJ))) ?_ (fun _ => ?_)
    · rw [N0 103 (by decide), f1 103 (by decide) (by decide) (by decide), ← hM, mm_uu (by decide)]; exact (hcv.1 e e0 e1).1
    · rw [N0 104 (by decide), f1 104 (by decide) (by decide) (by decide), ← hM, mm_uu (by decide)]; exact (hcv.1 e e0 e1).2
    · rw [N0 102 (by decide), f1 102 (by decide) (by decide) (by decide), ← hM, mm_uu (by decide)]; exact hcv.2.1
    · rw [N0 100 (by decide), f1 100 (by decide) (by decide) (by decide), ← hM, mm_uu (by decide)]; exact hcv.2.2
    · rw [← hN]
      unfold rfgt
      rw [mm_un (by decide), mm_un (by decide), mm_un (by decide)]
      exact f7
    · have h1 := p2.2.1 r r0 (by omega)
      refine Nrl _ h1.1 h1.2 (fun q => ?_) k hk
      rw [hv] at q
      have := hu r (μ 129 11) r0 (by omega) hR8.1 hR8.2 q
      omega
    · by_cases y : v' = v
      · rw [y, (hpat e e0 e1).1, (hpat e e0 e1).2]
        have := hjd.2 e e0 e1
        exact ⟨this.1, this.2.1⟩
      · rw [Nrl v' v0 v1 y 1 (by decide), Nrl v' v0 v1 y 2 (by decide)]
        exact p2.2.2 v' e v0 v1 e0 e1
    · by_cases y : v' = v
      · rw [y, Nk0, hlay.1]
        have hm := rd_fok_m hfok (Nat.zero_le C.1) (Nat.le_refl _)
        have e0 : rd_ph C 0 = 0 := rfl
        exact ⟨⟨by omega, hph⟩, rd_lay_cf hfok hleg⟩
      · have h0 := Nrl v' v0 v1 y 0 (by decide)
        rw [Nat.add_zero] at h0
        rw [h0, Nrl v' v0 v1 y 3 (by decide), Nrl v' v0 v1 y 4 (by decide)]
        exact hcf v' v0 v1
    · rw [N11, N0 53 (by decide), f1 53 (by decide) (by decide) (by decide), M53, p3]
    · unfold rd_RC at hC ⊢
      rw [N0 141 (by decide), N0 142 (by decide), N0 143 (by decide), N0 144 (by decide), f9 141 (by decide) (by decide), f9 142 (by decide) (by decide), f9 143 (by decide) (by decide), f9 144 (by decide) (by decide)]
      exact hC
    · unfold rd_RS at hS ⊢
      rw [N0 145 (by decide), N0 146 (by decide), N0 147 (by decide), f9 145 (by decide) (by decide), f9 146 (by decide) (by decide), f9 147 (by decide) (by decide)]
      exact hS
    · rw [N0 107 (by decide), f1 107 (by decide) (by decide) (by decide), M107, chf_7]
      exact if_neg (by decide)
    · rw [N0 107 (by decide), f1 107 (by decide) (by decide) (by decide), M107, chf_7]
      exact if_pos (by decide)
    · rw [N0 107 (by decide), f1 107 (by decide) (by decide) (by decide), M107, chf_7]
      exact if_pos (by decide)
    · rw [← hN]
      unfold rfgt
      rw [mm_un (by decide), mm_us]
    · rw [← hN]
      unfold rfgt
      rw [mm_us]
    · have := LU_n q; omega
    · rw [← hN]
      unfold rfgt
      rw [mm_un (by decide), mm_un (by decide), mm_un (by decide)]
      exact f8
    · rw [N0 178 (by decide), f1 178 (by decide) (by decide) (by decide), ← hM, mm_us]
      rfl
end RU
