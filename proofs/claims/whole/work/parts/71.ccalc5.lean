/-! The class works a cell out: the recursion closed. -/
section CK
variable {d : Nat} {Q : am_Ou → am_G → Prop} {w : mm_Z} {μ μ1 μ2 : mm_M} {X : mm_X} {n : mm_N} {c e m r t t1 v base : Int} {N : ev_N} {G : Int → Prop} {P : List Int}
theorem c_66 (hq : mm_P w) (hN : ev_en N G) {f : Nat} (hf : f ≤ 19) (hW : ce_W d w X n N G f) (hc : G c) (hd : 4 ≤ d) (hm : ce_m μ N G P t) (hb : μ 122 5 + 9 * (f + 1) ≤ 180) (hw : 0 ≤ nv_win N c)
    (q1 : ∀ x t', ev_run N (ev N f P) (nv_win N c) c 65 0 [] t = some (x, t') → ∀ μ', ce_a μ μ' t' → Q (.inl (some (.long (Int64.ofInt (sp_en x.1 x.2))))) (mm_hp w (μ') X n))
    (q2 : ev_run N (ev N f P) (nv_win N c) c 65 0 [] t = none → ∀ μ', ce_x μ μ' → Q (.inr (2, n.1)) (mm_hp w μ' X (mm_th n))) : am_C (d + 5) 66 [.ref 122, .ref (mm_rl (μ 54 (nv_win N c))), .int (Int32.ofInt (cc c)), .int (Int32.ofInt (20 - (f : Int)))] (mm_hp w μ X n) Q := by
  obtain ⟨h, hco⟩ := hN.2.2.2.2.1 c hc hw
  have h0 := hm.1 μ ce_s_r rfl
  obtain ⟨φ, p0, pl, p24, pm, pc⟩ := h0.2.2.2.2.2.2.2.2.2.2.1 c hc hw
  rw [en_66 (d := d + 4), b_66_0 hq]
  have := c_66_6 hq hN hf hW hc hd hm hb rfl hco p0 pl p24 pm pc 65 0 [] t 0 μ (by omega) (by have := hco.1; omega) (by rw [hco.2.1]; rfl) (by simp) ⟨ce_s_r, rfl, fun _ _ _ => rfl, hm.2.2.1, fun _ _ => rfl⟩ hm.2.2.2.1 (by simp) trivial (Int.le_refl 0) (by rw [p0]; exact Int.le_refl 0) q1 q2
  rw [p0] at this
  exact this
theorem c_76 (hq : mm_P w) (hN : ev_en N G) {f : Nat} (hf : f ≤ 19) (hW : ce_W d w X n N G f) (hc : G c) (hd : 4 ≤ d) (hm : ce_m μ N G P t) (hb : μ 122 5 + 9 * (f + 1) ≤ 180) {R : ev_R}
    (hR : R = if nv_in N c ≠ -2147483648 then some ((0, nv_in N c), t)
    else if 0 ≤ nv_win N c then ev_run N (ev N f P) (nv_win N c) c 65 0 [] t
    else if nv_inn N c < 0 then some ((1, 0), t)
    else if nv_roll N (nv_inn N c) (rpart c (nv_inn N c)) = 1 then ev_tots (ev_sum (ev N f P) c (nv_inn N c) (nv_kid N (nv_inn N c) (rpart c (nv_inn N c))) (0, 0) t)
    else if nv_roll N (nv_inn N c) (rpart c (nv_inn N c)) = 2 then ev_means (ev_sum (ev N f P) c (nv_inn N c) (nv_kid N (nv_inn N c) (rpart c (nv_inn N c))) (0, 0) t) (nv_kid N (nv_inn N c) (rpart c (nv_inn N c))).length
    else if nv_roll N (nv_inn N c) (rpart c (nv_inn N c)) = 3 then ev N f P (ev_mv c (nv_inn N c) ((nv_kid N (nv_inn N c) (rpart c (nv_inn N c))).getD 0 (-1))) t
    else if nv_roll N (nv_inn N c) (rpart c (nv_inn N c)) = 4 then ev N f P (ev_mv c (nv_inn N c) ((nv_kid N (nv_inn N c) (rpart c (nv_inn N c))).getLastD (-1))) t
    else some ((1, 0), t))
    (q1 : ∀ x t', R = some (x, t') → ∀ μ', ce_a μ μ' t' → Q (.inl (some (.long (Int64.ofInt (sp_en x.1 x.2))))) (mm_hp w (μ') X n))
    (q2 : R = none → ∀ μ', ce_x μ μ' → Q (.inr (2, n.1)) (mm_hp w μ' X (mm_th n))) : am_C (d + 6) 76 [.ref 122, .int (Int32.ofInt (cc c)), .int (Int32.ofInt (20 - (f : Int)))] (mm_hp w μ X n) Q := by
  have hc0 := hN.1 c hc
  have hcb := cc_b hc0.1 hc0.2
  have h0 := hm.1 μ ce_s_r rfl
  obtain ⟨z1, z2, z3, z4, z5, z6, z7, z8, z9, z10, z11, z12⟩ := h0
  have hin := z4 c hc
  have hwb := hN.2.2.2.1 c hc
  have hib := hN.2.2.2.2.2.1 c hc
  have hinb := hN.2.2.1 c hc
  -- behind the input
  have tail : ∀ (e4 : Option Value), am_n2 e4 = true → nv_in N c = -2147483648 → am_E (d + 5) 76 Q (39, [some (.ref 122), some (.int (Int32.ofInt (cc c))), some (.int (Int32.ofInt (20 - (f : Int)))), some (.int (Int32.ofInt (if nv_inn N c < 0 then 3 else nv_inn N c))), e4], [], mm_hp w μ X n) := by
    intro e4 h4 hnone
    rw [if_neg (fun q => q hnone)] at hR
    rw [b_76_39 hq h4, show d + 5 = (d + 2) + 3 from rfl, c_120 (d := d + 2) hq z1 z2 hcb.1 hcb.2, bk_v, b_76_51 hq h4, z8 c hc, show d + 2 + 3 = d + 5 from rfl]
    by_cases g : 0 ≤ nv_win N c
    · rw [if_pos g] at hR
      have hv := z2.2.1 (nv_win N c) g hwb.2
      rw [if_neg (by rw [mm_ltx, mm_wv (by omega) (by omega), mm_wv (by decide) (by decide)]; omega), en_121 (d := d + 4), b_121_0 hq]
      simp (disch := omega) only [mm_wv, mm_gd]
      rw [bk_v, b_76_68 hq]
      refine c_66 hq hN hf hW hc hd hm hb g ?_ ?_
      · intro x t' hx μ' ha
        rw [bk_v, b_76_73 hq]
        exact q1 x t' (by rw [hR]; exact hx) μ' ha
      · intro hx μ' h2
        rw [bk_e h_76]
        exact q2 (by rw [hR]; exact hx) μ' h2
    · rw [if_neg g] at hR
      rw [if_pos (by rw [mm_ltx, mm_wv (by omega) (by omega), mm_wv (by decide) (by decide)]; omega)]
      by_cases g2 : nv_inn N c < 0
      · rw [if_pos g2] at hR
        rw [if_pos g2, if_pos rfl, show d + 5 = (d + 4) + 1 from rfl, c_56 (d := d + 4) hq (by decide), bk_v, b_76_83 hq, b_76_93 hq]
        exact q1 (1, 0) t hR μ (ce_a_r hm.2.2.1)
      · rw [if_neg g2] at hR
        rw [if_neg g2, if_neg (by rw [mm_eqx, mm_wv (by omega) (by omega), mm_wv (by decide) (by decide)]; omega)]
        refine am_C_le (show d + 3 ≤ d + 5 by omega) _ _ _ _ (c_72 hq hN hf hW (by omega) hc hd hm (by omega) hR ?_ ?_)
        · intro x t' hx μ' ha
          rw [bk_v, b_76_93 hq]
          exact q1 x t' hx μ' ha
        · intro hx μ' h2
          rw [bk_e h_76]
          exact q2 hx μ' h2
  rw [en_76 (d := d + 5), b_76_0 hq, show d + 5 = (d + 3) + 2 from rfl, c_128 (d := d + 3) hq z1 hcb.1 hcb.2, bk_v, b_76_8 hq, hin, show d + 3 + 2 = d + 5 from rfl]
  by_cases g2 : nv_inn N c < 0
  · have z6' := z6 c hc g2
    have ht := tail
    rw [if_pos g2] at ht
    rw [if_pos g2, if_pos rfl, show d + 5 = (d + 4) + 1 from rfl, c_82 (d := d + 4) hq z3 hcb.1 hcb.2 (by omega) z5.2, bk_v, b_76_26 hq, z6', show d + 4 + 1 = d + 5 from rfl]
    by_cases g : nv_in N c = -2147483648
    · rw [if_pos (by rw [g])]
      exact ht _ rfl g
    · rw [if_pos g] at hR
      rw [if_neg (by rw [mm_eqx, mm_wv (by omega) (by omega), mm_wv (by decide) (by decide)]; exact g), mm_wv (by omega) (by omega)]
      exact q1 (0, nv_in N c) t hR μ (ce_a_r hm.2.2.1)
  · have ht := tail none rfl (z7 c hc g2)
    rw [if_neg g2] at ht ⊢
    rw [if_neg (by rw [mm_eqx, mm_wv (by omega) (by omega), mm_wv (by decide) (by decide)]; omega)]
    exact ht
theorem ce_busy (hN : ev_en N G) (hc : G c) (hm : ce_m μ N G P t) : ce_m (mm_u (mm_u μ 122 7 (t + 1)) 123 (cc c) 1) N G (c :: P) (t + 1) ∨ ¬ (t < nv_fu N) := by
  by_cases hlt : t < nv_fu N
  · refine Or.inl ?_
    obtain ⟨m1, m2, m3, m4, m5, m6⟩ := hm
    have hc0 := hN.1 c hc
    have hcb := cc_b hc0.1 hc0.2
    refine ⟨ce_e_t m1 (fun b g1 g2 g3 => by rw [mm_uu g2, mm_uu g1]) (by rw [mm_uu (by decide), mm_un (by decide)]), fun x x0 x1 => ?_, by rw [mm_uu (by decide), mm_us], ⟨by omega, by omega⟩, by rw [mm_uu (by decide), mm_un (by decide)]; exact m5, by rw [mm_uu (by decide), mm_un (by decide)]; exact m6⟩
    have h2 := m2 x x0 x1
    rw [mm_ux, mm_uu (show (123 : Nat) ≠ 122 by decide)]
    by_cases g : cc x = cc c
    · have hxc : x = c := by rw [← cc_cc x0 x1, g, cc_cc hc0.1 hc0.2]
      rw [if_pos ⟨rfl, g⟩, hxc]
      exact ⟨Or.inr rfl, fun _ => List.mem_cons_self, fun _ => rfl⟩
    · rw [if_neg (fun q => g q.2)]
      refine ⟨h2.1, fun q => List.mem_cons_of_mem _ (h2.2.mp q), fun q => ?_⟩
      rcases List.mem_cons.mp q with q | q
      · exact absurd (by rw [q]) g
      · exact h2.2.mpr q
  · exact Or.inr hlt
theorem ce_W0 (hq : mm_P w) (hN : ev_en N G) (hn : ce_n n) : ce_W (d + 2) w X n N G 0 := by
  intro c P t μ Q hc hm _ q1 q2
  have hc0 := hN.1 c hc
  have hcb := cc_b hc0.1 hc0.2
  have hbz := hm.2.1 c hc0.1 hc0.2
  unfold ev at q1 q2
  rw [en_75 (d := d + 1), b_75_0 hq]
  simp (disch := omega) only [mm_wv, mm_gd]
  by_cases g : c ∈ P
  · rw [if_pos g] at q1 q2
    have h1 := hbz.2.mpr g
    rw [if_neg (by rw [mm_eqx, mm_wv (by omega) (by omega), mm_wv (by decide) (by decide)]; omega), c_56 (d := d) hq (by decide), bk_v, b_75_13 hq]
    exact q1 (2, 0) t rfl μ (ce_a_r hm.2.2.1)
  · rw [if_neg g] at q1 q2
    have h1 : ¬ μ 123 (cc c) = 1 := fun q => g (hbz.2.mp q)
    rw [if_pos (by rw [mm_eqx, mm_wv (by omega) (by omega), mm_wv (by decide) (by decide)]; omega), if_pos (by decide), b_75_31 hq]
    exact ⟨hn, q2 rfl μ ⟨ce_s_r, fun _ _ _ => rfl⟩⟩
theorem ce_WS (hq : mm_P w) (hN : ev_en N G) (hn : ce_n n) (hd : 4 ≤ d) {f : Nat} (hf : f ≤ 19) (hW : ce_W d w X n N G f) : ce_W (d + 7) w X n N G (f + 1) := by
  intro c P t μ Q hc hm hb q1 q2
  have hc0 := hN.1 c hc
  have hcb := cc_b hc0.1 hc0.2
  have hbz := hm.2.1 c hc0.1 hc0.2
  have hfu := hN.2.1
  unfold ev at q1 q2
  rw [en_75 (d := d + 6), b_75_0 hq, show (21 : Int) - ((f + 1 : Nat) : Int) = 20 - (f : Int) by omega]
  simp (disch := omega) only [mm_wv, mm_gd]
  by_cases g : c ∈ P
  · rw [if_pos g] at q1 q2
    have h1 := hbz.2.mpr g
    rw [if_neg (by rw [mm_eqx, mm_wv (by omega) (by omega), mm_wv (by decide) (by decide)]; omega), show d + 6 = (d + 5) + 1 from rfl, c_56 (d := d + 5) hq (by decide), bk_v, b_75_13 hq]
    exact q1 (2, 0) t rfl μ (ce_a_r hm.2.2.1)
  · rw [if_neg g] at q1 q2
    have h1 : ¬ μ 123 (cc c) = 1 := fun q => g (hbz.2.mp q)
    have h1' : μ 123 (cc c) = 0 := by omega
    have h7 := hm.2.2.1
    have h8 := hm.2.2.2.2.1
    have ht := hm.2.2.2.1
    rw [if_pos (by rw [h1']), if_neg (by rw [mm_ltx, mm_wv (by decide) (by decide), mm_wv (by omega) (by omega)]; omega), h7, h8]
    by_cases g2 : nv_fu N ≤ t
    · rw [if_pos g2] at q1 q2
      rw [if_neg (by rw [mm_ltx, mm_wv (by omega) (by omega), mm_wv (by omega) (by omega)]; omega), b_75_31 hq]
      exact ⟨hn, q2 rfl μ ⟨ce_s_r, fun _ _ _ => rfl⟩⟩
    · rw [if_neg g2] at q1 q2
      rw [if_pos (by rw [mm_ltx, mm_wv (by omega) (by omega), mm_wv (by omega) (by omega)]; omega)]
      have hm1 : ce_m (mm_u (mm_u μ 122 7 (t + 1)) 123 (cc c) 1) N G (c :: P) (t + 1) := by
        rcases ce_busy hN hc hm with q | q
        · exact q
        · omega
      refine c_76 hq hN hf hW hc hd hm1 (by rw [mm_uu (by decide), mm_un (by decide)]; omega) rfl ?_ ?_
      · intro x t' hx μ' ha
        rw [bk_v, b_75_62 hq]
        simp (disch := omega) only [mm_wv, mm_gd]
        refine q1 x t' hx _ ?_
        obtain ⟨a1, a2, a3, a4, a5⟩ := ha
        refine ⟨fun b g1 g2 g3 => by rw [mm_uu g2, a1 b g1 g2 g3, mm_uu g2, mm_uu g1], ?_, fun k k7 => by rw [mm_uu (by decide), a3 k k7, mm_uu (by decide), mm_un k7], by rw [mm_uu (by decide)]; exact a4, fun j hj => ?_⟩
        · funext j
          rw [mm_ux, a2, mm_ux, mm_uu (show (123 : Nat) ≠ 122 by decide)]
          by_cases gj : j = cc c
          · rw [if_pos ⟨rfl, gj⟩, gj, h1']
          · rw [if_neg (fun q => gj q.2), if_neg (fun q => gj q.2)]
        · have h5 : mm_u (mm_u μ 122 7 (t + 1)) 123 (cc c) 1 122 5 = μ 122 5 := by rw [mm_uu (by decide), mm_un (by decide)]
          rw [mm_uu (by decide), a5 j (by rw [h5]; exact hj), mm_uu (by decide), mm_uu (by decide)]
      · intro hx μ' h2
        rw [bk_e h_75]
        refine q2 hx μ' ⟨ce_s_t (fun b g1 g2 g3 => by rw [mm_uu g2, mm_uu g1]) h2.1, fun k k5 k7 => by rw [h2.2 k k5 k7, mm_uu (by decide), mm_un k7]⟩
/-- the class's recursion, as deep as it may go -/
theorem ce_Wall (hq : mm_P w) (hN : ev_en N G) (hn : ce_n n) : ∀ f : Nat, f ≤ 20 → ce_W (4 + 7 * f) w X n N G f := by
  intro f
  induction f with
  | zero => intro _; exact ce_W0 (d := 2) hq hN hn
  | succ f ih =>
    intro hf
    have := ce_WS hq hN hn (show 4 ≤ 4 + 7 * f by omega) (show f ≤ 19 by omega) (ih (by omega))
    rw [show 4 + 7 * (f + 1) = 4 + 7 * f + 7 by omega]
    exact this
/-- what a call of amountOf comes to -/
theorem c_64 (hq : mm_P w) (hN : ev_en N G) (hn : ce_n n) (hd : 144 ≤ d) {l : Int} (hl : 0 ≤ l ∧ l < 3) (hc : G c) (h8 : μ 122 8 = nv_fu N) (he : ∀ μ', ce_s μ μ' → μ' 122 6 = l → ce_0 μ' N G)
    (q1 : ∀ x t', ev N 20 [] c 0 = some (x, t') → ∀ μ', ce_s μ μ' → μ' 122 9 = t' → μ' 122 8 = μ 122 8 → Q (.inl (some (.long (Int64.ofInt (sp_en x.1 x.2))))) (mm_hp w (μ') X n))
    (q2 : ev N 20 [] c 0 = none → ∀ μ', ce_s μ μ' → μ' 122 9 = μ 122 9 → μ' 122 8 = μ 122 8 → Q (.inr (2, n.1)) (mm_hp w μ' X (mm_th n))) : am_C (d + 1) 64 [.ref 122, .int (Int32.ofInt (l)), .int (Int32.ofInt (cc c))] (mm_hp w μ X n) Q := by
  obtain ⟨d, rfl⟩ : ∃ k, d = k + 144 := ⟨d - 144, by omega⟩
  rw [en_64, b_64_0 hq, show d + 144 = (d + 143) + 1 from rfl, c_311 (d := d + 143) (N := 216) (by decide) (hq _ (by decide) (by decide)) (by decide) (by decide), bk_n, b_64_8 hq]
  have hfi : ∀ b, b ≠ 123 → mm_fi μ 123 ((216 : Nat) : Int) 0 b = μ b := fun b h => mm_fi_ne h
  have hs1 : ce_s μ (mm_u (mm_u (mm_u (mm_fi μ 123 ((216 : Nat) : Int) 0) 122 5 0) 122 7 0) 122 6 l) := fun b g1 g2 g3 => by rw [mm_uu g1, mm_uu g1, mm_uu g1, hfi b g2]
  have hm : ce_m (mm_u (mm_u (mm_u (mm_fi μ 123 ((216 : Nat) : Int) 0) 122 5 0) 122 7 0) 122 6 l) N G [] 0 := by
    refine ⟨fun μ' g1 g2 => he μ' (ce_s_t hs1 g1) (by rw [g2, mm_us]), fun x x0 x1 => ?_, by rw [mm_un (by decide), mm_us], ⟨Int.le_refl 0, by have := hN.2.1; omega⟩, by rw [mm_un (by decide), mm_un (by decide), mm_un (by decide), hfi 122 (by decide)]; exact h8, by rw [mm_un (by decide), mm_un (by decide), mm_us]; exact Int.le_refl 0⟩
    have := cc_b x0 x1
    rw [mm_uu (by decide), mm_uu (by decide), mm_uu (by decide), mm_fi_at this.1 (by omega)]
    exact ⟨Or.inl rfl, fun q => absurd q (by decide), fun q => absurd q List.not_mem_nil⟩
  refine am_C_le (show 144 ≤ d + 143 + 1 by omega) _ _ _ _ (ce_Wall hq hN hn 20 (Nat.le_refl 20) c [] 0 _ _ hc hm (by rw [mm_un (by decide), mm_un (by decide), mm_us]; decide) ?_ ?_)
  · intro x t' hx μ' ha
    rw [bk_v, b_64_29 hq]
    refine q1 x t' hx _ (fun b g1 g2 g3 => by rw [mm_uu g1, ce_s_t hs1 ha.1 b g1 g2 g3]) (by rw [mm_us]; exact ha.2.2.2.1) ?_
    rw [mm_un (by decide), ha.2.2.1 8 (by decide), mm_un (by decide), mm_un (by decide), mm_un (by decide), hfi 122 (by decide)]
  · intro hx μ' h2
    rw [bk_e h_64]
    refine q2 hx μ' (ce_s_t hs1 h2.1) ?_ ?_
    · rw [h2.2 9 (by decide) (by decide), mm_un (by decide), mm_un (by decide), mm_un (by decide), hfi 122 (by decide)]
    · rw [h2.2 8 (by decide) (by decide), mm_un (by decide), mm_un (by decide), mm_un (by decide), hfi 122 (by decide)]
end CK
