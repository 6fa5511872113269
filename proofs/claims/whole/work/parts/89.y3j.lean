/-! Calls of both sides: state, value. -/
section CE
variable {μ μ' : mm_M} {e m l k v b c x r : Int} {N : ev_N} {G : Int → Prop}
theorem ce_0_c (h : ∀ b, b < 129 → μ' b = μ b) (hc : ce_0 μ N G) : ce_0 μ' N G := by
  have T : ∀ (e : Int) (i : Nat), i ≤ 5 → μ' (mm_tr e + i) = μ (mm_tr e + i) := fun e i hi => h _ (by have := mm_tr_b (z := e); omega)
  have T0 : ∀ e : Int, μ' (mm_tr e) = μ (mm_tr e) := fun e => h _ (by have := mm_tr_b (z := e); omega)
  have T1 : ∀ e : Int, μ' (mm_tr e + 1) = μ (mm_tr e + 1) := fun e => T e 1 (by decide)
  have T2 : ∀ e : Int, μ' (mm_tr e + 2) = μ (mm_tr e + 2) := fun e => T e 2 (by decide)
  have T3 : ∀ e : Int, μ' (mm_tr e + 3) = μ (mm_tr e + 3) := fun e => T e 3 (by decide)
  have T4 : ∀ e : Int, μ' (mm_tr e + 4) = μ (mm_tr e + 4) := fun e => T e 4 (by decide)
  have T5 : ∀ e : Int, μ' (mm_tr e + 5) = μ (mm_tr e + 5) := fun e => T e 5 (by decide)
  have R : ∀ (v : Int) (i : Nat), i ≤ 4 → μ' (mm_rl v + i) = μ (mm_rl v + i) := fun v i hi => h _ (by have := mm_rl_r v; omega)
  have R0 : ∀ v : Int, μ' (mm_rl v) = μ (mm_rl v) := fun v => R v 0 (by decide)
  have R1 : ∀ v : Int, μ' (mm_rl v + 1) = μ (mm_rl v + 1) := fun v => R v 1 (by decide)
  have R2 : ∀ v : Int, μ' (mm_rl v + 2) = μ (mm_rl v + 2) := fun v => R v 2 (by decide)
  have R3 : ∀ v : Int, μ' (mm_rl v + 3) = μ (mm_rl v + 3) := fun v => R v 3 (by decide)
  have R4 : ∀ v : Int, μ' (mm_rl v + 4) = μ (mm_rl v + 4) := fun v => R v 4 (by decide)
  have I : ∀ v : Int, μ' (mm_inr v) = μ (mm_inr v) := fun v => h _ (by have := mm_inr_r v; omega)
  have h54 := h 54 (by decide)
  have h53 := h 53 (by decide)
  have h122 := h 122 (by decide)
  have h95 := h 95 (by decide)
  have ei : ∀ c, cinner μ' c = cinner μ c := fun c => by unfold cinner; rw [T4, T4, T4]
  have es : ∀ c k, csee μ' c k = csee μ c k := fun c k => by
    induction k with
    | zero => rfl
    | succ k ih => unfold csee; rw [I, ih]
  have ef : ∀ v c, cfits μ' v c = cfits μ v c := fun v c => by unfold cfits cfit; rw [R1, R2, T4, T4, T4, T1, T1, T1]
  have er : ∀ v, crank μ' v = crank μ v := fun v => by unfold crank cpat cdep; rw [R1, R2, T3, T3, T3]
  have eb : ∀ c k, cbest μ' c k = cbest μ c k := fun c k => by
    induction k with
    | zero => rfl
    | succ k ih => unfold cbest; rw [h54, ef, er, ih]
  unfold ce_0 at hc ⊢
  obtain ⟨a1, a2, a3, a4, a5, a6, a7, a8, a9, a10, a11, a12⟩ := hc
  refine ⟨fun e e0 e1 => ?_, cr_r_c (by rw [h53]) h54 (fun b _ _ => h b (by omega)) a2, cg_r_c (by rw [h95]) (fun b _ _ => h b (by omega)) a3, fun c hc => by rw [ei]; exact a4 c hc, by rw [h122]; exact a5, fun c hc hi => by rw [es, h122]; exact a6 c hc hi, a7, fun c hc => by rw [eb, h53]; exact a8 c hc, fun c hc hi => by rw [T2]; exact a9 c hc hi, fun e m e0 e1 m0 m1 => by rw [T1]; exact a10 e m e0 e1 m0 m1, fun c hc hw => ?_, fun c e s hc e0 e1 s0 s9 => by rw [T0, T1, T4, T5]; exact a12 c e s hc e0 e1 s0 s9⟩
  · have := a1 e e0 e1
    unfold mm_tw at this ⊢
    rw [T0, T1, T2, T3, T4, T5]
    exact this
  · have := a11 c hc hw
    unfold ce_co at this ⊢
    rw [h54, R0, R3, R4]
    exact this
theorem rst_row {b : Nat} (h : b ≠ 129) : rst μ l b = μ b := funext fun j => rst_re b j (fun q => h q.1)
theorem rst_46 : rst μ l 129 46 = l := by
  unfold rst
  rw [mm_un (by decide), mm_un (by decide), mm_un (by decide), mm_un (by decide), mm_un (by decide), mm_un (by decide), mm_us]
theorem J_rst (hJ : J μ) (hl : 0 ≤ l ∧ l < 3) : J (rst μ l) := by
  refine J_mk [] [46, 47, 48, 49, 59, 62, 63] (fun b b1 b2 b3 => rst_row b2) (fun j hj => rst_re 129 j (fun q => hj (by simp only [List.mem_cons, List.not_mem_nil, or_false]; exact q.2))) hJ (Or.inl (by decide)) (Or.inl (by decide)) (Or.inl (by decide)) (Or.inl (by decide)) (Or.inl (by decide)) (Or.inl (by decide)) (Or.inl (by decide)) (Or.inl (by decide)) (Or.inr ?_) (Or.inl (by decide)) (Or.inl (by decide)) (Or.inl (by decide))
  have := J_jn hJ
  unfold J_n at this ⊢
  rw [rst_re 129 8 (by decide), rst_re 129 65 (by decide), rst_re 129 64 (by decide), rst_46, rst_row (by decide), rst_row (by decide)]
  exact ⟨this.1, this.2.1, this.2.2.1, this.2.2.2.1, hl⟩
/-- what evaluation wants of the reference's memory -/
theorem J_rA (hJ : J μ) (hl : 0 ≤ l ∧ l < 3) : rA (rst μ l) ∧ rA_l (rst μ l) ∧ ev_en (rNv (rst μ l)) (rcell (rst μ l)) := by
  have hJ' := J_rst hJ hl
  have ho := J_f_o hJ'.2.2.2.1
  have hA : rA (rst μ l) := ⟨J_ro hJ', J_rr hJ', fun j j0 j1 => (hJ'.2.2.1.2.1 j j0 j1).1, fun j j0 j1 => (hJ'.2.2.1.2.1 j j0 j1).2, hJ'.2.2.2.2.2.2.2.2.2.2.1, (J_jn hJ').2.2.2.2, by have := J_jn hJ'; rw [this.2.1]; exact this.2.2.1, ho.1⟩
  exact ⟨hA, ho.2, env_ok hA (fun r r0 r1 => (J_f_k hJ'.2.2.2.1 r r0 r1).1)⟩
theorem rcell_rst : rcell (rst μ l) c ↔ rcell μ c := by
  unfold rcell
  have : ∀ e, rp (rst μ l) e = rp μ e := fun e => rp_c (rst_row (by decide)) (rst_row (by decide))
  simp only [this]
theorem rcell_e (h0 : μ' 130 = μ 130) (h1 : μ' 131 = μ 131) : rcell μ' = rcell μ := by
  funext c
  unfold rcell
  have : ∀ e, rp μ' e = rp μ e := fun e => rp_c h0 h1
  simp only [this]
/-- what evaluation wants of the class's memory -/
theorem J_ce (hJ : J μ) (hl : 0 ≤ l ∧ l < μ 95 1) : ∀ μ', ce_s μ μ' → μ' 122 6 = l → ce_0 μ' (rNv (rst μ l)) (rcell (rst μ l)) := by
  intro μ' hs h6
  have hl3 := (J_cg1 hJ).1
  have hJ' := J_rst hJ (l := l) (by omega)
  have e : ∀ b, b ≠ 122 → b ≠ 123 → b ≠ 124 → b ≠ 129 → rst μ' l b = μ b := fun b b1 b2 b3 b4 => by rw [rst_row b4, hs b b1 b2 b3]
  have e2 : ∀ b, b ≠ 122 → b ≠ 123 → b ≠ 124 → rst μ' l b = rst μ l b := fun b b1 b2 b3 => by
    by_cases q : b = 129
    · subst q
      unfold rst
      funext j
      rw [mm_ux, mm_ux, mm_ux, mm_ux, mm_ux, mm_ux, mm_ux, mm_ux, mm_ux, mm_ux, mm_ux, mm_ux, mm_ux, mm_ux, hs 129 (by decide) (by decide) (by decide)]
    · rw [rst_row q, rst_row q, hs b b1 b2 b3]
  -- all parts but the calculator's numbers
  have t1 : J_t (rst μ' l) := J_t_c (fun b _ _ => e2 b (by omega) (by omega) (by omega)) (fun b _ _ => e2 b (by omega) (by omega) (by omega)) hJ'.1
  have rpe : ∀ e, rp (rst μ' l) e = rp (rst μ l) e := fun e => rp_c (e2 130 (by decide) (by decide) (by decide)) (e2 131 (by decide) (by decide) (by decide))
  have p1 : J_p (rst μ' l) := J_p_c (by rw [e2 53 (by decide) (by decide) (by decide)]) (e2 54 (by decide) (by decide) (by decide)) (fun b _ _ => e2 b (by omega) (by omega) (by omega)) (by rw [e2 129 (by decide) (by decide) (by decide)]) (e2 139 (by decide) (by decide) (by decide)) (e2 140 (by decide) (by decide) (by decide)) (fun r e _ _ _ _ _ z => by rw [rpe]; exact z) hJ'.2.1
  have g1 : J_g (rst μ' l) := J_g_c (by rw [e2 95 (by decide) (by decide) (by decide)]) (fun b _ _ => e2 b (by omega) (by omega) (by omega)) (e2 137 (by decide) (by decide) (by decide)) (e2 138 (by decide) (by decide) (by decide)) hJ'.2.2.1
  have f1 : J_f (rst μ' l) := J_f_c (e2 54 (by decide) (by decide) (by decide)) (fun b _ _ => e2 b (by omega) (by omega) (by omega)) (by rw [e2 129 (by decide) (by decide) (by decide)]) (fun b _ _ => e2 b (by omega) (by omega) (by omega)) hJ'.2.2.2.1
  have hA := (J_rA hJ (l := l) (by omega)).1
  have hA' : rA (rst μ' l) := by
    obtain ⟨a1, a2, a3, a4, a5, a6, a7, a8⟩ := hA
    have ho := J_f_o f1
    refine ⟨fun e e0 e1 => (t1 e e0 e1).2.2.1, p1.1, fun j j0 j1 => (g1.2.1 j j0 j1).1, fun j j0 j1 => (g1.2.1 j j0 j1).2, ?_, ?_, ?_, ho.1⟩
    · rw [e2 132 (by decide) (by decide) (by decide)]; exact a5
    · rw [e2 129 (by decide) (by decide) (by decide)]; exact a6
    · rw [e2 129 (by decide) (by decide) (by decide)]; exact a7
  have h := env_ce hA' t1 p1 g1 (J_f_k f1) (by rw [rst_46, rst_row (by decide), h6]) (by rw [rst_row (by decide), h6, rst_row (by decide), hs 95 (by decide) (by decide) (by decide)]; exact hl.2)
  rw [rNv_c (μ' := rst μ' l) (μ := rst μ l) (fun b b0 b1 _ _ => e2 b (by omega) (by omega) (by omega)) (by rw [e2 129 (by decide) (by decide) (by decide)]) (by rw [e2 129 (by decide) (by decide) (by decide)]) (by rw [e2 129 (by decide) (by decide) (by decide)]), rcell_e (e2 130 (by decide) (by decide) (by decide)) (e2 131 (by decide) (by decide) (by decide))] at h
  exact ce_0_c (fun b hb => (rst_row (by omega)).symm) h
/-- memories behind evaluation, by class and reference -/
theorem J_ev (hJ : J μ) (hl : 0 ≤ l ∧ l < 3) {M μ2 : mm_M} {t : Int} (hs : ce_s μ M) (h8 : M 122 8 = μ 122 8) (h9 : M 122 9 = t) {μ3 : mm_M} (ho : ∀ b, b < 178 → μ3 b = M b) (h2 : mm_re μ2 = mm_re (rst μ3 l)) {k : Int} : J (mm_u (mm_u μ2 129 0 k) 129 64 t) := by
  have e1 : ∀ (b : Nat) (j : Int), b < 178 → ¬ ((164 ≤ b ∧ b ≤ 174) ∨ (b = 129 ∧ (j = 47 ∨ j = 48 ∨ j = 49 ∨ j = 59 ∨ j = 62 ∨ j = 63))) → μ2 b j = rst μ3 l b j := fun b j _ h => re_at h2 h
  refine J_mk [122, 123, 124, 164, 165, 166, 167, 168, 169, 170, 171, 172, 173, 174] [0, 46, 47, 48, 49, 59, 62, 63, 64] (fun b b1 b2 b3 => ?_) (fun j hj => ?_) hJ (Or.inl (by decide)) (Or.inl (by decide)) (Or.inl (by decide)) (Or.inl (by decide)) (Or.inl (by decide)) (Or.inl (by decide)) (Or.inl (by decide)) (Or.inl (by decide)) (Or.inr ?_) (Or.inl (by decide)) (Or.inl (by decide)) (Or.inl (by decide))
  · simp only [List.mem_cons, List.not_mem_nil, or_false, not_or] at b3
    rw [mm_uu b2, mm_uu b2]
    funext j
    rw [e1 b j b1 (by omega), rst_row b2, ho b b1, hs b (by omega) (by omega) (by omega)]
  · simp only [List.mem_cons, List.not_mem_nil, or_false, not_or] at hj
    rw [mm_un (by omega), mm_un (by omega), e1 129 j (by decide) (by omega), rst_re 129 j (by omega), ho 129 (by decide), hs 129 (by decide) (by decide) (by decide)]
  · have hn := J_jn hJ
    have f : ∀ j, j ≠ 0 → j ≠ 46 → j ≠ 47 → j ≠ 48 → j ≠ 49 → j ≠ 59 → j ≠ 62 → j ≠ 63 → μ2 129 j = μ 129 j := fun j j0 j1 j2 j3 j4 j5 j6 j7 => by rw [e1 129 j (by decide) (by omega), rst_re 129 j (by omega), ho 129 (by decide), hs 129 (by decide) (by decide) (by decide)]
    unfold J_n at hn ⊢
    rw [mm_un (show (8 : Int) ≠ 64 by decide), mm_un (show (8 : Int) ≠ 0 by decide), mm_un (show (65 : Int) ≠ 64 by decide), mm_un (show (65 : Int) ≠ 0 by decide), mm_us, mm_un (show (46 : Int) ≠ 64 by decide), mm_un (show (46 : Int) ≠ 0 by decide), f 8 (by decide) (by decide) (by decide) (by decide) (by decide) (by decide) (by decide) (by decide), f 65 (by decide) (by decide) (by decide) (by decide) (by decide) (by decide) (by decide) (by decide), e1 129 46 (by decide) (by decide), rst_46, mm_uu (show (95 : Nat) ≠ 129 by decide), mm_uu (show (95 : Nat) ≠ 129 by decide), mm_uu (show (122 : Nat) ≠ 129 by decide), mm_uu (show (122 : Nat) ≠ 129 by decide), e1 95 1 (by decide) (by decide), e1 122 8 (by decide) (by decide), e1 122 9 (by decide) (by decide), rst_row (by decide), rst_row (by decide), ho 95 (by decide), ho 122 (by decide), hs 95 (by decide) (by decide) (by decide), h8, h9]
    exact ⟨hn.1, hn.2.1, hn.2.2.1, rfl, hl⟩
end CE
section L_state
variable {d : Nat} {w : mm_Z} {μ : mm_M} {X : mm_X} {n : mm_N} {l : Int}
theorem L_state (hq : mm_Q w) (hJ : J μ) (hn : n0 n) (h1 : -2147483648 ≤ l) (h2 : l ≤ 2147483647) : PRI w X n (d + 200) 19 [.ref 32, .int (Int32.ofInt (l)), .ref 178] 231 [.ref 129, .int (Int32.ofInt (l))] μ := by
  intro Q1 hQ
  have hp := mm_QP hq
  obtain ⟨hc1, hc2⟩ := J_ch hJ
  have hjn := J_jn hJ
  have hl3 := (J_cg1 hJ).1
  -- the reference's answer, asked behind the class's
  have href : ∀ (M : mm_M) (n : mm_N) (Q2 : am_Ou → am_G → Prop), (∀ b, 129 ≤ b → b < 178 → M b = μ b) → (¬ (0 ≤ l ∧ l < μ 129 8) ∨ rhere μ < 0 → Q2 (.inl (some (.int (Int32.ofInt (0))))) (mm_hp w (mm_u M 129 0 1) X n)) →
      ((0 ≤ l ∧ l < μ 129 8) → 0 ≤ rhere μ → ∀ x t', ev (rNv (rst μ l)) 20 [] (rhere μ) 0 = some (x, t') → ∀ μ', mm_re μ' = mm_re (rst M l) → Q2 (.inl (some (.int (Int32.ofInt (x.1))))) (mm_hp w (mm_u (mm_u μ' 129 0 0) 129 64 t') X n)) →
      ((0 ≤ l ∧ l < μ 129 8) → 0 ≤ rhere μ → ev (rNv (rst μ l)) 20 [] (rhere μ) 0 = none → ∀ μ', mm_re μ' = mm_re (rst M l) → Q2 (.inl (some (.int (Int32.ofInt (0))))) (mm_hp w (mm_u μ' 129 0 2) X n)) → am_C (d + 200) 231 [.ref 129, .int (Int32.ofInt (l))] (mm_hp w M X n) Q2 := by
    intro M n Q2 hM q0 q1 q2
    have eh : rhere M = rhere μ := rhere_c (hM 130 (by decide) (by decide)) (hM 136 (by decide) (by decide))
    have eR : ∀ b, 129 ≤ b → b < 178 → rst M l b = rst μ l b := fun b b0 b1 => by
      by_cases q : b = 129
      · subst q
        unfold rst
        funext j
        rw [mm_ux, mm_ux, mm_ux, mm_ux, mm_ux, mm_ux, mm_ux, mm_ux, mm_ux, mm_ux, mm_ux, mm_ux, mm_ux, mm_ux, hM 129 (by decide) (by decide)]
      · rw [rst_row q, rst_row q, hM b b0 b1]
    have eN : rNv (rst M l) = rNv (rst μ l) := rNv_c (fun b b0 b1 _ _ => eR b (by omega) (by omega)) (by rw [eR 129 (by decide) (by decide)]) (by rw [eR 129 (by decide) (by decide)]) (by rw [eR 129 (by decide) (by decide)])
    have hrt : rt_a M := fun e e0 e1 m m0 m1 => by rw [hM 130 (by decide) (by decide), hM 131 (by decide) (by decide)]; exact J_rt hJ e e0 e1 m m0 m1
    refine c_231 (G := rcell (rst μ l)) (d := d + 190) hp hrt (fun hv => ?_) ⟨h1, h2⟩ (by rw [hM 129 (by decide) (by decide), hjn.1]; exact hl3) (fun e e0 e1 => by rw [hM 136 (by decide) (by decide)]; exact J_rc hJ e e0 e1) (fun h => ?_) ?_ ?_ ?_
    · rw [hM 129 (by decide) (by decide), hjn.1] at hv
      obtain ⟨a1, a2, a3⟩ := J_rA hJ (l := l) (by omega)
      rw [eN]
      refine ⟨?_, ?_, a3⟩
      · obtain ⟨b1, b2, b3, b4, b5, b6, b7, b8⟩ := a1
        refine ⟨fun e e0 e1 => ?_, ?_, ?_, ?_, ?_, ?_, ?_, ?_⟩
        · have := b1 e e0 e1
          unfold rt_ok rt_r at this ⊢
          rw [rp_c (eR 130 (by decide) (by decide)) (eR 131 (by decide) (by decide)), eR 130 (by decide) (by decide), eR 131 (by decide) (by decide), eR 133 (by decide) (by decide), eR 134 (by decide) (by decide)]
          exact this
        · exact rr_r_c (by rw [eR 129 (by decide) (by decide)]) (eR 139 (by decide) (by decide)) (eR 140 (by decide) (by decide)) b2
        · rw [eR 137 (by decide) (by decide)]; exact b3
        · rw [eR 138 (by decide) (by decide)]; exact b4
        · rw [eR 132 (by decide) (by decide)]; exact b5
        · rw [eR 129 (by decide) (by decide)]; exact b6
        · rw [eR 129 (by decide) (by decide)]; exact b7
        · unfold rA_o at b8 ⊢
          rw [eR 129 (by decide) (by decide), eR 141 (by decide) (by decide), eR 142 (by decide) (by decide), eR 143 (by decide) (by decide), eR 144 (by decide) (by decide), eR 146 (by decide) (by decide), eR 147 (by decide) (by decide)]
          exact b8
      · unfold rA_l at a2 ⊢
        rw [eR 129 (by decide) (by decide), eR 141 (by decide) (by decide), eR 142 (by decide) (by decide), eR 143 (by decide) (by decide), eR 144 (by decide) (by decide), eR 147 (by decide) (by decide)]
        exact a2
    · rw [eh] at h ⊢
      exact rcell_rst.mpr (hc2 h).2
    · rw [hM 129 (by decide) (by decide), eh]; exact q0
    · rw [hM 129 (by decide) (by decide), eh, eN]; exact q1
    · rw [hM 129 (by decide) (by decide), eh, eN]; exact q2
  have hiff : ((0 ≤ l ∧ l < μ 95 1) ∧ (μ (mm_tr 0 + 1) (μ 128 0) ≠ -2 ∧ μ (mm_tr 1 + 1) (μ 128 1) ≠ -2 ∧ μ (mm_tr 2 + 1) (μ 128 2) ≠ -2)) ↔ ((0 ≤ l ∧ l < μ 129 8) ∧ 0 ≤ rhere μ) := by rw [hjn.1, hc1]
  rw [en_19 (d := d + 199), b_19_0 hq]
  refine c_45 (d := d + 196) (N := rNv (rst μ l)) (G := rcell (rst μ l)) (c := rhere μ) hp (J_ct hJ) (J_cg1 hJ) (J_cc hJ) (fun hv => (J_rA hJ (l := l) (by omega)).2.2) (n0_6 hn) (by omega) h1 h2 ?_ (fun l0 l1 => J_ce hJ ⟨l0, l1⟩) (fun h => ?_) (fun a => ?_) (fun a x t' hx μ' b1 b2 b3 => ?_) (fun a hx μ' b1 b2 b3 => ?_)
  · show μ 122 8 = rst μ l 129 65
    rw [rst_re 129 65 (by decide), hjn.2.1]
  · obtain ⟨g1, g2⟩ := hc2 (hc1.mp h)
    exact ⟨g1, rcell_rst.mpr g2⟩
  · refine ⟨n0_6 hn, ?_⟩
    rw [bk_h (hp := 12) (by decide +kernel), b_19_12 hq]
    refine hQ 1 _ X _ (nr_t hn) fun Q2 hQ2 => ?_
    have na : ¬ (0 ≤ l ∧ l < μ 129 8) ∨ rhere μ < 0 := by
      by_cases z : 0 ≤ l ∧ l < μ 129 8
      · right
        by_cases y : rhere μ < 0
        · exact y
        · exact absurd (hiff.mpr ⟨z, by omega⟩) a
      · exact Or.inl z
    refine href μ _ Q2 (fun _ _ _ => rfl) (fun _ => hQ2 0 _ (J_th hJ) mm_us (fun z => absurd z (by decide))) (fun z y => ?_) (fun z y => ?_)
    · rcases na with na | na
      · exact absurd z na
      · omega
    · rcases na with na | na
      · exact absurd z na
      · omega
  · rw [bk_v, b_19_7 hq, mm_w0, mm_gd (by decide)]
    refine hQ 0 _ X n nr_r fun Q2 hQ2 => ?_
    have a' := hiff.mp a
    have hcs : ∀ b, 129 ≤ b → μ' b = μ b := fun b hb => b1 b (by omega) (by omega) (by omega)
    refine href _ _ Q2 (fun b b0 b1 => by rw [mm_uu (by omega), hcs b (by omega)]) (fun na => ?_) (fun _ _ x2 t2 hx2 μ2 hr => ?_) (fun _ _ hx2 => ?_)
    · rcases na with na | na
      · exact absurd a'.1 na
      · omega
    · rw [hx] at hx2
      cases hx2
      refine hQ2 _ _ (J_ev hJ (l := l) (by omega) b1 b3 b2 (fun b hb => mm_uu (by omega)) hr) ?_ (fun _ => ?_)
      · rw [mm_un (by decide), mm_us]
      · rw [mm_uu (by decide), mm_uu (by decide), re_at hr (by decide), rst_row (by decide), mm_us]
    · rw [hx] at hx2; cases hx2
  · rw [bk_h (hp := 15) (by decide +kernel), b_19_15 hq]
    refine hQ 2 _ X _ (nr_t hn) fun Q2 hQ2 => ?_
    have a' := hiff.mp a
    refine href _ _ Q2 (fun b b0 b1' => b1 b (by omega) (by omega) (by omega)) (fun na => ?_) (fun _ _ x2 t2 hx2 => ?_) (fun _ _ hx2 μ2 hr => ?_)
    · rcases na with na | na
      · exact absurd a'.1 na
      · omega
    · rw [hx] at hx2; cases hx2
    · have hj := J_ev hJ (l := l) (t := μ 122 9) (k := 2) (by omega) b1 b3 b2 (fun b hb => rfl) hr
      have e64 : mm_u μ2 129 0 2 129 64 = μ 122 9 := by
        rw [mm_un (by decide), re_at hr (by decide), rst_re 129 64 (by decide), b1 129 (by decide) (by decide) (by decide)]
        exact hjn.2.2.2.1
      rw [← e64, mm_un_id] at hj
      exact hQ2 0 _ hj mm_us (fun z => absurd z (by decide))
end L_state
section L_value
variable {d : Nat} {w : mm_Z} {μ : mm_M} {X : mm_X} {n : mm_N} {l : Int}
theorem L_value (hq : mm_Q w) (hJ : J μ) (hn : n0 n) (h1 : -2147483648 ≤ l) (h2 : l ≤ 2147483647) : PRI w X n (d + 200) 21 [.ref 32, .int (Int32.ofInt (l)), .ref 178] 240 [.ref 129, .int (Int32.ofInt (l))] μ := by
  intro Q1 hQ
  have hp := mm_QP hq
  obtain ⟨hc1, hc2⟩ := J_ch hJ
  have hjn := J_jn hJ
  have hl3 := (J_cg1 hJ).1
  -- the reference's answer, asked behind the class's
  have href : ∀ (M : mm_M) (n : mm_N) (Q2 : am_Ou → am_G → Prop), (∀ b, 129 ≤ b → b < 178 → M b = μ b) → (¬ (0 ≤ l ∧ l < μ 129 8) ∨ rhere μ < 0 → Q2 (.inl (some (.int (Int32.ofInt (0))))) (mm_hp w (mm_u M 129 0 1) X n)) →
      ((0 ≤ l ∧ l < μ 129 8) → 0 ≤ rhere μ → ∀ x t', ev (rNv (rst μ l)) 20 [] (rhere μ) 0 = some (x, t') → ∀ μ', mm_re μ' = mm_re (rst M l) → Q2 (.inl (some (.int (Int32.ofInt (sp_pl x.1 x.2))))) (mm_hp w (mm_u (mm_u μ' 129 0 0) 129 64 t') X n)) →
      ((0 ≤ l ∧ l < μ 129 8) → 0 ≤ rhere μ → ev (rNv (rst μ l)) 20 [] (rhere μ) 0 = none → ∀ μ', mm_re μ' = mm_re (rst M l) → Q2 (.inl (some (.int (Int32.ofInt (0))))) (mm_hp w (mm_u μ' 129 0 2) X n)) → am_C (d + 200) 240 [.ref 129, .int (Int32.ofInt (l))] (mm_hp w M X n) Q2 := by
    intro M n Q2 hM q0 q1 q2
    have eh : rhere M = rhere μ := rhere_c (hM 130 (by decide) (by decide)) (hM 136 (by decide) (by decide))
    have eR : ∀ b, 129 ≤ b → b < 178 → rst M l b = rst μ l b := fun b b0 b1 => by
      by_cases q : b = 129
      · subst q
        unfold rst
        funext j
        rw [mm_ux, mm_ux, mm_ux, mm_ux, mm_ux, mm_ux, mm_ux, mm_ux, mm_ux, mm_ux, mm_ux, mm_ux, mm_ux, mm_ux, hM 129 (by decide) (by decide)]
      · rw [rst_row q, rst_row q, hM b b0 b1]
    have eN : rNv (rst M l) = rNv (rst μ l) := rNv_c (fun b b0 b1 _ _ => eR b (by omega) (by omega)) (by rw [eR 129 (by decide) (by decide)]) (by rw [eR 129 (by decide) (by decide)]) (by rw [eR 129 (by decide) (by decide)])
    have hrt : rt_a M := fun e e0 e1 m m0 m1 => by rw [hM 130 (by decide) (by decide), hM 131 (by decide) (by decide)]; exact J_rt hJ e e0 e1 m m0 m1
    refine c_240 (G := rcell (rst μ l)) (d := d + 190) hp hrt (fun hv => ?_) ⟨h1, h2⟩ (by rw [hM 129 (by decide) (by decide), hjn.1]; exact hl3) (fun e e0 e1 => by rw [hM 136 (by decide) (by decide)]; exact J_rc hJ e e0 e1) (fun h => ?_) ?_ ?_ ?_
    · rw [hM 129 (by decide) (by decide), hjn.1] at hv
      obtain ⟨a1, a2, a3⟩ := J_rA hJ (l := l) (by omega)
      rw [eN]
      refine ⟨?_, ?_, a3⟩
      · obtain ⟨b1, b2, b3, b4, b5, b6, b7, b8⟩ := a1
        refine ⟨fun e e0 e1 => ?_, ?_, ?_, ?_, ?_, ?_, ?_, ?_⟩
        · have := b1 e e0 e1
          unfold rt_ok rt_r at this ⊢
          rw [rp_c (eR 130 (by decide) (by decide)) (eR 131 (by decide) (by decide)), eR 130 (by decide) (by decide), eR 131 (by decide) (by decide), eR 133 (by decide) (by decide), eR 134 (by decide) (by decide)]
          exact this
        · exact rr_r_c (by rw [eR 129 (by decide) (by decide)]) (eR 139 (by decide) (by decide)) (eR 140 (by decide) (by decide)) b2
        · rw [eR 137 (by decide) (by decide)]; exact b3
        · rw [eR 138 (by decide) (by decide)]; exact b4
        · rw [eR 132 (by decide) (by decide)]; exact b5
        · rw [eR 129 (by decide) (by decide)]; exact b6
        · rw [eR 129 (by decide) (by decide)]; exact b7
        · unfold rA_o at b8 ⊢
          rw [eR 129 (by decide) (by decide), eR 141 (by decide) (by decide), eR 142 (by decide) (by decide), eR 143 (by decide) (by decide), eR 144 (by decide) (by decide), eR 146 (by decide) (by decide), eR 147 (by decide) (by decide)]
          exact b8
      · unfold rA_l at a2 ⊢
        rw [eR 129 (by decide) (by decide), eR 141 (by decide) (by decide), eR 142 (by decide) (by decide), eR 143 (by decide) (by decide), eR 144 (by decide) (by decide), eR 147 (by decide) (by decide)]
        exact a2
    · rw [eh] at h ⊢
      exact rcell_rst.mpr (hc2 h).2
    · rw [hM 129 (by decide) (by decide), eh]; exact q0
    · rw [hM 129 (by decide) (by decide), eh, eN]; exact q1
    · rw [hM 129 (by decide) (by decide), eh, eN]; exact q2
  have hiff : ((0 ≤ l ∧ l < μ 95 1) ∧ (μ (mm_tr 0 + 1) (μ 128 0) ≠ -2 ∧ μ (mm_tr 1 + 1) (μ 128 1) ≠ -2 ∧ μ (mm_tr 2 + 1) (μ 128 2) ≠ -2)) ↔ ((0 ≤ l ∧ l < μ 129 8) ∧ 0 ≤ rhere μ) := by rw [hjn.1, hc1]
  rw [en_21 (d := d + 199), b_21_0 hq]
  refine c_49 (d := d + 196) (N := rNv (rst μ l)) (G := rcell (rst μ l)) (c := rhere μ) hp (J_ct hJ) (J_cg1 hJ) (J_cc hJ) (fun hv => (J_rA hJ (l := l) (by omega)).2.2) (n0_6 hn) (by omega) h1 h2 ?_ (fun l0 l1 => J_ce hJ ⟨l0, l1⟩) (fun h => ?_) (fun a => ?_) (fun a x t' hx μ' b1 b2 b3 => ?_) (fun a hx μ' b1 b2 b3 => ?_)
  · show μ 122 8 = rst μ l 129 65
    rw [rst_re 129 65 (by decide), hjn.2.1]
  · obtain ⟨g1, g2⟩ := hc2 (hc1.mp h)
    exact ⟨g1, rcell_rst.mpr g2⟩
  · refine ⟨n0_6 hn, ?_⟩
    rw [bk_h (hp := 12) (by decide +kernel), b_21_12 hq]
    refine hQ 1 _ X _ (nr_t hn) fun Q2 hQ2 => ?_
    have na : ¬ (0 ≤ l ∧ l < μ 129 8) ∨ rhere μ < 0 := by
      by_cases z : 0 ≤ l ∧ l < μ 129 8
      · right
        by_cases y : rhere μ < 0
        · exact y
        · exact absurd (hiff.mpr ⟨z, by omega⟩) a
      · exact Or.inl z
    refine href μ _ Q2 (fun _ _ _ => rfl) (fun _ => hQ2 0 _ (J_th hJ) mm_us (fun z => absurd z (by decide))) (fun z y => ?_) (fun z y => ?_)
    · rcases na with na | na
      · exact absurd z na
      · omega
    · rcases na with na | na
      · exact absurd z na
      · omega
  · rw [bk_v, b_21_7 hq, mm_w0, mm_gd (by decide)]
    refine hQ 0 _ X n nr_r fun Q2 hQ2 => ?_
    have a' := hiff.mp a
    have hcs : ∀ b, 129 ≤ b → μ' b = μ b := fun b hb => b1 b (by omega) (by omega) (by omega)
    refine href _ _ Q2 (fun b b0 b1 => by rw [mm_uu (by omega), hcs b (by omega)]) (fun na => ?_) (fun _ _ x2 t2 hx2 μ2 hr => ?_) (fun _ _ hx2 => ?_)
    · rcases na with na | na
      · exact absurd a'.1 na
      · omega
    · rw [hx] at hx2
      cases hx2
      refine hQ2 _ _ (J_ev hJ (l := l) (by omega) b1 b3 b2 (fun b hb => mm_uu (by omega)) hr) ?_ (fun _ => ?_)
      · rw [mm_un (by decide), mm_us]
      · rw [mm_uu (by decide), mm_uu (by decide), re_at hr (by decide), rst_row (by decide), mm_us]
    · rw [hx] at hx2; cases hx2
  · rw [bk_h (hp := 15) (by decide +kernel), b_21_15 hq]
    refine hQ 2 _ X _ (nr_t hn) fun Q2 hQ2 => ?_
    have a' := hiff.mp a
    refine href _ _ Q2 (fun b b0 b1' => b1 b (by omega) (by omega) (by omega)) (fun na => ?_) (fun _ _ x2 t2 hx2 => ?_) (fun _ _ hx2 μ2 hr => ?_)
    · rcases na with na | na
      · exact absurd a'.1 na
      · omega
    · rw [hx] at hx2; cases hx2
    · have hj := J_ev hJ (l := l) (t := μ 122 9) (k := 2) (by omega) b1 b3 b2 (fun b hb => rfl) hr
      have e64 : mm_u μ2 129 0 2 129 64 = μ 122 9 := by
        rw [mm_un (by decide), re_at hr (by decide), rst_re 129 64 (by decide), b1 129 (by decide) (by decide) (by decide)]
        exact hjn.2.2.2.1
      rw [← e64, mm_un_id] at hj
      exact hQ2 0 _ hj mm_us (fun z => absurd z (by decide))
end L_value
