/-! The class works cells out: sums, means, rolls, references. -/
section CK
variable {d : Nat} {Q : am_Ou → am_G → Prop} {w : mm_Z} {μ : mm_M} {X : mm_X} {n : mm_N} {c e m r t v : Int} {N : ev_N} {G : Int → Prop}
theorem ev_sums_b (hN : ev_en N G) {f : Nat} {P : List Int} (he : 0 ≤ e ∧ e < 3) (hc : G c) {s : ev_K} {t' : Int} (h : ev_sum (ev N f P) c e (nv_kid N e (rpart c e)) (0, 0) t = some (s, t')) : (0 ≤ s.1 ∧ s.1 ≤ 4) ∧ (-12000000000 ≤ s.2 ∧ s.2 ≤ 12000000000) ∧ t ≤ t' ∧ (t ≤ nv_fu N → t' ≤ nv_fu N) := by
  have h1 := ev_sumo (ev_o hN f P) _ _ _ (fun m hm => (hN.2.2.2.2.2.2.1 c e m hc he.1 he.2 hm).2) (by decide) _ _ h
  have h2 := hN.2.2.2.2.2.2.2.1 c e hc he.1 he.2
  have h3 := h1.2.1
  dsimp only at h3
  exact ⟨h1.1, by omega, h1.2.2⟩
theorem c_74 (hq : mm_P w) (hN : ev_en N G) {f : Nat} (hf : f ≤ 19) (hW : ce_W d w X n N G f) {P : List Int} (he : 0 ≤ e ∧ e < 3) (hc : G c) (hd : 4 ≤ d)
    (hm : ce_m μ N G P t) (hb : μ 122 5 + 9 * f ≤ 180)
    (q1 : ∀ x t', ev_tots (ev_sum (ev N f P) c e (nv_kid N e (rpart c e)) (0, 0) t) = some (x, t') → ∀ μ', ce_a μ μ' t' → Q (.inl (some (.long (Int64.ofInt (sp_en x.1 x.2))))) (mm_hp w (μ') X n))
    (q2 : ev_tots (ev_sum (ev N f P) c e (nv_kid N e (rpart c e)) (0, 0) t) = none → ∀ μ', ce_x μ μ' → Q (.inr (2, n.1)) (mm_hp w μ' X (mm_th n))) : am_C (d + 2) 74 [.ref 122, .int (Int32.ofInt (cc c)), .int (Int32.ofInt (e)), .int (Int32.ofInt (20 - (f : Int)))] (mm_hp w μ X n) Q := by
  rw [en_74 (d := d + 1), b_74_0 hq]
  refine c_63 hq hN hf hW he hc hd hm hb ?_ ?_
  · intro s t' hs μ' ha
    have hsb := ev_sums_b hN he hc hs
    rw [hs] at q1
    have q1 := q1 _ _ rfl μ' ha
    obtain ⟨d, rfl⟩ : ∃ k, d = k + 4 := ⟨d - 4, by omega⟩
    rw [bk_v, b_74_7 hq, show d + 4 + 1 = (d + 3) + 2 from rfl, c_53 (d := d + 3) hq (by split <;> omega) (fun _ => by omega), bk_v, b_74_14 hq]
    unfold ev_tot at q1
    by_cases g : s.1 ≤ 1
    · rw [if_pos g] at q1
      simp (disch := omega) only [and_self, true_and, mm_ltx, mm_lex, mm_eqx, mm_wv, mm_gd, ↓reduceIte, Int.reduceAdd, Int.reduceSub, Int.reduceNeg, Int.reduceLE, Int.reduceLT, Int.reduceMul, Int.reduceEq, if_pos, if_neg]
      unfold sp_en
      simp (disch := omega) only [and_self, true_and, mm_ltx, mm_lex, mm_eqx, mm_wv, mm_gd, ↓reduceIte, Int.reduceAdd, Int.reduceSub, Int.reduceNeg, Int.reduceLE, Int.reduceLT, Int.reduceMul, Int.reduceEq, if_pos, if_neg]
      rw [c_52 (d := d + 3) hq (by omega) (by omega), bk_v, b_74_27 hq]
      exact q1
    · rw [if_neg g] at q1
      simp (disch := omega) only [and_self, true_and, mm_ltx, mm_lex, mm_eqx, mm_wv, mm_gd, ↓reduceIte, Int.reduceAdd, Int.reduceSub, Int.reduceNeg, Int.reduceLE, Int.reduceLT, Int.reduceMul, Int.reduceEq, if_pos, if_neg]
      rw [b_74_27 hq]
      unfold sp_en at q1 ⊢
      rw [if_neg (show ¬ s.1 = 0 by omega)] at q1 ⊢
      exact q1
  · intro hs μ' hx
    rw [bk_e h_74]
    rw [hs] at q2
    exact q2 rfl μ' hx
theorem c_67 (hq : mm_P w) (hN : ev_en N G) {f : Nat} (hf : f ≤ 19) (hW : ce_W d w X n N G f) {P : List Int} (he : 0 ≤ e ∧ e < 3) (hc : G c) (hd : 4 ≤ d) (hne : nv_kid N e (rpart c e) ≠ [])
    (hm : ce_m μ N G P t) (hb : μ 122 5 + 9 * f ≤ 180)
    (q1 : ∀ x t', ev_means (ev_sum (ev N f P) c e (nv_kid N e (rpart c e)) (0, 0) t) (nv_kid N e (rpart c e)).length = some (x, t') → ∀ μ', ce_a μ μ' t' → Q (.inl (some (.long (Int64.ofInt (sp_en x.1 x.2))))) (mm_hp w (μ') X n))
    (q2 : ev_means (ev_sum (ev N f P) c e (nv_kid N e (rpart c e)) (0, 0) t) (nv_kid N e (rpart c e)).length = none → ∀ μ', ce_x μ μ' → Q (.inr (2, n.1)) (mm_hp w μ' X (mm_th n))) : am_C (d + 2) 67 [.ref 122, .int (Int32.ofInt (cc c)), .int (Int32.ofInt (e)), .int (Int32.ofInt (20 - (f : Int)))] (mm_hp w μ X n) Q := by
  have hc0 := hN.1 c hc
  have hcb := cc_b hc0.1 hc0.2
  have hpb := rpart_b (e := e) hc0.1 hc0.2
  rw [en_67 (d := d + 1), b_67_0 hq]
  refine c_63 hq hN hf hW he hc hd hm hb ?_ ?_
  · intro s t' hs μ' ha
    have hsb := ev_sums_b hN he hc hs
    rw [hs] at q1
    have q1 := q1 _ _ rfl μ' ha
    obtain ⟨d, rfl⟩ : ∃ k, d = k + 4 := ⟨d - 4, by omega⟩
    rw [bk_v, b_67_7 hq, show d + 4 + 1 = (d + 3) + 2 from rfl, c_53 (d := d + 3) hq (by split <;> omega) (fun _ => by omega), bk_v, b_67_14 hq]
    unfold ev_mean at q1
    by_cases g : s.1 ≤ 1
    · rw [if_pos g] at q1
      simp (disch := omega) only [and_self, true_and, mm_ltx, mm_lex, mm_eqx, mm_wv, mm_gd, ↓reduceIte, Int.reduceAdd, Int.reduceSub, Int.reduceNeg, Int.reduceLE, Int.reduceLT, Int.reduceMul, Int.reduceEq, if_pos, if_neg]
      unfold sp_en
      simp (disch := omega) only [and_self, true_and, mm_ltx, mm_lex, mm_eqx, mm_wv, mm_gd, ↓reduceIte, Int.reduceAdd, Int.reduceSub, Int.reduceNeg, Int.reduceLE, Int.reduceLT, Int.reduceMul, Int.reduceEq, if_pos, if_neg]
      have h0 := hm.1 μ' ha.1 (ha.2.2.1 6 (by decide))
      have ht := h0.1 e he.1 he.2
      have hkids := h0.2.2.2.2.2.2.2.2.2.1 e (rpart c e) he.1 he.2 hpb.1 hpb.2
      have hlen := hN.2.2.2.2.2.2.2.1 c e hc he.1 he.2
      have hpos : 0 < (nv_kid N e (rpart c e)).length := List.length_pos_iff.mpr hne
      have loop : ∀ (k : Nat) (y : Int), k ≤ 6 → 0 ≤ y → y + k ≤ 6 → (am_E (d + 5) 67 Q (44, [some (.ref 122), some (.int (Int32.ofInt (cc c))), some (.int (Int32.ofInt (e))), some (.int (Int32.ofInt (20 - (f : Int)))), some (.long (Int64.ofInt (s.2))), none, some (.ref (mm_tr e)), some (.int (Int32.ofInt (rpart c e))), some (.int (Int32.ofInt (y))), some (.int (Int32.ofInt (6 - (k : Int))))], [], mm_hp w μ' X n) ↔ am_E (d + 5) 67 Q (44, [some (.ref 122), some (.int (Int32.ofInt (cc c))), some (.int (Int32.ofInt (e))), some (.int (Int32.ofInt (20 - (f : Int)))), some (.long (Int64.ofInt (s.2))), none, some (.ref (mm_tr e)), some (.int (Int32.ofInt (rpart c e))), some (.int (Int32.ofInt (y + ((fo_rk k).filter (fun j => decide (μ' (mm_tr e + 1) j = rpart c e))).length))), some (.int (Int32.ofInt (6)))], [], mm_hp w μ' X n)) := by
        intro k
        induction k with
        | zero =>
          intro y _ _ _
          rw [show y + (((fo_rk 0).filter (fun j => decide (μ' (mm_tr e + 1) j = rpart c e))).length : Int) = y from Int.add_zero y]
          exact Iff.rfl
        | succ k ih =>
          intro y hk hy hyk
          have e1 : 6 - ((k + 1 : Nat) : Int) + 1 = 6 - (k : Int) := by omega
          have g0 : 0 ≤ 6 - ((k + 1 : Nat) : Int) := by omega
          have g6 : 6 - ((k + 1 : Nat) : Int) < 6 := by omega
          unfold fo_rk
          rw [b_67_44 hq]
          generalize hj : 6 - ((k + 1 : Nat) : Int) = j at *
          rw [if_neg (by rw [mm_lex, mm_wv (by decide) (by decide), mm_wv (by omega) (by omega)]; omega), show d + 5 = (d + 4) + 1 from rfl, c_149 (d := d + 4) (mm_PT hq) g0 g6 (by omega) (by omega) (mm_twp ht), bk_v, b_67_62 hq]
          by_cases a : μ' (mm_tr e + 1) j = rpart c e
          · rw [List.filter_cons_of_pos (by simp [a]), if_pos a, if_neg (by decide), b_67_70 hq, e1, List.length_cons]
            refine (ih (y + 1) (by omega) (by omega) (by omega)).trans ?_
            rw [show y + 1 + (((fo_rk k).filter (fun j => decide (μ' (mm_tr e + 1) j = rpart c e))).length : Int) = y + ((((fo_rk k).filter (fun j => decide (μ' (mm_tr e + 1) j = rpart c e))).length + 1 : Nat) : Int) by omega]
          · rw [List.filter_cons_of_neg (by simp [a]), if_neg a, if_pos (by decide), b_67_70 hq, e1, Int.add_zero]
            exact ih y (by omega) hy (by omega)
      rw [show d + 5 = (d + 4) + 1 from rfl, c_131 (d := d + 4) hq hcb.1 hcb.2 he, bk_v, b_67_36 hq, cc_p hc0.1 hc0.2]
      have hl := loop 6 0 (by omega) (by decide) (by decide)
      rw [ce_kf, hkids, Int.zero_add] at hl
      refine hl.mpr ?_
      have hrb := sp_rnd_b (a := s.2) (b := (nv_kid N e (rpart c e)).length) (v := 12000000000) (by omega) (by omega) (by omega)
      rw [b_67_44 hq, if_pos (by decide), mm_wv (by omega) (by omega), show d + 5 = (d + 3) + 2 from rfl, c_58 (d := d + 3) hq (by omega) (by omega) (by omega) (by omega) (by omega), bk_v, b_67_87 hq, c_52 (d := d + 3) hq (by omega) (by omega), bk_v, b_67_90 hq]
      exact q1
    · rw [if_neg g] at q1
      simp (disch := omega) only [and_self, true_and, mm_ltx, mm_lex, mm_eqx, mm_wv, mm_gd, ↓reduceIte, Int.reduceAdd, Int.reduceSub, Int.reduceNeg, Int.reduceLE, Int.reduceLT, Int.reduceMul, Int.reduceEq, if_pos, if_neg]
      unfold sp_en at q1 ⊢
      rw [if_neg (show ¬ s.1 = 0 by omega)] at q1 ⊢
      exact q1
  · intro hs μ' hx
    rw [bk_e h_67]
    rw [hs] at q2
    exact q2 rfl μ' hx
theorem sp_lc_ch {p : Int → Int} : sp_lc p m = (fo_ch p m).getLastD (-1) := by
  have h : ∀ (l : List Int) (a x : Int), ((l ++ [a]).filter (fun c => decide (p c = m))).getLastD x = if p a = m then a else (l.filter (fun c => decide (p c = m))).getLastD x := by
    intro l a x
    rw [List.filter_append]
    by_cases e : p a = m
    · rw [show [a].filter (fun c => decide (p c = m)) = [a] from List.filter_cons_of_pos (by simp [e]), if_pos e, List.getLastD_concat]
    · rw [show [a].filter (fun c => decide (p c = m)) = [] from List.filter_cons_of_neg (by simp [e]), if_neg e, List.append_nil]
  unfold fo_ch sp_lc
  rw [show fo_rg = (((((([] : List Int) ++ [0]) ++ [1]) ++ [2]) ++ [3]) ++ [4]) ++ [5] from rfl, h, h, h, h, h, h]
  rfl
theorem c_72 (hq : mm_P w) (hN : ev_en N G) {f : Nat} (hf : f ≤ 19) (hW : ce_W d w X n N G f) {P : List Int} (hi : 0 ≤ nv_inn N c) (hc : G c) (hd : 4 ≤ d)
    (hm : ce_m μ N G P t) (hb : μ 122 5 + 9 * f ≤ 180) {R : ev_R} (hR : R = if nv_roll N (nv_inn N c) (rpart c (nv_inn N c)) = 1 then ev_tots (ev_sum (ev N f P) c (nv_inn N c) (nv_kid N (nv_inn N c) (rpart c (nv_inn N c))) (0, 0) t)
    else if nv_roll N (nv_inn N c) (rpart c (nv_inn N c)) = 2 then ev_means (ev_sum (ev N f P) c (nv_inn N c) (nv_kid N (nv_inn N c) (rpart c (nv_inn N c))) (0, 0) t) (nv_kid N (nv_inn N c) (rpart c (nv_inn N c))).length
    else if nv_roll N (nv_inn N c) (rpart c (nv_inn N c)) = 3 then ev N f P (ev_mv c (nv_inn N c) ((nv_kid N (nv_inn N c) (rpart c (nv_inn N c))).getD 0 (-1))) t
    else if nv_roll N (nv_inn N c) (rpart c (nv_inn N c)) = 4 then ev N f P (ev_mv c (nv_inn N c) ((nv_kid N (nv_inn N c) (rpart c (nv_inn N c))).getLastD (-1))) t
    else some ((1, 0), t))
    (q1 : ∀ x t', R = some (x, t') → ∀ μ', ce_a μ μ' t' → Q (.inl (some (.long (Int64.ofInt (sp_en x.1 x.2))))) (mm_hp w (μ') X n))
    (q2 : R = none → ∀ μ', ce_x μ μ' → Q (.inr (2, n.1)) (mm_hp w μ' X (mm_th n))) : am_C (d + 3) 72 [.ref 122, .int (Int32.ofInt (cc c)), .int (Int32.ofInt (nv_inn N c)), .int (Int32.ofInt (20 - (f : Int)))] (mm_hp w μ X n) Q := by
  have hc0 := hN.1 c hc
  have hcb := cc_b hc0.1 hc0.2
  have hi3 := hN.2.2.2.2.2.1 c hc
  have hne := hN.2.2.2.2.2.2.2.2.1 c hc hi
  have h0 := hm.1 μ ce_s_r rfl
  have hroll := h0.2.2.2.2.2.2.2.2.1 c hc (by omega)
  generalize he' : nv_inn N c = e at *
  have he : 0 ≤ e ∧ e < 3 := ⟨hi, hi3.2⟩
  have hpb := rpart_b (e := e) hc0.1 hc0.2
  have ht := h0.1 e he.1 he.2
  have hkids := h0.2.2.2.2.2.2.2.2.2.1 e (rpart c e) he.1 he.2 hpb.1 hpb.2
  have hrb := (ht.1 (rpart c e) hpb.1 hpb.2).2.1
  have hk : ∀ m ∈ nv_kid N e (rpart c e), (0 ≤ m ∧ m < 6) ∧ G (ev_mv c e m) := fun m hm => hN.2.2.2.2.2.2.1 c e m hc he.1 he.2 hm
  have hone : ∀ m ∈ nv_kid N e (rpart c e), R = ev N f P (ev_mv c e m) t → ∀ (L1 : am_Lo), (∀ x, Q (.inl (some (.long (Int64.ofInt (x))))) (mm_hp w μ X n) → False) ∨ True := fun _ _ _ _ => Or.inr trivial
  rw [en_72 (d := d + 2), b_72_0 hq]
  simp (disch := omega) only [and_self, true_and, mm_ltx, mm_lex, mm_eqx, mm_wv, mm_gd, ↓reduceIte, Int.reduceAdd, Int.reduceSub, Int.reduceNeg, Int.reduceLE, Int.reduceLT, Int.reduceMul, Int.reduceEq, if_pos, if_neg]
  rw [show d + 2 = (d + 1) + 1 from rfl, c_131 (d := d + 1) hq hcb.1 hcb.2 he, bk_v, b_72_16 hq, cc_p hc0.1 hc0.2]
  simp (disch := omega) only [mm_wv, mm_gd]
  rw [hroll] at hrb ⊢
  by_cases r1 : nv_roll N e (rpart c e) = 1
  · rw [if_pos r1] at hR
    rw [if_pos r1, show d + 1 + 1 = d + 2 from rfl]
    refine c_74 hq hN hf hW he hc hd hm hb ?_ ?_
    · intro x t' hx μ' ha
      rw [bk_v, b_72_63 hq]
      exact q1 x t' (by rw [hR]; exact hx) μ' ha
    · intro hx μ' h2
      rw [bk_e h_72]
      exact q2 (by rw [hR]; exact hx) μ' h2
  · rw [if_neg r1] at hR
    rw [if_neg r1]
    by_cases r2 : nv_roll N e (rpart c e) = 2
    · rw [if_pos r2] at hR
      rw [if_pos r2, show d + 1 + 1 = d + 2 from rfl]
      refine c_67 hq hN hf hW he hc hd hne hm hb ?_ ?_
      · intro x t' hx μ' ha
        rw [bk_v, b_72_71 hq]
        exact q1 x t' (by rw [hR]; exact hx) μ' ha
      · intro hx μ' h2
        rw [bk_e h_72]
        exact q2 (by rw [hR]; exact hx) μ' h2
    · rw [if_neg r2] at hR
      rw [if_neg r2]
      have up : ce_W (d + 2) w X n N G f := fun c' P' t' μ' Q' g1 g2 g3 g4 g5 => am_C_le (by omega) _ _ _ _ (hW c' P' t' μ' Q' g1 g2 g3 g4 g5)
      by_cases r3 : nv_roll N e (rpart c e) = 3
      · rw [if_pos r3] at hR
        have hmem : (nv_kid N e (rpart c e)).getD 0 (-1) ∈ nv_kid N e (rpart c e) := by
          generalize nv_kid N e (rpart c e) = l at *
          cases l with
          | nil => exact absurd rfl hne
          | cons a l => exact List.mem_cons_self
        have hm3 := hk _ hmem
        rw [if_pos r3, c_145 (d := d + 1) (mm_PT hq) (by omega) (by omega) (mm_twp ht), bk_v, b_72_82 hq, ← fo_ch0, hkids]
        generalize (nv_kid N e (rpart c e)).getD 0 (-1) = m3 at *
        rw [show d + 1 + 1 = d + 2 from rfl, c_132 (d := d) hq hcb.1 hcb.2 he hm3.1, bk_v, b_72_85 hq, show cc c + (m3 - cpart (cc c) e) * mm_span e = cc (ev_mv c e m3) from (rmv_cc hc0.1 hc0.2 he hm3.1).symm, show 20 - (f : Int) + 1 = 21 - (f : Int) by omega]
        refine up (ev_mv c e m3) P t μ _ hm3.2 hm hb ?_ ?_
        · intro x t' hx μ' ha
          rw [bk_v, b_72_91 hq]
          exact q1 x t' (by rw [hR]; exact hx) μ' ha
        · intro hx μ' h2
          rw [bk_e h_72]
          exact q2 (by rw [hR]; exact hx) μ' h2
      · rw [if_neg r3] at hR
        rw [if_neg r3]
        by_cases r4 : nv_roll N e (rpart c e) = 4
        · rw [if_pos r4] at hR
          have hmem : (nv_kid N e (rpart c e)).getLastD (-1) ∈ nv_kid N e (rpart c e) := by
            generalize nv_kid N e (rpart c e) = l at *
            cases l with
            | nil => exact absurd rfl hne
            | cons a l => rw [List.getLastD_cons]; exact List.getLastD_mem_cons
          have hm3 := hk _ hmem
          rw [if_pos r4, c_152 (d := d + 1) (mm_PT hq) (by omega) (by omega) (mm_twp ht), bk_v, b_72_102 hq, sp_lc_ch, hkids]
          generalize (nv_kid N e (rpart c e)).getLastD (-1) = m3 at *
          rw [show d + 1 + 1 = d + 2 from rfl, c_132 (d := d) hq hcb.1 hcb.2 he hm3.1, bk_v, b_72_105 hq, show cc c + (m3 - cpart (cc c) e) * mm_span e = cc (ev_mv c e m3) from (rmv_cc hc0.1 hc0.2 he hm3.1).symm, show 20 - (f : Int) + 1 = 21 - (f : Int) by omega]
          refine up (ev_mv c e m3) P t μ _ hm3.2 hm hb ?_ ?_
          · intro x t' hx μ' ha
            rw [bk_v, b_72_111 hq]
            exact q1 x t' (by rw [hR]; exact hx) μ' ha
          · intro hx μ' h2
            rw [bk_e h_72]
            exact q2 (by rw [hR]; exact hx) μ' h2
        · rw [if_neg r4] at hR
          rw [if_neg r4, c_56 (d := d + 1) hq (by decide), bk_v, b_72_116 hq]
          exact q1 (1, 0) t hR μ (ce_a_r hm.2.2.1)
end CK
