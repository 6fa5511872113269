/-! Calls of both sides: shown. -/
section SH
variable {d : Nat} {Q : am_Ou → am_G → Prop} {w : mm_Z} {μ μ' : mm_M} {X : mm_X} {n : mm_N} {l k c : Int} {N : ev_N} {G : Int → Prop} {F : Int → Int}
theorem nr_s (h : n0 n) : nr n (n.1 + 2, n.2.1 - 2, n.2.2 - 20) := ⟨by show n.1 ≤ n.1 + 2; omega, by show n.2.1 ≤ n.2.1 - 2 + 2; omega, by show n.2.2 ≤ n.2.2 - 20 + 20; omega⟩
theorem J_rs (hJ : J μ) : J (rs μ F) := by
  refine J_mk [177] [] (fun b b1 b2 b3 => ?_) (fun j hj => ?_) hJ (Or.inl (by decide)) (Or.inl (by decide)) (Or.inl (by decide)) (Or.inl (by decide)) (Or.inl (by decide)) (Or.inl (by decide)) (Or.inl (by decide)) (Or.inl (by decide)) (Or.inl (by decide)) (Or.inl (by decide)) (Or.inl (by decide)) (Or.inl (by decide))
  · simp only [List.mem_cons, List.not_mem_nil, or_false] at b3
    exact rs_o b3
  · rw [rs_o (by decide)]
theorem c_43 (hq : mm_P w) (hz : w.2.2.1.category = 1) (hso : sb_o w n.1) (hn2 : 2 ≤ n.2.1 ∧ 20 ≤ n.2.2) (k1 : -2147483648 ≤ k) (k2 : k ≤ 2147483647) (ht : ct_a μ) (hg : cg_r μ) (hc : cc_r μ) (hN : (0 ≤ l ∧ l < μ 95 1) → ev_en N G) (hn : ce_n n) (hd : 144 ≤ d) (h1 : -2147483648 ≤ l) (h2 : l ≤ 2147483647) (h8 : μ 122 8 = nv_fu N) (he : 0 ≤ l → l < μ 95 1 → ∀ μ', ce_s μ μ' → μ' 122 6 = l → ce_0 μ' N G) (hG : (μ (mm_tr 0 + 1) (μ 128 0) ≠ -2 ∧ μ (mm_tr 1 + 1) (μ 128 1) ≠ -2 ∧ μ (mm_tr 2 + 1) (μ 128 2) ≠ -2) → ccell μ = cc c ∧ G c)
    (q0 : ¬ ((0 ≤ l ∧ l < μ 95 1) ∧ (μ (mm_tr 0 + 1) (μ 128 0) ≠ -2 ∧ μ (mm_tr 1 + 1) (μ 128 1) ≠ -2 ∧ μ (mm_tr 2 + 1) (μ 128 2) ≠ -2)) → mm_thr Q w μ X n 0)
    (q1 : ((0 ≤ l ∧ l < μ 95 1) ∧ (μ (mm_tr 0 + 1) (μ 128 0) ≠ -2 ∧ μ (mm_tr 1 + 1) (μ 128 1) ≠ -2 ∧ μ (mm_tr 2 + 1) (μ 128 2) ≠ -2)) → ∀ x t', ev N 20 [] c 0 = some (x, t') → ∀ μ', ce_s μ μ' → μ' 122 9 = t' → μ' 122 8 = μ 122 8 → ∀ X1, Q (.inl (some (.int (Int32.ofInt (txa (txk (fun _ => 0) x.1 x.2) k))))) (mm_hp w μ' X1 (n.1 + 2, n.2.1 - 2, n.2.2 - 20)))
    (q2 : ((0 ≤ l ∧ l < μ 95 1) ∧ (μ (mm_tr 0 + 1) (μ 128 0) ≠ -2 ∧ μ (mm_tr 1 + 1) (μ 128 1) ≠ -2 ∧ μ (mm_tr 2 + 1) (μ 128 2) ≠ -2)) → ev N 20 [] c 0 = none → ∀ μ', ce_s μ μ' → μ' 122 9 = μ 122 9 → μ' 122 8 = μ 122 8 → Q (.inr (2, n.1)) (mm_hp w μ' X (mm_th n))) : am_C (d + 3) 43 [.ref 32, .int (Int32.ofInt (l)), .int (Int32.ofInt (k))] (mm_hp w μ X n) Q := by
  rw [en_43 (d := d + 2), b_43_0 hq]
  refine c_28 hq ht hg hc hN hn hd h1 h2 h8 he hG (fun a => ?_) (fun a x t' hx μ' b1 b2 b3 => ?_) (fun a hx μ' b1 b2 b3 => ?_)
  · have := q0 a
    refine ⟨this.1, ?_⟩
    rw [bk_e h_43]
    exact this.2
  · have ho := ev_o (hN a.1) 20 [] c 0 x t' (hG a.2).2 hx
    obtain ⟨d, rfl⟩ : ∃ k, d = k + 144 := ⟨d - 144, by omega⟩
    have hQ := q1 a x t' hx μ' b1 b2 b3
    obtain ⟨a1, a2, a3, a4⟩ := txg_k (f := fun _ => 0) (h := fun _ => 0) (k := x.1) (v := x.2)
    rw [bk_v, b_43_5 hq, show d + 144 + 2 = (d + 140) + 6 from rfl, c_60 (d := d + 140) hq hso hn2.1 hn2.2 ho.1.1 ho.1.2.1 ho.1.2.2, bk_v]
    unfold txa at hQ
    by_cases e0 : k < 0
    · rw [if_neg (by omega)] at hQ
      rw [b_43_8 hq (sb_oc hso), if_pos (by rw [mm_ltx, mm_wv (by omega) (by omega), mm_wv (by omega) (by omega)]; omega)]
      exact hQ _
    · rw [b_43_8 hq (sb_oc hso), if_neg (by rw [mm_ltx, mm_wv (by omega) (by omega), mm_wv (by omega) (by omega)]; omega), show d + 140 + 6 = (d + 144) + 2 from rfl, c_286 (d := d + 144) hso, bk_v, b_43_18 hq (sb_oc hso)]
      by_cases e1 : (txk (fun _ => 0) x.1 x.2).2 ≤ k
      · rw [if_neg (by omega)] at hQ
        rw [if_pos (by rw [mm_lex, mm_wv (by omega) (by omega), mm_wv (by omega) (by omega)]; omega)]
        exact hQ _
      · rw [if_pos (by omega)] at hQ
        have hb := (a1 k (by omega) (by omega)).2
        rw [if_neg (by rw [mm_lex, mm_wv (by omega) (by omega), mm_wv (by omega) (by omega)]; omega), show d + 144 + 2 = (d + 142) + 4 from rfl, c_285 (d := d + 142) hq hz hso (by omega) (by omega) a4 hb.1 hb.2, bk_v, b_43_26 hq]
        exact hQ _
  · rw [bk_e h_43]
    exact q2 a hx μ' b1 b2 b3
theorem c_227 (hq : mm_P w) (k1 : -2147483648 ≤ k) (k2 : k ≤ 2147483647) (hrt : rt_a μ) (hv : (0 ≤ l ∧ l < μ 129 8) → rA (rst μ l) ∧ rA_l (rst μ l) ∧ ev_en (rNv (rst μ l)) G) (hi : -2147483648 ≤ l ∧ l ≤ 2147483647) (h8 : 1 ≤ μ 129 8 ∧ μ 129 8 ≤ 3) (hcur : ∀ e, 0 ≤ e → e < 3 → 0 ≤ μ 136 e ∧ μ 136 e < 6) (hG : 0 ≤ rhere μ → G (rhere μ))
    (hQ0 : ¬ (0 ≤ l ∧ l < μ 129 8) ∨ rhere μ < 0 → Q (.inl (some (.int (Int32.ofInt (0))))) (mm_hp w (mm_u μ 129 0 1) X n))
    (hQ1 : (0 ≤ l ∧ l < μ 129 8) → 0 ≤ rhere μ → ∀ x t', ev (rNv (rst μ l)) 20 [] (rhere μ) 0 = some (x, t') → ∀ μ', mm_re μ' = mm_re (rst μ l) → ∀ F, Q (.inl (some (.int (Int32.ofInt (txa (txk (fun _ => 0) x.1 x.2) k))))) (mm_hp w (rs (mm_u (mm_u μ' 129 0 0) 129 64 t') F) X n))
    (hQ2 : (0 ≤ l ∧ l < μ 129 8) → 0 ≤ rhere μ → ev (rNv (rst μ l)) 20 [] (rhere μ) 0 = none → ∀ μ', mm_re μ' = mm_re (rst μ l) → Q (.inl (some (.int (Int32.ofInt (0))))) (mm_hp w (mm_u μ' 129 0 2) X n)) : am_C (d + 10) 227 [.ref 129, .int (Int32.ofInt (l)), .int (Int32.ofInt (k))] (mm_hp w μ X n) Q := by
  rw [en_227 (d := d + 9), b_227_0 hq]
  refine c_159 hq hrt hv hi h8 hcur hG (fun a => ?_) (fun a b x t' hx μ' b1 b2 b3 b4 => ?_) (fun a b hx μ' b1 => ?_)
  · rw [bk_v, b_227_5 hq, if_pos rfl]
    exact hQ0 a
  · have ho := ev_o (hv a).2.2 20 [] (rhere μ) 0 x t' (hG b) hx
    have hQ := hQ1 a b x t' hx μ' b1
    have e62 : mm_u (mm_u μ' 129 0 0) 129 64 t' 129 62 = x.1 := by rw [mm_un (by decide), mm_un (by decide), b2]
    have e63 : mm_u (mm_u μ' 129 0 0) 129 64 t' 129 63 = sp_pl x.1 x.2 := by rw [mm_un (by decide), mm_un (by decide), b3]
    generalize mm_u (mm_u μ' 129 0 0) 129 64 t' = M at hQ e62 e63
    rw [bk_v, b_227_5 hq, if_neg (by decide), e62, e63]
    obtain ⟨⟨ho1, ho2⟩, -⟩ := ho
    generalize x.1 = i at *
    generalize x.2 = v at *
    have hQ' : Q (.inl (some (.int (Int32.ofInt (txa (txk (fun _ => 0) i v) k))))) (mm_hp w M X n) := by
      have := hQ (M 177)
      rw [rs_id] at this
      exact this
    by_cases e : i = 0
    · subst e
      have hv0 : sp_pl 0 v = v := if_pos rfl
      rw [hv0] at e63 ⊢
      rw [if_pos rfl]
      have fin : ∀ (z : Int), z = (if v < 0 then -v else v) → am_E (d + 9) 227 Q (48, [some (.ref (129)), some (.int (Int32.ofInt l)), some (.int (Int32.ofInt k)), none, none, none, none, none, none, none, none, none], [.long (Int64.ofInt z)], mm_hp w M X n) := fun z hz => by
        rw [b_227_48 hq, e63]
        by_cases ev : v < 0
        · rw [if_pos ev] at hz
          rw [if_neg (by rw [mm_lex8, mm_w8v (by omega) (by omega), mm_w8v (by omega) (by omega)]; omega), mm_w0, mm_gd (by decide), mm_c16v (by decide) (by decide)]
          have h1 : mm_u M 177 0 45 = rs M (sbu (M 177) 0 45) := by rw [← rs_u, rs_id]
          rw [h1]
          refine (c_227_73 (s := 1) hq k1 k2 (by omega) (by omega) (by decide) (by decide)).mpr ?_
          have h2 : txk (M 177) 0 v = tx_n (sbu (M 177) 0 45) 1 z := by rw [hz]; exact if_pos ev
          rw [← h2, txa_k (h := fun _ => 0)]
          exact hQ _
        · rw [if_neg ev] at hz
          rw [if_pos (by rw [mm_lex8, mm_w8v (by omega) (by omega), mm_w8v (by omega) (by omega)]; omega)]
          have h1 := (c_227_73 (d := d + 9) (w := w) (μ := M) (X := X) (n := n) (Q := Q) (F := M 177) (s := 0) (z := z) (l := l) (k := k) hq k1 k2 (by omega) (by omega) (by decide) (by decide)).mpr
          rw [rs_id] at h1
          refine h1 ?_
          have h2 : txk (M 177) 0 v = tx_n (M 177) 0 z := by rw [hz]; exact if_neg ev
          rw [← h2, txa_k (h := fun _ => 0)]
          exact hQ _
      by_cases ev : v < 0
      · rw [if_neg (by rw [mm_lex8, mm_w8v (by omega) (by omega), mm_w8v (by omega) (by omega)]; omega)]
        exact fin _ (by rw [if_pos ev]; omega)
      · rw [if_pos (by rw [mm_lex8, mm_w8v (by omega) (by omega), mm_w8v (by omega) (by omega)]; omega)]
        exact fin _ (by rw [if_neg ev])
    · rw [if_neg (by rw [mm_eqx, mm_wv (by omega) (by omega), mm_wv (by omega) (by omega)]; exact e), show d + 9 = (d + 8) + 1 from rfl, c_203 (f := fun _ => 0) (v := v) hq k1 k2 (by omega), bk_v, b_227_25 hq]
      exact hQ'
  · rw [bk_v, b_227_5 hq, if_pos rfl]
    exact hQ2 a b hx μ' b1
end SH
section L_shown
variable {d : Nat} {w : mm_Z} {μ : mm_M} {X : mm_X} {n : mm_N} {l k : Int}
theorem L_shown (hq : mm_Q w) (hz : w.2.2.1.category = 1) (hf : ∀ b, n.1 ≤ b → w.2.2.2 b = false) (hJ : J μ) (hn : n0 n) (h1 : -2147483648 ≤ l) (h2 : l ≤ 2147483647) (k1 : -2147483648 ≤ k) (k2 : k ≤ 2147483647) : PRI w X n (d + 200) 17 [.ref 32, .int (Int32.ofInt (l)), .int (Int32.ofInt (k)), .ref 178] 227 [.ref 129, .int (Int32.ofInt (l)), .int (Int32.ofInt (k))] μ := by
  intro Q1 hQ
  have hp := mm_QP hq
  have hso : sb_o w n.1 := ⟨by have := hn.1; omega, hf _ (Nat.le_refl _), hf _ (by omega)⟩
  obtain ⟨hc1, hc2⟩ := J_ch hJ
  have hjn := J_jn hJ
  have hl3 := (J_cg1 hJ).1
  -- the reference's answer, asked behind the class's
  have href : ∀ (M : mm_M) (X : mm_X) (n : mm_N) (Q2 : am_Ou → am_G → Prop), (∀ b, 129 ≤ b → b < 178 → M b = μ b) → (¬ (0 ≤ l ∧ l < μ 129 8) ∨ rhere μ < 0 → Q2 (.inl (some (.int (Int32.ofInt (0))))) (mm_hp w (mm_u M 129 0 1) X n)) →
      ((0 ≤ l ∧ l < μ 129 8) → 0 ≤ rhere μ → ∀ x t', ev (rNv (rst μ l)) 20 [] (rhere μ) 0 = some (x, t') → ∀ μ', mm_re μ' = mm_re (rst M l) → ∀ F, Q2 (.inl (some (.int (Int32.ofInt (txa (txk (fun _ => 0) x.1 x.2) k))))) (mm_hp w (rs (mm_u (mm_u μ' 129 0 0) 129 64 t') F) X n)) →
      ((0 ≤ l ∧ l < μ 129 8) → 0 ≤ rhere μ → ev (rNv (rst μ l)) 20 [] (rhere μ) 0 = none → ∀ μ', mm_re μ' = mm_re (rst M l) → Q2 (.inl (some (.int (Int32.ofInt (0))))) (mm_hp w (mm_u μ' 129 0 2) X n)) → am_C (d + 200) 227 [.ref 129, .int (Int32.ofInt (l)), .int (Int32.ofInt (k))] (mm_hp w M X n) Q2 := by
    intro M X n Q2 hM q0 q1 q2
    have eh : rhere M = rhere μ := rhere_c (hM 130 (by decide) (by decide)) (hM 136 (by decide) (by decide))
    have eR : ∀ b, 129 ≤ b → b < 178 → rst M l b = rst μ l b := fun b b0 b1 => by
      by_cases q : b = 129
      · subst q
        unfold rst
        funext j
        rw [mm_ux, mm_ux, mm_ux, mm_ux, mm_ux, mm_ux, mm_ux, mm_ux, mm_ux, mm_ux, mm_ux, mm_ux, mm_ux, mm_ux, hM 129 (by decide) (by decide)]
      · rw [rst_row q, rst_row q, hM b b0 b1]
    have eN : rNv (rst M l) = rNv (rst μ l) := rNv_c (fun b b0 b1 _ _ => eR b (by omega) (by omega)) (by rw [eR 129 (by decide) (by decide)]) (by rw [eR 129 (by decide) (by decide)]) (by rw [eR 129 (by decide) (by decide)])
    have hrt : rt_a M := fun e e0 e1 m m0 m1 => by rw [hM 130 (by decide) (by decide), hM 131 (by decide) (by decide)]; exact J_rt hJ e e0 e1 m m0 m1
    refine c_227 (G := rcell (rst μ l)) (d := d + 190) hp k1 k2 hrt (fun hv => ?_) ⟨h1, h2⟩ (by rw [hM 129 (by decide) (by decide), hjn.1]; exact hl3) (fun e e0 e1 => by rw [hM 136 (by decide) (by decide)]; exact J_rc hJ e e0 e1) (fun h => ?_) ?_ ?_ ?_
    · rw [hM 129 (by decide) (by decide), hjn.1] at hv
      obtain ⟨a1, a2, a3⟩ := J_rA hJ (l := l) (by omega)
      rw [eN]
      refine ⟨?_, ?_, a3⟩
      · obtain ⟨b1, b2, b3, b4, b5, b6, b7, b8⟩ := a1
        refine ⟨fun e e0 e1 => ?_, ?_, ?_, ?_, ?_, ?_, ?_, ?_⟩
        · have := b1 e e0 e1
          unfold rt_ok rt_r at this ⊢
          rw [rp_c (eR 130 (by decide) (by decide)) (eR 131 (by decide) (by decide)), eR 130 (by decide) (by decide), eR 131 (by decide) (by decide), eR 133 (by decide) (by decide), eR 134 (by decide) (by decide)]
          exact this
        · exact rr_r_c (by rw [eR 129 (by decide) (by decide)]) (eR 139 (by decide) (by decide)) (eR 140 (by decide) (by decide)) b2
        · rw [eR 137 (by decide) (by decide)]; exact b3
        · rw [eR 138 (by decide) (by decide)]; exact b4
        · rw [eR 132 (by decide) (by decide)]; exact b5
        · rw [eR 129 (by decide) (by decide)]; exact b6
        · rw [eR 129 (by decide) (by decide)]; exact b7
        · unfold rA_o at b8 ⊢
          rw [eR 129 (by decide) (by decide), eR 141 (by decide) (by decide), eR 142 (by decide) (by decide), eR 143 (by decide) (by decide), eR 144 (by decide) (by decide), eR 146 (by decide) (by decide), eR 147 (by decide) (by decide)]
          exact b8
      · unfold rA_l at a2 ⊢
        rw [eR 129 (by decide) (by decide), eR 141 (by decide) (by decide), eR 142 (by decide) (by decide), eR 143 (by decide) (by decide), eR 144 (by decide) (by decide), eR 147 (by decide) (by decide)]
        exact a2
    · rw [eh] at h ⊢
      exact rcell_rst.mpr (hc2 h).2
    · rw [hM 129 (by decide) (by decide), eh]; exact q0
    · rw [hM 129 (by decide) (by decide), eh, eN]; exact q1
    · rw [hM 129 (by decide) (by decide), eh, eN]; exact q2
  have hiff : ((0 ≤ l ∧ l < μ 95 1) ∧ (μ (mm_tr 0 + 1) (μ 128 0) ≠ -2 ∧ μ (mm_tr 1 + 1) (μ 128 1) ≠ -2 ∧ μ (mm_tr 2 + 1) (μ 128 2) ≠ -2)) ↔ ((0 ≤ l ∧ l < μ 129 8) ∧ 0 ≤ rhere μ) := by rw [hjn.1, hc1]
  rw [en_17 (d := d + 199), b_17_0 hq]
  refine c_43 (d := d + 196) (N := rNv (rst μ l)) (G := rcell (rst μ l)) (c := rhere μ) hp hz hso hn.2 k1 k2 (J_ct hJ) (J_cg1 hJ) (J_cc hJ) (fun hv => (J_rA hJ (l := l) (by omega)).2.2) (n0_6 hn) (by omega) h1 h2 ?_ (fun l0 l1 => J_ce hJ ⟨l0, l1⟩) (fun h => ?_) (fun a => ?_) (fun a x t' hx μ' b1 b2 b3 X1 => ?_) (fun a hx μ' b1 b2 b3 => ?_)
  · show μ 122 8 = rst μ l 129 65
    rw [rst_re 129 65 (by decide), hjn.2.1]
  · obtain ⟨g1, g2⟩ := hc2 (hc1.mp h)
    exact ⟨g1, rcell_rst.mpr g2⟩
  · refine ⟨n0_6 hn, ?_⟩
    rw [bk_h (hp := 13) (by decide +kernel), b_17_13 hq]
    refine hQ 1 _ X _ (nr_t hn) fun Q2 hQ2 => ?_
    have na : ¬ (0 ≤ l ∧ l < μ 129 8) ∨ rhere μ < 0 := by
      by_cases z : 0 ≤ l ∧ l < μ 129 8
      · right
        by_cases y : rhere μ < 0
        · exact y
        · exact absurd (hiff.mpr ⟨z, by omega⟩) a
      · exact Or.inl z
    refine href μ X _ Q2 (fun _ _ _ => rfl) (fun _ => hQ2 0 _ (J_th hJ) mm_us (fun z => absurd z (by decide))) (fun z y => ?_) (fun z y => ?_)
    · rcases na with na | na
      · exact absurd z na
      · omega
    · rcases na with na | na
      · exact absurd z na
      · omega
  · rw [bk_v, b_17_8 hq, mm_w0, mm_gd (by decide)]
    refine hQ 0 _ X1 (n.1 + 2, n.2.1 - 2, n.2.2 - 20) (nr_s hn) fun Q2 hQ2 => ?_
    have a' := hiff.mp a
    have hcs : ∀ b, 129 ≤ b → μ' b = μ b := fun b hb => b1 b (by omega) (by omega) (by omega)
    refine href _ _ _ Q2 (fun b b0 b1 => by rw [mm_uu (by omega), hcs b (by omega)]) (fun na => ?_) (fun _ _ x2 t2 hx2 μ2 hr F => ?_) (fun _ _ hx2 => ?_)
    · rcases na with na | na
      · exact absurd a'.1 na
      · omega
    · rw [hx] at hx2
      cases hx2
      refine hQ2 _ _ (J_rs (J_ev hJ (l := l) (by omega) b1 b3 b2 (fun b hb => mm_uu (by omega)) hr)) ?_ (fun _ => ?_)
      · rw [rs_o (by decide), mm_un (by decide), mm_us]
      · rw [rs_o (by decide), mm_uu (by decide), mm_uu (by decide), re_at hr (by decide), rst_row (by decide), mm_us]
    · rw [hx] at hx2; cases hx2
  · rw [bk_h (hp := 17) (by decide +kernel), b_17_17 hq]
    refine hQ 2 _ X _ (nr_t hn) fun Q2 hQ2 => ?_
    have a' := hiff.mp a
    refine href _ _ _ Q2 (fun b b0 b1' => b1 b (by omega) (by omega) (by omega)) (fun na => ?_) (fun _ _ x2 t2 hx2 => ?_) (fun _ _ hx2 μ2 hr => ?_)
    · rcases na with na | na
      · exact absurd a'.1 na
      · omega
    · rw [hx] at hx2; cases hx2
    · have hj := J_ev hJ (l := l) (t := μ 122 9) (k := 2) (by omega) b1 b3 b2 (fun b hb => rfl) hr
      have e64 : mm_u μ2 129 0 2 129 64 = μ 122 9 := by
        rw [mm_un (by decide), re_at hr (by decide), rst_re 129 64 (by decide), b1 129 (by decide) (by decide) (by decide)]
        exact hjn.2.2.2.1
      rw [← e64, mm_un_id] at hj
      exact hQ2 0 _ hj mm_us (fun z => absurd z (by decide))
end L_shown
