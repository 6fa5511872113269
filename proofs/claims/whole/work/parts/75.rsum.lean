/-! The reference sums children; it takes the next order of a formula. -/
section RS
variable {d : Nat} {Q : am_Ou → am_G → Prop} {w : mm_Z} {μ μ' : mm_M} {X : mm_X} {n : mm_N} {c e m f r : Int}
theorem ch_len {p : Int → Int} : (fo_ch p m).length ≤ 6 := List.length_filter_le _ fo_rg
theorem ch_g {p : Int → Int} {k : Nat} : ((fo_ch p m).getD k (-1) < 0 ↔ (fo_ch p m).length ≤ k) ∧ -1 ≤ (fo_ch p m).getD k (-1) ∧ (fo_ch p m).getD k (-1) < 6 := by
  by_cases h : k < (fo_ch p m).length
  · have := fo_getD_in (P := fun x => 0 ≤ x ∧ x < 6) (fun x hx => (fo_mem_ch.mp hx).1) h
    omega
  · rw [List.getD_eq_getElem?_getD, List.getElem?_eq_none (by omega)]
    refine ⟨⟨fun _ => by omega, fun _ => ?_⟩, Int.le_refl _, ?_⟩
    · show (-1 : Int) < 0; decide
    · show (-1 : Int) < 6; decide
theorem c_233_58 (hq : mm_P w) {x1 x2 x3 x4 : Int} (he : 0 ≤ x2 ∧ x2 < 3) (hm : 0 ≤ x3 ∧ x3 < 6) (hr : rt_r μ x2) : ∀ (j : Nat) (x5 : Int), 0 ≤ x5 → x5 + j = 7 → (am_E (d + 1) 233 Q (58, [some (.ref 129), some (.int (Int32.ofInt (x1))), some (.int (Int32.ofInt (x2))), some (.int (Int32.ofInt (x3))), some (.int (Int32.ofInt (x4))), some (.int (Int32.ofInt (x5))), none, none, none, none], [], mm_hp w μ X n) ↔ am_E (d + 1) 233 Q (77, [some (.ref 129), some (.int (Int32.ofInt (x1))), some (.int (Int32.ofInt (x2))), some (.int (Int32.ofInt (x3))), some (.int (Int32.ofInt (x4))), some (.int (Int32.ofInt (if x5 + 1 < (fo_ch (rp μ x2) x3).length then ((fo_ch (rp μ x2) x3).length : Int) - 1 else x5))), none, none, none, none], [], mm_hp w μ X n)) := by
  have hlen := ch_len (p := rp μ x2) (m := x3)
  intro j
  induction j with
  | zero =>
    intro x5 h0 h1
    have hg := ch_g (p := rp μ x2) (m := x3) (k := (x5 + 1).toNat)
    rw [b_233_58 hq, c_164 (d := d) hq he (by omega) (by omega) (by omega) (by omega) hr, bk_v, b_233_68 hq, if_pos (by rw [mm_ltx, mm_wv (by omega) (by omega), mm_wv (by decide) (by decide)]; omega), if_neg (by omega)]
  | succ j ih =>
    intro x5 h0 h1
    have hg := ch_g (p := rp μ x2) (m := x3) (k := (x5 + 1).toNat)
    rw [b_233_58 hq, c_164 (d := d) hq he (by omega) (by omega) (by omega) (by omega) hr, bk_v, b_233_68 hq]
    by_cases g : (fo_ch (rp μ x2) x3).length ≤ (x5 + 1).toNat
    · rw [if_pos (by rw [mm_ltx, mm_wv (by omega) (by omega), mm_wv (by decide) (by decide)]; omega), if_neg (by omega)]
    · rw [if_neg (by rw [mm_ltx, mm_wv (by omega) (by omega), mm_wv (by decide) (by decide)]; omega), ih (x5 + 1) (by omega) (by omega), if_pos (show x5 + 1 < _ by omega)]
      by_cases g2 : x5 + 1 + 1 < (fo_ch (rp μ x2) x3).length
      · rw [if_pos g2]
      · rw [if_neg g2, show x5 + 1 = ((fo_ch (rp μ x2) x3).length : Int) - 1 by omega]
theorem rfv_169 {z : Int} (hv : rfv μ) (hz : 0 ≤ z ∧ z ≤ 7) : rfv (mm_u μ 169 f z) := by
  refine ⟨by rw [mm_uu (by decide)]; exact hv.1, fun i i0 i1 => ?_, fun j j0 j1 => by rw [mm_uu (by decide)]; exact hv.2.2 j j0 j1⟩
  rw [mm_uu (by decide)] at i1
  have := hv.2.1 i i0 i1
  simp only [mm_uu (show (164 : Nat) ≠ 169 by decide), mm_uu (show (165 : Nat) ≠ 169 by decide), mm_uu (show (167 : Nat) ≠ 169 by decide), mm_uu (show (168 : Nat) ≠ 169 by decide), mm_uu (show (171 : Nat) ≠ 169 by decide), mm_uu (show (172 : Nat) ≠ 169 by decide), mm_ux]
  refine ⟨this.1, this.2.1, this.2.2.1, this.2.2.2.1, this.2.2.2.2.1, ?_, this.2.2.2.2.2.2⟩
  split
  · exact hz
  · exact this.2.2.2.2.2.1
theorem rfv_pop {k : Int} (hv : rfv μ) (h : 0 ≤ k ∧ k ≤ μ 129 47) : rfv (mm_u μ 129 47 k) := by
  have := rfv_le (k := k.toNat) hv (by omega)
  rw [show ((k.toNat : Nat) : Int) = k by omega] at this
  exact this
theorem c_233 (hq : mm_P w) (hA : rA μ) (hv : rfv μ) (hf : 0 ≤ f ∧ f < μ 129 47) (h167 : 0 ≤ μ 167 f) (h49 : 0 ≤ μ 129 49 ∧ μ 129 49 ≤ 3000) (h59 : 0 ≤ μ 129 59 ∧ μ 129 59 < 640) (h170 : -1000000000000 ≤ μ 170 f ∧ μ 170 f ≤ 1000000000000) (h172 : rroll μ f = 2 → (rkids μ f).getD (rnxt μ f).toNat (-1) < 0 → μ 172 f ≠ 0) (h165 : μ 165 f < 0 → f + 1 = μ 129 47) (h169 : μ 169 f ≤ 6) : am_C (d + 6) 233 [.ref 129, .int (Int32.ofInt (f))] (mm_hp w μ X n) Q ↔ Q (.inl none) (mm_hp w (rsum μ f) X n) := by
  have hn := hv.1
  have hfv := hv.2.1 f hf.1 hf.2
  have hr := (hA.1 (μ 167 f) h167 (by omega)).2.1
  have hp := rpart_b (e := μ 167 f) hfv.2.2.2.2.1.1 hfv.2.2.2.2.1.2
  have h132 := hA.2.2.2.2.1 (6 * μ 167 f + rpart (μ 168 f) (μ 167 f)) (by omega) (by omega)
  have hlen := ch_len (p := rp μ (μ 167 f)) (m := rpart (μ 168 f) (μ 167 f))
  rw [en_233 (d := d + 5), b_233_0 hq]
  simp (disch := omega) only [and_self, true_and, mm_ltx, mm_lex, mm_eqx, mm_wv, mm_gd, ↓reduceIte, Int.reduceAdd, Int.reduceSub, Int.reduceNeg, Int.reduceLE, Int.reduceLT, Int.reduceMul, Int.reduceEq]
  rw [d_213 (d := d + 4) hq hfv.2.2.2.2.1.1 hfv.2.2.2.2.1.2 (by omega), bk_v, b_233_17 hq]
  simp (disch := omega) only [and_self, true_and, mm_ltx, mm_lex, mm_eqx, mm_wv, mm_gd, ↓reduceIte, Int.reduceAdd, Int.reduceSub, Int.reduceNeg, Int.reduceLE, Int.reduceLT, Int.reduceMul, Int.reduceEq]
  have hroll : 0 ≤ rroll μ f ∧ rroll μ f ≤ 4 := by
    unfold rroll
    split
    · exact h132
    · decide
  have hnx : 0 ≤ rnxt μ f ∧ rnxt μ f ≤ 6 := by
    have : (rkids μ f).length ≤ 6 := hlen
    unfold rnxt
    split <;> omega
  have s77 : am_E (d + 5) 233 Q (77, [some (.ref 129), some (.int (Int32.ofInt (f))), some (.int (Int32.ofInt (μ 167 f))), some (.int (Int32.ofInt (rpart (μ 168 f) (μ 167 f)))), some (.int (Int32.ofInt (rroll μ f))), some (.int (Int32.ofInt (rnxt μ f))), none, none, none, none], [], mm_hp w μ X n) ↔ Q (.inl none) (mm_hp w (rsum μ f) X n) := by
    have hg := ch_g (p := rp μ (μ 167 f)) (m := rpart (μ 168 f) (μ 167 f)) (k := (rnxt μ f).toNat)
    have hkid : fo_ch (rp μ (μ 167 f)) (rpart (μ 168 f) (μ 167 f)) = rkids μ f := rfl
    rw [b_233_77 hq, c_164 (d := d + 4) hq (by omega) (by omega) (by omega) (by omega) (by omega) hr, bk_v, b_233_85 hq]
    rw [hkid] at hg ⊢
    unfold rsum
    generalize hk : (rkids μ f).getD (rnxt μ f).toNat (-1) = k at *
    simp (disch := omega) only [and_self, true_and, mm_ltx, mm_lex, mm_eqx, mm_wv, mm_gd, ↓reduceIte, Int.reduceAdd, Int.reduceSub, Int.reduceNeg, Int.reduceLE, Int.reduceLT, Int.reduceMul, Int.reduceEq, mm_uu (show (170 : Nat) ≠ 169 by decide), mm_uu (show (172 : Nat) ≠ 169 by decide), mm_uu (show (168 : Nat) ≠ 169 by decide)]
    have hA1 : rA (mm_u μ 169 f (rnxt μ f + 1)) := rA_c (re_u (by omega)) hA
    have hv1 : rfv (mm_u μ 169 f (rnxt μ f + 1)) := rfv_169 hv (by omega)
    by_cases g : k < 0
    · rw [if_pos g, if_pos g]
      have hs175 : ∀ (v kd : Int), v = (if rroll μ f = 2 then sp_rnd (μ 170 f) (μ 172 f) else μ 170 f) → kd = (if μ 171 f ≤ 0 then 0 else sp_ow (μ 171 f)) → (-9000000000000000000 ≤ v ∧ v ≤ 9000000000000000000) → (am_E (d + 5) 233 Q (175, [some (.ref 129), some (.int (Int32.ofInt (f))), some (.int (Int32.ofInt (μ 167 f))), some (.int (Int32.ofInt (rpart (μ 168 f) (μ 167 f)))), some (.int (Int32.ofInt (rroll μ f))), some (.int (Int32.ofInt (rnxt μ f))), some (.int (Int32.ofInt (k))), some (.long (Int64.ofInt (v))), none, none], [.int (Int32.ofInt (kd))], mm_hp w (mm_u μ 169 f (rnxt μ f + 1)) X n) ↔ Q (.inl none) (mm_hp w (if μ 165 f < 0 then rdel (rres (mm_u (mm_u μ 169 f (rnxt μ f + 1)) 129 47 (μ 129 47 - 1)) (if μ 171 f ≤ 0 then (sp_fit (if rroll μ f = 2 then sp_rnd (μ 170 f) (μ 172 f) else μ 170 f)).1 else sp_ow (μ 171 f)) (if μ 171 f ≤ 0 then (sp_fit (if rroll μ f = 2 then sp_rnd (μ 170 f) (μ 172 f) else μ 170 f)).2 else 0))
    else rpsh (rres (mm_u (mm_u μ 169 f (rnxt μ f + 1)) 167 f (-1)) (if μ 171 f ≤ 0 then (sp_fit (μ 170 f)).1 else sp_ow (μ 171 f)) (if μ 171 f ≤ 0 then (sp_fit (μ 170 f)).2 else 0)) (if μ 171 f ≤ 0 then (sp_fit (μ 170 f)).1 else sp_ow (μ 171 f)) (if μ 171 f ≤ 0 then (sp_fit (μ 170 f)).2 else 0)) X n)) := by
        intro v kd hv' hkd hvb
        have how : 2 ≤ sp_ow (μ 171 f) ∧ sp_ow (μ 171 f) ≤ 4 := by
          unfold sp_ow
          split
          · decide
          · split <;> decide
        have hkb : 0 ≤ kd ∧ kd ≤ 4 := by rw [hkd]; split <;> omega
        have hk1 : (if kd = 0 then (sp_fit v).1 else kd) = (if μ 171 f ≤ 0 then (sp_fit v).1 else sp_ow (μ 171 f)) := by
          rw [hkd]
          by_cases q : μ 171 f ≤ 0
          · rw [if_pos q, if_pos rfl, if_pos q]
          · rw [if_neg q, if_neg (by omega), if_neg q]
        have hk2 : (if kd = 0 then (sp_fit v).2 else 0) = (if μ 171 f ≤ 0 then (sp_fit v).2 else 0) := by
          rw [hkd]
          by_cases q : μ 171 f ≤ 0
          · rw [if_pos q, if_pos rfl, if_pos q]
          · rw [if_neg q, if_neg (by omega), if_neg q]
        have hkb1 : 0 ≤ (if μ 171 f ≤ 0 then (sp_fit v).1 else sp_ow (μ 171 f)) ∧ (if μ 171 f ≤ 0 then (sp_fit v).1 else sp_ow (μ 171 f)) ≤ 4 := by
          have := sp_fit_b (a := v)
          split <;> omega
        rw [b_233_175 hq]
        simp (disch := omega) only [and_self, true_and, mm_ltx, mm_lex, mm_eqx, mm_wv, mm_gd, ↓reduceIte, Int.reduceAdd, Int.reduceSub, Int.reduceNeg, Int.reduceLE, Int.reduceLT, Int.reduceMul, Int.reduceEq, mm_uu (show (165 : Nat) ≠ 169 by decide), mm_uu (show (129 : Nat) ≠ 169 by decide)]
        by_cases g2 : μ 165 f < 0
        · rw [if_pos g2, if_pos g2, c_223 (d := d + 3) hq hkb hvb.1 hvb.2, bk_n, b_233_234 hq, hk1, hk2, c_167 (d := d + 3) hq (by rw [rres_62]; exact hkb1) (by rw [rres_f (by decide) (by decide), mm_un (by decide), mm_uu (by decide)]; exact h59) (rfv_res (rfv_pop hv1 (by rw [mm_uu (by decide)]; omega))), bk_n, b_233_238 hq, hv']
        · have hr2 : rroll μ f ≠ 2 := by unfold rroll; rw [if_neg g2]; decide
          rw [if_neg hr2] at hv'
          rw [if_neg g2, if_neg g2]
          rw [c_223 (d := d + 3) hq hkb hvb.1 hvb.2, bk_n, b_233_201 hq, hk1, hk2, rres_62, rres_63, c_217 (d := d + 4) hq hkb1 (by rw [rres_f (by decide) (by decide), mm_uu (by decide), mm_uu (by decide)]; exact h59), bk_n, b_233_213 hq, b_233_238 hq, hv']
      have hs151 : ∀ v : Int, v = (if rroll μ f = 2 then sp_rnd (μ 170 f) (μ 172 f) else μ 170 f) → (-9000000000000000000 ≤ v ∧ v ≤ 9000000000000000000) → (am_E (d + 5) 233 Q (151, [some (.ref 129), some (.int (Int32.ofInt (f))), some (.int (Int32.ofInt (μ 167 f))), some (.int (Int32.ofInt (rpart (μ 168 f) (μ 167 f)))), some (.int (Int32.ofInt (rroll μ f))), some (.int (Int32.ofInt (rnxt μ f))), some (.int (Int32.ofInt (k))), none, none, none], [.long (Int64.ofInt (v))], mm_hp w (mm_u μ 169 f (rnxt μ f + 1)) X n) ↔ Q (.inl none) (mm_hp w (if μ 165 f < 0 then rdel (rres (mm_u (mm_u μ 169 f (rnxt μ f + 1)) 129 47 (μ 129 47 - 1)) (if μ 171 f ≤ 0 then (sp_fit (if rroll μ f = 2 then sp_rnd (μ 170 f) (μ 172 f) else μ 170 f)).1 else sp_ow (μ 171 f)) (if μ 171 f ≤ 0 then (sp_fit (if rroll μ f = 2 then sp_rnd (μ 170 f) (μ 172 f) else μ 170 f)).2 else 0))
    else rpsh (rres (mm_u (mm_u μ 169 f (rnxt μ f + 1)) 167 f (-1)) (if μ 171 f ≤ 0 then (sp_fit (μ 170 f)).1 else sp_ow (μ 171 f)) (if μ 171 f ≤ 0 then (sp_fit (μ 170 f)).2 else 0)) (if μ 171 f ≤ 0 then (sp_fit (μ 170 f)).1 else sp_ow (μ 171 f)) (if μ 171 f ≤ 0 then (sp_fit (μ 170 f)).2 else 0)) X n)) := by
        intro v hv' hvb
        rw [b_233_151 hq]
        simp (disch := omega) only [and_self, true_and, mm_ltx, mm_lex, mm_eqx, mm_wv, mm_gd, ↓reduceIte, Int.reduceAdd, Int.reduceSub, Int.reduceNeg, Int.reduceLE, Int.reduceLT, Int.reduceMul, Int.reduceEq, mm_uu (show (171 : Nat) ≠ 169 by decide)]
        by_cases g2 : μ 171 f ≤ 0
        · rw [if_pos g2]
          exact hs175 v 0 hv' (by rw [if_pos g2]) hvb
        · rw [if_neg g2, c_210 (d := d + 4) hq (by omega), bk_v, b_233_171 hq]
          exact hs175 v _ hv' (by rw [if_neg g2]) hvb
      by_cases g3 : rroll μ f = 2
      · have hd := h172 g3 g
        have hrn := sp_rnd_b (a := μ 170 f) (b := μ 172 f) (v := 1000000000000) (by omega) (by omega) hd
        rw [if_pos g3, c_224 (d := d + 4) hq (by omega) (by omega) (by omega) (by omega) hd, bk_v, b_233_142 hq]
        exact hs151 _ (by rw [if_pos g3]) (by omega)
      · rw [if_neg g3]
        exact hs151 _ (by rw [if_neg g3]) (by omega)
    · rw [if_neg g, if_neg g, c_207 (d := d + 3) hq hfv.2.2.2.2.1.1 hfv.2.2.2.2.1.2 (by omega) (by omega), bk_v, b_233_116 hq]
      have hmv := rmv_b hfv.2.2.2.2.1.1 hfv.2.2.2.2.1.2 (show 0 ≤ μ 167 f ∧ μ 167 f < 3 by omega) (show 0 ≤ k ∧ k < 6 by omega)
      rw [c_208 (d := d) hq hA1 hv1 hmv (by rw [mm_uu (by decide)]; exact h49) (by rw [mm_uu (by decide)]; exact h59), bk_n, b_233_119 hq]
  have s42 : am_E (d + 5) 233 Q (42, [some (.ref 129), some (.int (Int32.ofInt (f))), some (.int (Int32.ofInt (μ 167 f))), some (.int (Int32.ofInt (rpart (μ 168 f) (μ 167 f)))), none, none, none, none, none, none], [.int (Int32.ofInt (rroll μ f))], mm_hp w μ X n) ↔ Q (.inl none) (mm_hp w (rsum μ f) X n) := by
    rw [b_233_42 hq]
    simp (disch := omega) only [and_self, true_and, mm_ltx, mm_lex, mm_eqx, mm_wv, mm_gd, ↓reduceIte, Int.reduceAdd, Int.reduceSub, Int.reduceNeg, Int.reduceLE, Int.reduceLT, Int.reduceMul, Int.reduceEq]
    by_cases g : rroll μ f = 4
    · have hkid : fo_ch (rp μ (μ 167 f)) (rpart (μ 168 f) (μ 167 f)) = rkids μ f := rfl
      rw [if_pos g, c_233_58 (d := d + 4) hq (by omega) hp hr (7 - μ 169 f).toNat (μ 169 f) (by omega) (by omega)]
      rw [hkid]
      have hnx : rnxt μ f = if μ 169 f + 1 < (rkids μ f).length then ((rkids μ f).length : Int) - 1 else μ 169 f := by
        unfold rnxt
        by_cases q : μ 169 f + 1 < (rkids μ f).length
        · rw [if_pos ⟨g, q⟩, if_pos q]
        · rw [if_neg (fun z => q z.2), if_neg q]
      rw [← hnx]
      exact s77
    · have hnx : rnxt μ f = μ 169 f := by unfold rnxt; rw [if_neg (fun z => g z.1)]
      rw [if_neg g, ← hnx]
      exact s77
  by_cases g : μ 165 f < 0
  · have : rroll μ f = μ 132 (6 * μ 167 f + rpart (μ 168 f) (μ 167 f)) := by unfold rroll; rw [if_pos g]
    rw [if_pos g, ← this]
    exact s42
  · have : rroll μ f = 1 := by unfold rroll; rw [if_neg g]
    rw [if_neg g, ← this]
    exact s42
end RS
