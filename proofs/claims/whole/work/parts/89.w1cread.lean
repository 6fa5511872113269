/-! The class's reader: formulas. -/
section CR
variable {d : Nat} {Q : am_Ou → am_G → Prop} {w : mm_Z} {μ μ' μ0 : mm_M} {X : mm_X} {n : mm_N} {T : Nat → Int} {N p : Nat} {C C' : rd_C} {S S' S0 : rd_S} {a b c o k e z m m' : Int} {E : Option rd_E} {U : rd_E}
theorem rd_ph_px {C C' : rd_C} {u : Nat} (h : ∀ i, i < u → C'.2 i = C.2 i) : rd_ph C' u = rd_ph C u := rd_ph_c _ fun i hi => by rw [h i hi]; exact ⟨rfl, fun _ => rfl⟩
theorem rd_KP_f {D0 : Nat} (hq : mm_P w) (hN : N ≤ 24) (he : 0 ≤ e ∧ e ≤ 3) (h6 : 8 ≤ D0) (hS : rd_KP w X n T N D0 105 e (rd_sum T N E)) (hWS : rd_wf N m (rd_sum T N E))
    (hE : (E = none ∧ e = 3) ∨ ∃ E', E = some E' ∧ e < 3 ∧ rd_KP w X n T N D0 101 (e + 1) E' ∧ rd_wf N m' E' ∧ rd_nE N E') : rd_KP w X n T N (D0 + 1) 101 e (rd_for T N E) := by
  intro D μ Q p C S hD hst hQ
  obtain ⟨D, rfl⟩ : ∃ k, D = k + 4 := ⟨D - 4, by omega⟩
  have h1 := hst.1
  have hpN := hst.2.2.1
  rw [en_101 (d := D + 3), b_101_0 hq, if_neg (by rw [mm_ltx, mm_wv (by omega) (by omega), mm_wv (by omega) (by omega)]; omega)]
  refine hS (D + 3) _ _ p C S (by omega) hst fun μ1 hf1 ho1 => ?_
  have hws := hWS p C S hpN
  unfold rd_for at hQ
  revert hQ ho1 hws
  generalize rd_sum T N E p C S = s
  intro hQ ho1 hws
  have hbd1 := rd_out_bd ho1
  rw [bk_v, b_101_10 hq]
  cases hs : s.1 with
  | false =>
    rw [rd_if0 (fun z => by rw [hs] at z; exact Bool.noConfusion z.1)] at hQ
    have := hQ μ1 hf1 ho1
    rw [hs] at this
    rw [if_pos (by rfl)]
    exact this
  | true =>
    have hst1 := ho1.1 hs
    have hsN := hst1.2.2.1
    have hb1 := rd_ch_b (p := s.2.1) h1
    have hws := hws hs
    rw [if_neg (by decide), c_99 (d := D + 1) hq hst1.1 hst1.2.1 (by omega), bk_v, b_101_19 hq]
    by_cases a : rd_ch T N s.2.1 = 63
    · rw [rd_if1 ⟨hs, a⟩] at hQ
      rw [if_pos (by rw [a])]
      have hsp : s.2.1 < N := by
        by_cases g : s.2.1 < N
        · exact g
        · rw [rd_ch0 (by omega)] at a; exact absurd a (by decide)
      rcases hE with ⟨rfl, he3⟩ | ⟨E', rfl, he3, hK, hW, hG⟩
      · rw [if_pos (by rw [he3])]
        exact hQ μ1 hf1 (rd_out_f (r := (false, s.2)) hbd1)
      · rw [if_neg (by rw [mm_eqx, mm_wv (by omega) (by omega), mm_wv (by omega) (by omega)]; omega), hst1.2.1]
        have hs1 := rd_st_1 hst1 hsp
        have hf2 : rd_fr μ (mm_u μ1 127 2 ((s.2.1 : Int) + 1)) := rd_fr_u hf1 (by decide)
        have h0 := rd_lay_0 hst1.2.2.2.1
        have h41 := hs1.2.2.2.1.1
        have h5 := hst1.2.2.2.2
        rw [c_108 (d := D + 2) hq (by rw [h41]; omega), if_pos (by rw [h41]; omega), bk_v, b_101_53 hq, h41]
        have hfa : rd_fr μ (rd_app (mm_u μ1 127 2 ((s.2.1 : Int) + 1)) 8 0) := rd_app_f hf2
        have hsa : rd_st T N (rd_app (mm_u μ1 127 2 ((s.2.1 : Int) + 1)) 8 0) (s.2.1 + 1) (rd_emit s.2.2.1 6 0 0) s.2.2.2 := by
          refine ⟨rd_tx_f h1 hfa, by rw [rd_app_p]; exact hs1.2.1, hsp, rd_lay_e hs1.2.2.2.1 (by decide) (fun _ => by show 0 ≤ _; omega) (fun z => absurd z (by decide)) (fun _ z => absurd z (by decide)) (fun _ => ⟨rfl, rfl⟩) (fun z => absurd z (by decide)), ?_⟩
          show rd_ph (rd_emit s.2.2.1 6 0 0) (s.2.2.1.1 + 1) ≤ _
          rw [rd_ph_e, if_neg (by decide)]
          omega
        refine hK (D + 3) _ _ (s.2.1 + 1) _ _ (by omega) hsa fun μ2 hf2' hy => ?_
        have hft : rd_fr μ μ2 := rd_fr_t hfa hf2'
        have hwy := hW (s.2.1 + 1) (rd_emit s.2.2.1 6 0 0) s.2.2.2 hsp
        have hQ : ∀ μ', rd_fr μ μ' → rd_out T N μ' (rd_if ((E' (s.2.1 + 1) (rd_emit s.2.2.1 6 0 0) s.2.2.2).1 = true ∧ rd_ch T N (E' (s.2.1 + 1) (rd_emit s.2.2.1 6 0 0) s.2.2.2).2.1 = 58) (rd_els E' s.2.2.1.1 (E' (s.2.1 + 1) (rd_emit s.2.2.1 6 0 0) s.2.2.2)) (false, (E' (s.2.1 + 1) (rd_emit s.2.2.1 6 0 0) s.2.2.2).2)) → Q (.inl (some (.int (Int32.ofInt (if (rd_if ((E' (s.2.1 + 1) (rd_emit s.2.2.1 6 0 0) s.2.2.2).1 = true ∧ rd_ch T N (E' (s.2.1 + 1) (rd_emit s.2.2.1 6 0 0) s.2.2.2).2.1 = 58) (rd_els E' s.2.2.1.1 (E' (s.2.1 + 1) (rd_emit s.2.2.1 6 0 0) s.2.2.2)) (false, (E' (s.2.1 + 1) (rd_emit s.2.2.1 6 0 0) s.2.2.2).2) : rd_P).1 = true then 1 else 0))))) (mm_hp w (μ') X n) := hQ
        revert hy hwy hQ
        generalize E' (s.2.1 + 1) (rd_emit s.2.2.1 6 0 0) s.2.2.2 = y
        intro hy hwy hQ
        have hbdy := rd_out_bd hy
        rw [bk_v, b_101_61 hq]
        cases hyb : y.1 with
        | false =>
          rw [rd_if0 (fun z => by rw [hyb] at z; exact Bool.noConfusion z.1)] at hQ
          rw [if_pos (by rfl)]
          exact hQ μ2 hft (rd_out_f (r := (false, y.2)) hbdy)
        | true =>
          have hsy := hy.1 hyb
          have hwy := hwy hyb
          have hyN := hsy.2.2.1
          have hb2 := rd_ch_b (p := y.2.1) h1
          rw [if_neg (by decide), c_99 (d := D + 1) hq hsy.1 hsy.2.1 (by omega), bk_v, b_101_68 hq]
          by_cases b : rd_ch T N y.2.1 = 58
          · rw [rd_if1 ⟨hyb, b⟩] at hQ
            have hyp : y.2.1 < N := by
              by_cases g : y.2.1 < N
              · exact g
              · rw [rd_ch0 (by omega)] at b; exact absurd b (by decide)
            have hsy1 := rd_st_1 hsy hyp
            have hfy : rd_fr μ (mm_u μ2 127 2 ((y.2.1 : Int) + 1)) := rd_fr_u hft (by decide)
            have h42 := hsy1.2.2.2.1.1
            have h0y := rd_lay_0 hsy.2.2.2.1
            have h5y := hsy.2.2.2.2
            have hu1 : s.2.2.1.1 + 1 < y.2.2.1.1 := hwy.2.1
            have hpx : ∀ i, i < s.2.2.1.1 → y.2.2.1.2 i = s.2.2.1.2 i := fun i hi => by rw [hwy.2.2.1 i (show i < s.2.2.1.1 + 1 by omega)]; exact rd_emit_lt hi
            have hpu : y.2.2.1.2 s.2.2.1.1 = (6, 0, 0) := by rw [hwy.2.2.1 _ (Nat.lt_succ_self _)]; exact rd_emit_at
            have ephu : rd_ph y.2.2.1 s.2.2.1.1 = rd_ph s.2.2.1 s.2.2.1.1 := rd_ph_px hpx
            rw [if_pos (by rw [b]), hsy.2.1, c_108 (d := D + 2) hq (by rw [h42]; omega), if_pos (by rw [h42]; omega), bk_v, b_101_95 hq, mm_wv (z := rd_ph s.2.2.1 s.2.2.1.1) (by omega) (by omega), mm_gd (by omega), h42]
            have hlA : rd_lay (rd_app (mm_u μ2 127 2 ((y.2.1 : Int) + 1)) 9 0) (rd_emit y.2.2.1 7 0 0) y.2.2.2 := rd_lay_e hsy1.2.2.2.1 (by decide) (fun _ => by show 0 ≤ _; omega) (fun z => absurd z (by decide)) (fun _ z => absurd z (by decide)) (fun z => absurd z (by decide)) (fun _ => ⟨rfl, rfl⟩)
            have hfA : rd_fr μ (rd_app (mm_u μ2 127 2 ((y.2.1 : Int) + 1)) 9 0) := rd_app_f hfy
            have epA : rd_ph (rd_emit y.2.2.1 7 0 0) s.2.2.1.1 = rd_ph s.2.2.1 s.2.2.1.1 := by
              rw [← ephu]; exact rd_ph_px fun i hi => rd_emit_lt (show i < y.2.2.1.1 by omega)
            have hlB := rd_lay_p (i := s.2.2.1.1) (v := y.2.2.1.1 + 1) hlA (show s.2.2.1.1 < y.2.2.1.1 + 1 by omega) (Or.inl (by rw [rd_emit_lt (show s.2.2.1.1 < y.2.2.1.1 by omega), hpu])) (Nat.le_refl _)
            have e4A := hlA.1
            rw [show (rd_emit y.2.2.1 7 0 0).1 = y.2.2.1.1 + 1 from rfl] at e4A
            rw [epA, ← e4A, show ((y.2.2.1.1 + 1 : Nat) : Int) = (y.2.2.1.1 : Int) + 1 from rfl] at hlB
            generalize hM : mm_u (rd_app (mm_u μ2 127 2 ((y.2.1 : Int) + 1)) 9 0) 106 (rd_ph s.2.2.1 s.2.2.1.1) (rd_app (mm_u μ2 127 2 ((y.2.1 : Int) + 1)) 9 0 102 4) = M at hlB ⊢
            have hfM : rd_fr μ M := by rw [← hM]; exact rd_fr_u hfA (by decide)
            have hsM : rd_st T N M (y.2.1 + 1) (rd_pa (rd_emit y.2.2.1 7 0 0) s.2.2.1.1 ((y.2.2.1.1 : Int) + 1)) y.2.2.2 := by
              refine ⟨rd_tx_f h1 hfM, by rw [← hM, mm_uu (by decide), rd_app_p]; exact hsy1.2.1, hyp, hlB, ?_⟩
              have hz := hlB.1
              have e9 : M 102 4 = rd_ph y.2.2.1 y.2.2.1.1 + 1 := by rw [← hM, mm_uu (by decide), rd_app_4, h42]
              rw [← hz, e9]
              omega
            refine hK (D + 3) _ _ (y.2.1 + 1) _ _ (by omega) hsM fun μ3 hf3 hz => ?_
            have hft3 : rd_fr μ μ3 := rd_fr_t hfM hf3
            have hwz := hW (y.2.1 + 1) (rd_pa (rd_emit y.2.2.1 7 0 0) s.2.2.1.1 ((y.2.2.1.1 : Int) + 1)) y.2.2.2 hyp
            unfold rd_els at hQ
            revert hz hwz hQ
            generalize E' (y.2.1 + 1) (rd_pa (rd_emit y.2.2.1 7 0 0) s.2.2.1.1 ((y.2.2.1.1 : Int) + 1)) y.2.2.2 = zz
            intro hQ hz hwz
            have hbdz := rd_out_bd hz
            rw [bk_v, b_101_119 hq]
            cases hzb : zz.1 with
            | false =>
              rw [if_pos (by rfl)]
              have := hQ μ3 hft3 ⟨fun z => by rw [show (zz.1, _).1 = zz.1 from rfl, hzb] at z; exact Bool.noConfusion z, fun _ => hbdz⟩
              rw [if_neg (show ¬ (zz.1, _).1 = true from fun z => by rw [show (zz.1, _).1 = zz.1 from rfl, hzb] at z; exact Bool.noConfusion z)] at this
              exact this
            | true =>
              have hsz := hz.1 hzb
              have hwz := hwz hzb
              have h4z := hsz.2.2.2.1.1
              have ht1 : y.2.2.1.1 + 1 < zz.2.2.1.1 := hwz.2.1
              have hzpx : ∀ i, i < y.2.2.1.1 → i ≠ s.2.2.1.1 → zz.2.2.1.2 i = y.2.2.1.2 i := fun i hi hne => by
                rw [hwz.2.2.1 i (show i < y.2.2.1.1 + 1 by omega), rd_pa_lt (by omega)]; exact rd_emit_lt hi
              have hzt : zz.2.2.1.2 y.2.2.1.1 = (7, 0, 0) := by
                rw [hwz.2.2.1 _ (Nat.lt_succ_self _), rd_pa_lt (by omega)]; exact rd_emit_at
              have hzu : (zz.2.2.1.2 s.2.2.1.1).1 = 6 := by
                rw [hwz.2.2.1 _ (show s.2.2.1.1 < y.2.2.1.1 + 1 by omega), rd_pa_at, rd_emit_lt (show s.2.2.1.1 < y.2.2.1.1 by omega), hpu]
              have ephz : rd_ph zz.2.2.1 y.2.2.1.1 = rd_ph y.2.2.1 y.2.2.1.1 := rd_ph_c _ fun i hi => by
                by_cases hne : i = s.2.2.1.1
                · subst hne; rw [hzu, hpu]; exact ⟨rfl, fun q => absurd q (by decide)⟩
                · rw [hzpx i hi hne]; exact ⟨rfl, fun _ => rfl⟩
              have hlC := rd_lay_p (i := y.2.2.1.1) (v := zz.2.2.1.1) hsz.2.2.2.1 (by omega) (Or.inr (by rw [hzt])) (Nat.le_refl _)
              rw [ephz, ← h4z] at hlC
              have hlD := rd_lay_q (i := (s.2.2.1.1 : Int)) (v := (zz.2.2.1.1 : Int)) hlC (fun j hj => by
                obtain rfl : j = s.2.2.1.1 := by omega
                rw [rd_pa_lt (by omega), hzu]; decide)
              have hzN := hsz.2.2.1
              have h5z := hsz.2.2.2.2
              rw [if_neg (by decide), mm_wv (z := rd_ph y.2.2.1 y.2.2.1.1) (by omega) (by omega), mm_gd (by omega)]
              have hfL : rd_fr μ (mm_u μ3 106 (rd_ph y.2.2.1 y.2.2.1.1) (μ3 102 4)) := rd_fr_u hft3 (by decide)
              have := hQ _ hfL ⟨fun _ => ⟨rd_tx_f h1 hfL, by rw [mm_uu (by decide)]; exact hsz.2.1, hzN, hlD, ?_⟩, fun z => by rw [show (zz.1, _).1 = zz.1 from rfl, hzb] at z; exact Bool.noConfusion z⟩
              · rw [if_pos (show (zz.1, _).1 = true from hzb)] at this
                exact this
              · have hz9 := hlD.1
                show rd_ph (rd_pb (rd_pa zz.2.2.1 (y.2.2.1.1 : Int) (zz.2.2.1.1 : Int)) (s.2.2.1.1 : Int) (zz.2.2.1.1 : Int)) zz.2.2.1.1 ≤ _
                rw [show (rd_pb (rd_pa zz.2.2.1 (y.2.2.1.1 : Int) (zz.2.2.1.1 : Int)) (s.2.2.1.1 : Int) (zz.2.2.1.1 : Int)).1 = zz.2.2.1.1 from rfl] at hz9
                rw [← hz9, mm_uu (by decide), h4z]
                exact h5z
          · rw [rd_if0 (fun z => b z.2)] at hQ
            rw [if_neg (by rw [mm_eqx, mm_wv (by omega) (by omega), mm_wv (by omega) (by omega)]; exact b)]
            exact hQ μ2 hft (rd_out_f (r := (false, y.2)) hbdy)
    · rw [rd_if0 (fun z => a z.2)] at hQ
      have := hQ μ1 hf1 ho1
      rw [hs] at this
      rw [if_neg (by rw [mm_eqx, mm_wv (by omega) (by omega), mm_wv (by omega) (by omega)]; exact a)]
      exact this
theorem rd_KP_F (hq : mm_P w) (hN : N ≤ 24) : ∀ k : Nat, k ≤ 3 → rd_KP w X n T N (9 + 5 * k) 101 (3 - k) (rd_F T N k) := by
  intro k
  induction k with
  | zero =>
    intro _
    have hu := rd_KP_u (X := X) (n := n) (T := T) (E := none) (e := 3) (D0 := 4) hq hN (Or.inl ⟨rfl, rfl⟩) (by decide)
    have wu := rd_wf_u (T := T) (N := N) (m := 1) (E := none) (fun _ h => by cases h) (fun _ h => by cases h) hN (by decide)
    have hp := rd_KP_p hq hN (by decide) (by decide) hu wu
    have wp := rd_wf_p (T := T) (N := N) (m := 1) (E := none) (fun _ h => by cases h) (fun _ h => by cases h) hN (by decide)
    have hs := rd_KP_s hq hN (by decide) (by decide) hp wp
    have ws := rd_wf_s (T := T) (N := N) (m := 1) (E := none) (fun _ h => by cases h) (fun _ h => by cases h) hN (by decide)
    exact rd_KP_f (m' := 1) hq hN (by decide) (by decide) hs ws (Or.inl ⟨rfl, rfl⟩)
  | succ k ih =>
    intro hk
    have ihK := ih (by omega)
    have ihW := rd_wf_F (T := T) hN k
    have e1 : (3 : Int) - ((k + 1 : Nat) : Int) + 1 = 3 - (k : Int) := by omega
    have hK : rd_KP w X n T N (9 + 5 * k) 101 ((3 : Int) - ((k + 1 : Nat) : Int) + 1) (rd_F T N k) := by rw [e1]; exact ihK
    have hu := rd_KP_u (X := X) (n := n) (T := T) (E := some (rd_F T N k)) (e := (3 : Int) - ((k + 1 : Nat) : Int)) (D0 := 9 + 5 * k) hq hN (Or.inr ⟨_, rfl, by omega, hK⟩) (by omega)
    have wE : ∀ E', some (rd_F T N k) = some E' → rd_wf N (2 * k + 3) E' := fun _ h => by cases h; exact ihW.1
    have wG : ∀ E', some (rd_F T N k) = some E' → rd_nE N E' := fun _ h => by cases h; exact ihW.2
    have wu := rd_wf_u (T := T) (N := N) (m := 2 * k + 3) (E := some (rd_F T N k)) (fun E' h => by rw [show (2 * (k : Int) + 3) - 0 = 2 * k + 3 by omega]; exact wE E' h) wG hN (by omega)
    have hp := rd_KP_p hq hN (by omega) (by omega) hu wu
    have wp := rd_wf_p (T := T) (N := N) (m := 2 * k + 3) wE wG hN (by omega)
    have hs := rd_KP_s hq hN (by omega) (by omega) hp wp
    have ws := rd_wf_s (T := T) (N := N) (m := 2 * k + 3) wE wG hN (by omega)
    have hK' : rd_KP w X n T N (9 + 5 * k + 2 + 1 + 1) 101 ((3 : Int) - ((k + 1 : Nat) : Int) + 1) (rd_F T N k) := fun D μ Q p C S hD => hK D μ Q p C S (by omega)
    have := rd_KP_f (m' := 2 * k + 3) hq hN (by omega) (by omega) hs ws (Or.inr ⟨_, rfl, by omega, hK', ihW.1, ihW.2⟩)
    rw [show 9 + 5 * (k + 1) = 9 + 5 * k + 2 + 1 + 1 + 1 by omega]
    exact this
/-- the empty code -/
def rd_C0 : rd_C := (0, fun _ => (0, 0, 0))
def rd_S0 : rd_S := (0, fun _ => (0, 0))
/-- what the class's reader answers -/
noncomputable def rd_ans (T : Nat → Int) (N : Nat) (C : rd_C) (S : rd_S) : Int := if (rd_F T N 3 0 C S).1 = true ∧ N ≤ (rd_F T N 3 0 C S).2.1 then -1 else ((rd_F T N 3 0 C S).2.1 : Int)
theorem c_95 (hq : mm_P w) (h : rd_tx T N μ) (hQ : ∀ μ', rd_fr μ μ' → rd_out T N μ' (rd_F T N 3 0 rd_C0 rd_S0) → Q (.inl (some (.int (Int32.ofInt (rd_ans T N rd_C0 rd_S0))))) (mm_hp w (μ') X n)) : am_C (d + 25) 95 [.ref 127] (mm_hp w μ X n) Q := by
  have h11 := h.1
  have hf : rd_fr μ (mm_u (mm_u μ 127 2 0) 102 4 0) := rd_fr_u (rd_fr_u rd_fr_r (by decide)) (by decide)
  have hs : rd_st T N (mm_u (mm_u μ 127 2 0) 102 4 0) 0 rd_C0 rd_S0 := ⟨rd_tx_f h hf, by rw [mm_uu (by decide), mm_us]; rfl, Nat.zero_le _, ⟨mm_us, fun i hi => absurd hi (Nat.not_lt_zero i)⟩, Int.le_refl _⟩
  rw [en_95 (d := d + 24), b_95_0 hq]
  refine rd_KP_F hq h11 3 (Nat.le_refl _) (d + 24) _ _ 0 rd_C0 rd_S0 (by omega) hs fun μ' hf' ho => ?_
  have hft := rd_fr_t hf hf'
  have hQ := hQ μ' hft ho
  unfold rd_ans at hQ
  revert ho hQ
  generalize rd_F T N 3 0 rd_C0 rd_S0 = r
  intro ho hQ
  have hbd := rd_out_bd ho
  have hpN := hbd.2.2.1
  rw [bk_v, b_95_18 hq]
  cases hr : r.1 with
  | false =>
    rw [hr, if_neg (fun z => Bool.noConfusion z.1)] at hQ
    rw [if_pos (by rfl), b_95_39 hq, hbd.2.1]
    exact hQ
  | true =>
    rw [if_neg (by decide), hbd.2.1, hbd.1.2.1]
    by_cases g : r.2.1 < N
    · rw [hr, if_neg (fun z => absurd z.2 (by omega))] at hQ
      rw [if_pos (by rw [mm_ltx, mm_wv (by omega) (by omega), mm_wv (by omega) (by omega)]; omega), b_95_39 hq, hbd.2.1]
      exact hQ
    · rw [hr, if_pos ⟨rfl, by omega⟩] at hQ
      rw [if_neg (by rw [mm_ltx, mm_wv (by omega) (by omega), mm_wv (by omega) (by omega)]; omega)]
      exact hQ
end CR
