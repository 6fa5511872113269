/-! The reference's evaluation is the pure one. -/
section S6
variable {μ0 μ μ1 μ' : mm_M} {n m t : Int} {c e r : Int} {G : Int → Prop} {Lp : mm_M → Prop} {a : Nat} {k z v f : Int}
theorem rilay_b (hA : rA μ) : -1 ≤ rilay μ c ∧ rilay μ c < 3 := by
  have hlb : ∀ k : Nat, k ≤ 3 → -1 ≤ rlay μ c k ∧ rlay μ c k < 3 := by
    intro k
    induction k with
    | zero => intro _; exact ⟨Int.le_refl (-1), show (-1 : Int) < 3 by decide⟩
    | succ k ih =>
      intro hk
      unfold rlay
      have := ih (by omega)
      split <;> omega
  unfold rilay
  have := hA.2.2.2.2.2.1
  split
  · exact hlb _ (by omega)
  · decide
theorem rsim_circ (hS : rS μ0 μ n m t) {P : List Int} (hP : rPa μ n P) (h : c ∈ P) : rned μ c = rdel (rres μ 2 0) := by
  have hn := hS.2.2.2.2.2.1.1
  unfold rned
  rw [if_pos]
  rw [rwk_iff]
  obtain ⟨i, i0, i1, i2⟩ := (hP c).mp h
  exact ⟨i, i0, by have := hS.2.1; omega, i2⟩
theorem rsim_nocirc (hS : rS μ0 μ n m t) {P : List Int} (hP : rPa μ n P) (h : c ∉ P) : ¬ rwk μ c (μ 129 47).toNat = true := by
  rw [rwk_iff]
  rintro ⟨i, i0, i1, i2⟩
  exact h ((hP c).mpr ⟨i, i0, by have := hS.2.1; omega, i2⟩)
theorem rK_res (h : rK n m μ μ') : rK n m μ (rres μ' k v) := by
  unfold rres
  exact rK_u (rK_u h (by omega) (by omega)) (by omega) (by omega)
theorem rsim_spent (hS : rS μ0 μ n m t) (K : ∀ μ', mm_re μ' = mm_re μ0 → rsp μ' → Lp μ') : Lp (mm_u (mm_u μ 129 49 (μ 129 49 + 1)) 129 48 1) := by
  refine K _ ?_ ?_
  · rw [re_u (by decide), re_u (by decide)]; exact hS.1
  · exact ⟨by rw [mm_us], by rw [mm_un (by decide), mm_un (by decide)]; exact hS.2.2.2.2.2.1.1⟩
theorem rW_0 (hL : rL μ0 Lp) : rW μ0 Lp G 0 := by
  intro n m t P c μ hn hS hm hP hc
  unfold ev
  by_cases h : c ∈ P
  · rw [if_pos h, rsim_circ hS hP h]
    refine ⟨fun x t' q K => ?_, fun q => (by cases q)⟩
    cases q
    exact K _ (rS_res hS) (rK_res rK_r) rres_62 rres_63
  · rw [if_neg h]
    refine ⟨fun x t' q => (by cases q), fun _ K => ?_⟩
    unfold rned
    rw [if_neg (rsim_nocirc hS hP h), if_pos (Or.inr (by have := hS.2.1; omega))]
    exact rsim_spent hS K
theorem rW_S (hA : rA μ0) (hl : rA_l μ0) (hL : rL μ0 Lp) (hN : ev_en (rNv μ0) G) {f : Nat} (hW : rW μ0 Lp G f) : rW μ0 Lp G (f + 1) := by
  intro n m t P c μ hn hS hm hP hc
  unfold ev
  by_cases h : c ∈ P
  · rw [if_pos h, rsim_circ hS hP h]
    refine ⟨fun x t' q K => ?_, fun q => (by cases q)⟩
    cases q
    exact K _ (rS_res hS) (rK_res rK_r) rres_62 rres_63
  · obtain ⟨g1, g2, g3, g4, g5, g6, g7, g8, g9⟩ := id hS
    have hcb := hN.1 c hc
    have hfu : nv_fu (rNv μ0) = μ0 129 65 := rfl
    have hfur := hA.2.2.2.2.2.2.1
    have h65 : μ 129 65 = μ0 129 65 := re_at g1 (by decide)
    have hn0 := g6.1
    rw [if_neg h]
    by_cases hf : nv_fu (rNv μ0) ≤ t
    · rw [if_pos hf]
      refine ⟨fun x t' q => (by cases q), fun _ K => ?_⟩
      unfold rned
      rw [if_neg (rsim_nocirc hS hP h), if_pos (Or.inl (by omega))]
      exact rsim_spent hS K
    · rw [if_neg hf]
      have hlay := rilay_b (c := c) hA
      have hwb := rwin_b (μ := μ0) (c := c) (μ0 129 11).toNat
      have h11 := hA.2.1.1
      have hib := hN.2.2.2.2.2.1 c hc
      have hwin : nv_win (rNv μ0) c = rwin μ0 c (μ0 129 11).toNat := rfl
      have hinn : nv_inn (rNv μ0) c = rinner μ0 c := rfl
      have hroll : ∀ e, nv_roll (rNv μ0) e (rpart c e) = μ0 132 (6 * e + rpart c e) := fun _ => rfl
      have hin : nv_in (rNv μ0) c = if 0 ≤ rilay μ0 c then μ0 138 (216 * rilay μ0 c + c) else -2147483648 := rfl
      have hned : rned μ c = if 0 ≤ rilay μ0 c then rdel (rres (mm_u μ 129 49 (t + 1)) 0 (μ0 138 (216 * rilay μ0 c + c)))
          else if 0 ≤ rwin μ0 c (μ0 129 11).toNat then rfrm (mm_u μ 129 49 (t + 1)) c (rwin μ0 c (μ0 129 11).toNat) (-1)
          else if rinner μ0 c < 0 ∨ μ0 132 (6 * rinner μ0 c + rpart c (rinner μ0 c)) = 0 then rdel (rres (mm_u μ 129 49 (t + 1)) 1 0)
          else rfrm (mm_u μ 129 49 (t + 1)) c (-1) (rinner μ0 c) := by
        unfold rned
        rw [if_neg (rsim_nocirc hS hP h), if_neg (by omega), g4, re_il2 g1, re_in2 g1, re_win2 g1, re_row g1 (a := 138) (by decide), re_row g1 (a := 132) (by decide), re_at g1 (a := 129) (k := 11) (by decide)]
      rw [hned]
      have hS1 : rS μ0 (mm_u μ 129 49 (t + 1)) n m (t + 1) := by
        refine ⟨by rw [re_u (by decide)]; exact g1, by rw [mm_un (by decide)]; exact g2, by rw [mm_un (by decide)]; exact g3, by rw [mm_us], by rw [mm_un (by decide)]; exact g5, rfv_f (by decide) g6, fun j j0 j1 => ?_, g8, by omega⟩
        rw [mm_uu (by decide), mm_uu (by decide)]
        exact g7 j j0 j1
      have hK1 : rK n m μ (mm_u μ 129 49 (t + 1)) := rK_u rK_r (by omega) (by omega)
      generalize mm_u μ 129 49 (t + 1) = μ1 at *
      have hP1 := rPa_K hP hK1
      -- a frame's path
      have hPf : ∀ μ2, rK n m μ1 μ2 → μ2 164 n = c → rPa μ2 (n + 1) (c :: P) := by
        intro μ2 hk h4 c'
        rw [List.mem_cons, hP1 c']
        constructor
        · rintro (q | ⟨i, i0, i1, i2⟩)
          · exact ⟨n, by omega, by omega, by rw [h4, q]⟩
          · exact ⟨i, i0, by omega, by rw [(hk.1 i i1).1]; exact i2⟩
        · rintro ⟨i, i0, i1, i2⟩
          by_cases q : i = n
          · left; rw [← i2, q, h4]
          · right; exact ⟨i, i0, by omega, by rw [← (hk.1 i (by omega)).1]; exact i2⟩
      by_cases hi : 0 ≤ rilay μ0 c
      · have h138 := hA.2.2.2.1 (216 * rilay μ0 c + c) (by omega) (by omega)
        rw [if_pos hi] at hin
        rw [if_pos (by rw [hin]; omega), if_pos hi]
        refine ⟨fun x t' q K => ?_, fun q => (by cases q)⟩
        cases q
        refine K _ (rS_res hS1) (rK_res hK1) rres_62 ?_
        rw [rres_63, hin]
        rfl
      · rw [if_neg hi] at hin
        rw [if_neg (fun q => q hin), if_neg hi, hwin]
        by_cases hw : 0 ≤ rwin μ0 c (μ0 129 11).toNat
        · obtain ⟨hh, hco⟩ := hN.2.2.2.2.1 c hc (by rw [hwin]; exact hw)
          rw [hwin] at hco
          rw [if_pos hw, if_pos hw]
          obtain ⟨s1, s2, s3, s4⟩ := rS_frm hS1 (c := c) (r := rwin μ0 c (μ0 129 11).toNat) (e := -1) (by omega) hcb (by omega) (by decide) (by omega)
          have := rsim_run hA hl hL hN hW (P := c :: P) (n := n) (m := m) (by omega) (by omega) (by omega) g8.1 hc (by omega) hco 65 0 [] (t + 1) _ c (by omega) (by omega) hco.2.1 (fun x hx => by cases hx) (by rw [List.length_nil, show m + ((0 : Nat) : Int) = m by omega]; exact s1) s2 trivial (hPf _ s4 s2.1)
          exact ⟨fun x t' q K => this.1 x t' q fun μ' b1 b2 b3 b4 => K μ' b1 (rK_t hK1 (rK_t s4 b2)) b3 b4, this.2⟩
        · rw [if_neg hw, if_neg hw, hinn]
          by_cases hi0 : rinner μ0 c < 0
          · rw [if_pos hi0, if_pos (Or.inl hi0)]
            refine ⟨fun x t' q K => ?_, fun q => (by cases q)⟩
            cases q
            exact K _ (rS_res hS1) (rK_res hK1) rres_62 rres_63
          · rw [if_neg hi0]
            rw [hinn] at hib
            have hrp := rpart_b (e := rinner μ0 c) hcb.1 hcb.2
            have h132 := hA.2.2.2.2.1 (6 * rinner μ0 c + rpart c (rinner μ0 c)) (by omega) (by omega)
            have hrl := hroll (rinner μ0 c)
            have hne := hN.2.2.2.2.2.2.2.2.1 c hc (by rw [hinn]; omega)
            rw [hinn] at hne
            generalize he : rinner μ0 c = e at *
            by_cases hr0 : μ0 132 (6 * e + rpart c e) = 0
            · rw [if_pos (Or.inr hr0), if_neg (by omega), if_neg (by omega), if_neg (by omega), if_neg (by omega)]
              refine ⟨fun x t' q K => ?_, fun q => (by cases q)⟩
              cases q
              exact K _ (rS_res hS1) (rK_res hK1) rres_62 rres_63
            · rw [if_neg (show ¬ (e < 0 ∨ μ0 132 (6 * e + rpart c e) = 0) from fun q => by rcases q with q | q; exact hi0 q; exact hr0 q)]
              obtain ⟨s1, s2, s3, s4⟩ := rS_frm hS1 (c := c) (r := -1) (e := e) (by omega) hcb (by decide) (by omega) (by omega)
              have hPF := hPf _ s4 s2.1
              generalize rfrm μ1 c (-1) e = μf at *
              have hlen := hN.2.2.2.2.2.2.2.1 c e hc (by omega) (by omega)
              have hkG := hN.2.2.2.2.2.2.1 c e
              have hrf := roll_N s1.1 s2
              rw [if_pos (by decide)] at hrf
              have hkf := kids_N s1.1 s2
              obtain ⟨z1, z2, z3, z4, z5, z6, z7, z8, z9⟩ := id s1
              have hKf : rK n m μ μf := rK_t hK1 s4
              have hpos : 0 < (nv_kid (rNv μ0) e (rpart c e)).length := List.length_pos_iff.mpr hne
              by_cases h12 : nv_roll (rNv μ0) e (rpart c e) = 1 ∨ nv_roll (rNv μ0) e (rpart c e) = 2
              · have hsum := rsim_sum hA hL hN hW (P := c :: P) (n := n) (m := m) (cT := c) (ρ := -1) (a := 0) (e := e) (c0 := c) (by omega) (by omega) (by omega) hc (fun _ => ⟨rfl, h12⟩) _ 0 (0, 0) (t + 1) μf (List.drop_zero ..) s1 s2 s3 (by decide) (by decide) hPF (by omega) (Nat.zero_le _)
                have hend : ∀ (s' : ev_K) (t1 : Int) (μ3 : mm_M) (y : ev_K), ev_sum (ev (rNv μ0) f (c :: P)) c e (nv_kid (rNv μ0) e (rpart c e)) (0, 0) (t + 1) = some (s', t1) → y = (if nv_roll (rNv μ0) e (rpart c e) = 2 then ev_mean s' (nv_kid (rNv μ0) e (rpart c e)).length else ev_tot s') → rS μ0 μ3 (n + 1) m t1 → rK n m μf μ3 → rF μ3 n c (-1) 0 e c → rZ μ3 n (nv_kid (rNv μ0) e (rpart c e)).length s' → (∀ μ', rS μ0 μ' n m t1 → rK n m μ μ' → μ' 129 62 = y.1 → μ' 129 63 = sp_pl y.1 y.2 → Lp (rdel μ')) → Lp μ3 := by
                  intro s' t1 μ3 y hE hy hS3 hK3 hF3 hZ3 K
                  have hso := ev_sumo (ev_o hN f (c :: P)) _ _ _ (fun m' hm' => (hkG m' hc (by omega) (by omega) hm').2) (by decide) _ _ hE
                  obtain ⟨μ4, y1, y2, y3, y4, y5⟩ := rsum_end1 (by omega) hS3 hF3 hZ3 hso.1 (by decide) h12 hy
                  obtain ⟨w1, w2, w3, w4, w5, w6, w7, w8, w9⟩ := id hS3
                  refine hL.2 μ3 n w1 w6 (by omega) w2.symm w5 (by rw [hF3.2.2.2.1]; omega) (by omega) (by omega) ?_ (fun _ _ => by rw [hZ3.2.2.2]; omega) (by rw [hZ3.1]; omega) (by rw [y1]; exact K μ4 y2 (rK_t hKf (rK_t hK3 y3)) y4 y5)
                  rw [hZ3.2.1]
                  have := hso.2.1
                  dsimp only at this
                  omega
                cases hE : ev_sum (ev (rNv μ0) f (c :: P)) c e (nv_kid (rNv μ0) e (rpart c e)) (0, 0) (t + 1) with
                | none =>
                  rcases h12 with h1 | h2
                  · rw [if_pos h1]
                    unfold ev_tots
                    dsimp only
                    exact ⟨fun x t' q => (by cases q), fun _ K => hsum.2 hE K⟩
                  · rw [if_neg (by omega), if_pos h2]
                    unfold ev_means
                    dsimp only
                    exact ⟨fun x t' q => (by cases q), fun _ K => hsum.2 hE K⟩
                | some zz =>
                  obtain ⟨s', t1⟩ := zz
                  rcases h12 with h1 | h2
                  · rw [if_pos h1]
                    unfold ev_tots
                    dsimp only
                    refine ⟨fun x t' q K => ?_, fun q => (by cases q)⟩
                    cases q
                    exact hsum.1 s' t1 hE fun μ3 hS3 hK3 hF3 hZ3 => hend s' t1 μ3 _ hE (by rw [if_neg (by omega)]) hS3 hK3 hF3 hZ3 K
                  · rw [if_neg (by omega), if_pos h2]
                    unfold ev_means
                    dsimp only
                    refine ⟨fun x t' q K => ?_, fun q => (by cases q)⟩
                    cases q
                    exact hsum.1 s' t1 hE fun μ3 hS3 hK3 hF3 hZ3 => hend s' t1 μ3 _ hE (by rw [if_pos h2]) hS3 hK3 hF3 hZ3 K
              · -- the first or the last child alone
                have hpass : ∀ (kk j : Int), rnxt μf n = j → 0 ≤ j → j ≤ 5 → (nv_kid (rNv μ0) e (rpart c e)).getD j.toNat (-1) = kk → kk ∈ nv_kid (rNv μ0) e (rpart c e) →
                    (∀ x t', ev (rNv μ0) f (c :: P) (ev_mv c e kk) (t + 1) = some (x, t') → (∀ μ', rS μ0 μ' n m t' → rK n m μ μ' → μ' 129 62 = x.1 → μ' 129 63 = sp_pl x.1 x.2 → Lp (rdel μ')) → Lp μf) ∧ (ev (rNv μ0) f (c :: P) (ev_mv c e kk) (t + 1) = none → (∀ μ', mm_re μ' = mm_re μ0 → rsp μ' → Lp μ') → Lp μf) := by
                  intro kk j hj j0 j5 hkk hmem
                  have hG := hkG kk hc (by omega) (by omega) hmem
                  have hsum : rsum μf n = rned (mm_u μf 169 n (j + 1)) (ev_mv c e kk) := by
                    unfold rsum
                    rw [hkf, hj, hkk, if_neg (by omega), s2.2.2.2.1, s2.2.2.2.2]
                    rfl
                  have hgo : Lp (rned (mm_u μf 169 n (j + 1)) (ev_mv c e kk)) → Lp μf := by
                    intro q
                    refine hL.2 μf n z1 z6 (by omega) z2.symm z5 (by rw [s2.2.2.2.1]; omega) (by omega) (by omega) (by rw [s3.2.1]; decide) ?_ (by rw [s3.1]; decide) (by rw [hsum]; exact q)
                    intro _ q2
                    rw [hkf, hj, hkk] at q2
                    omega
                  have hSg : rS μ0 (mm_u μf 169 n (j + 1)) (n + 1) m (t + 1) := rS_o s1 (by decide) (rfv_169 z6 (by omega)) (by omega)
                  have hPg : rPa (mm_u μf 169 n (j + 1)) (n + 1) (c :: P) := by
                    intro c'
                    rw [hPF c', mm_uu (show (164 : Nat) ≠ 169 by decide)]
                  have hKg : rK n m μ (mm_u μf 169 n (j + 1)) := rK_u hKf (fun _ _ => Int.le_refl _) (by omega)
                  have hW1 := hW (n + 1) m (t + 1) (c :: P) (ev_mv c e kk) _ (by omega) hSg (by omega) hPg hG.2
                  refine ⟨fun x t' q K => hgo (hW1.1 x t' q fun μ' hS' hK' h62 h63 => ?_), fun q K => hgo (hW1.2 q K)⟩
                  obtain ⟨b1, b2, b3, b4, b5, b6, b7, b8, b9⟩ := hK'.1 n (by omega)
                  rw [mm_uu (show (164 : Nat) ≠ 169 by decide), s2.1] at b1
                  rw [mm_uu (show (165 : Nat) ≠ 169 by decide), s2.2.1] at b2
                  rw [mm_uu (show (167 : Nat) ≠ 169 by decide), s2.2.2.2.1] at b4
                  obtain ⟨w1, w2, w3, w4, w5, w6, w7, w8, w9⟩ := id hS'
                  have hnn : n + 1 - 1 = n := by omega
                  rw [rdel_p (by omega) (by rw [w2, hnn, b2, b4, b1, re_row w1 (a := 132) (by decide)]; omega), w2, hnn]
                  refine K _ ⟨by rw [re_u (by decide)]; exact w1, by rw [mm_us], by rw [mm_un (by decide)]; exact w3, by rw [mm_un (by decide)]; exact w4, by rw [mm_un (by decide)]; exact w5, rfv_pop w6 (by omega), fun j j0 j1 => ?_, w8, w9⟩ (rK_u (rK_t hKg (rK_le hK' (by omega) (Int.le_refl _))) (by omega) (by omega)) (by rw [mm_un (by decide)]; exact h62) (by rw [mm_un (by decide)]; exact h63)
                  rw [mm_uu (by decide), mm_uu (by decide)]
                  exact w7 j j0 j1
                rw [if_neg (fun q => h12 (Or.inl q)), if_neg (fun q => h12 (Or.inr q))]
                by_cases h3 : nv_roll (rNv μ0) e (rpart c e) = 3
                · rw [if_pos h3]
                  refine hpass _ 0 ?_ (by decide) (by decide) rfl ?_
                  · unfold rnxt
                    rw [if_neg (fun q => by omega), s3.1]
                  · generalize nv_kid (rNv μ0) e (rpart c e) = l at *
                    cases l with
                    | nil => exact absurd rfl hne
                    | cons a l => exact List.mem_cons_self
                · have h4 : nv_roll (rNv μ0) e (rpart c e) = 4 := by omega
                  rw [if_neg h3, if_pos h4]
                  refine hpass _ ((nv_kid (rNv μ0) e (rpart c e)).length - 1 : Int) ?_ (by omega) (by omega) ?_ ?_
                  · unfold rnxt
                    rw [hkf, s3.1, hrf]
                    by_cases q : (0 : Int) + 1 < (nv_kid (rNv μ0) e (rpart c e)).length
                    · rw [if_pos ⟨h4, q⟩]
                    · rw [if_neg (fun z => q z.2)]
                      omega
                  · generalize nv_kid (rNv μ0) e (rpart c e) = l at *
                    rw [show ((l.length : Int) - 1).toNat = l.length - 1 by omega, List.getD_eq_getElem?_getD, ← List.getLast?_eq_getElem?, List.getLastD_eq_getLast?]
                  · generalize nv_kid (rNv μ0) e (rpart c e) = l at *
                    cases l with
                    | nil => exact absurd rfl hne
                    | cons a l => rw [List.getLastD_cons]; exact List.getLastD_mem_cons
theorem rW_all (hA : rA μ0) (hl : rA_l μ0) (hL : rL μ0 Lp) (hN : ev_en (rNv μ0) G) : ∀ f : Nat, rW μ0 Lp G f := by
  intro f
  induction f with
  | zero => exact rW_0 hL
  | succ f ih => exact rW_S hA hl hL hN ih
end S6
