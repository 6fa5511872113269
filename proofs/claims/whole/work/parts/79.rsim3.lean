/-! The reference's operands; sums that end. -/
def rO (μ : mm_M) (m : Int) : List ev_K → Prop
  | [] => True
  | x :: st => μ 173 (m + st.length) = x.1 ∧ μ 174 (m + st.length) = sp_pl x.1 x.2 ∧ rO μ m st
section S3
variable {μ0 μ μ1 μ' : mm_M} {n m t : Int} {c e r : Int} {G : Int → Prop} {Lp : mm_M → Prop} {a : Nat} {k z v : Int}
theorem rO_c : ∀ (st : List ev_K), rO μ m st → (∀ j, m ≤ j → j < m + st.length → μ' 173 j = μ 173 j ∧ μ' 174 j = μ 174 j) → rO μ' m st := by
  intro st
  induction st with
  | nil => intro _ _; trivial
  | cons x st ih =>
    intro h hk
    rw [List.length_cons] at hk
    have := hk (m + st.length) (by omega) (by omega)
    exact ⟨by rw [this.1]; exact h.1, by rw [this.2]; exact h.2.1, ih h.2.2 fun j j0 j1 => hk j j0 (by omega)⟩
theorem sp_pl_pl : sp_pl k (sp_pl k v) = sp_pl k v := by
  unfold sp_pl
  split <;> rfl
theorem rpsh_o {b : Nat} (h : b ≠ 173 ∧ b ≠ 174 ∧ b ≠ 129) : rpsh μ k v b = μ b := by
  unfold rpsh
  rw [mm_uu h.2.2, mm_uu h.2.1, mm_uu h.1]
theorem rpsh_f {j : Int} (h : j ≠ 59) : rpsh μ k v 129 j = μ 129 j := by
  unfold rpsh
  rw [mm_un h, mm_uu (by decide), mm_uu (by decide)]
theorem rpsh_59 : rpsh μ k v 129 59 = μ 129 59 + 1 := by
  unfold rpsh
  rw [mm_us]
theorem rpsh_173 {j : Int} : rpsh μ k v 173 j = if j = μ 129 59 then k else μ 173 j := by
  unfold rpsh
  rw [mm_uu (by decide), mm_uu (by decide), mm_ux]
  by_cases h : j = μ 129 59
  · rw [if_pos ⟨rfl, h⟩, if_pos h]
  · rw [if_neg (fun q => h q.2), if_neg h]
theorem rpsh_174 {j : Int} : rpsh μ k v 174 j = if j = μ 129 59 then sp_pl k v else μ 174 j := by
  unfold rpsh
  rw [mm_uu (by decide), mm_ux]
  by_cases h : j = μ 129 59
  · rw [if_pos ⟨rfl, h⟩, if_pos h]
    rfl
  · rw [if_neg (fun q => h q.2), if_neg h, mm_uu (by decide)]
theorem rfv_psh (hv : rfv μ) : rfv (rpsh μ k v) := by
  unfold rpsh
  exact rfv_f (by decide) (rfv_o (by decide) (rfv_o (by decide) hv))
theorem rS_psh (hS : rS μ0 μ n m t) (hk : 0 ≤ k ∧ k ≤ 4) (hv : k = 0 → -2000000000 ≤ v ∧ v ≤ 2000000000) (hm : m + 1 ≤ 600) : rS μ0 (rpsh μ k v) n (m + 1) t := by
  obtain ⟨g1, g2, g3, g4, g5, g6, g7, g8, g9⟩ := hS
  refine ⟨?_, by rw [rpsh_f (by decide)]; exact g2, by rw [rpsh_59, g3], by rw [rpsh_f (by decide)]; exact g4, by rw [rpsh_f (by decide)]; exact g5, rfv_psh g6, fun j j0 j1 => ?_, by omega, g9⟩
  · unfold rpsh
    rw [re_u (by decide), re_u (by omega), re_u (by omega)]
    exact g1
  · rw [rpsh_173, rpsh_174, g3]
    by_cases q : j = m
    · rw [if_pos q, if_pos q]
      refine ⟨hk, sp_pl_b hv, fun q => ?_⟩
      unfold sp_pl
      rw [if_neg q]
    · rw [if_neg q, if_neg q]
      exact g7 j j0 (by omega)
theorem rK_psh (h : rK n m μ μ') (hm : m ≤ μ' 129 59) : rK n m μ (rpsh μ' k v) := by
  unfold rpsh
  exact rK_u (rK_u (rK_u h (by omega) (fun _ _ => hm)) (by omega) (fun _ _ => hm)) (by omega) (by omega)
theorem rO_psh {st : List ev_K} (h : rO μ m st) (h59 : μ 129 59 = m + st.length) : rO (rpsh μ k v) m ((k, v) :: st) := by
  refine ⟨by rw [rpsh_173, if_pos h59.symm], by rw [rpsh_174, if_pos h59.symm], rO_c st h fun j _ j1 => ?_⟩
  rw [rpsh_173, rpsh_174, if_neg (by omega), if_neg (by omega)]
  exact ⟨rfl, rfl⟩
theorem tot_eq {s : Int} (hs : 0 ≤ s ∧ s ≤ 4) : (if sp_wt s ≤ 0 then (sp_fit v).1 else sp_ow (sp_wt s)) = (if s ≤ 1 then sp_fit v else (s, 0)).1 ∧ (if sp_wt s ≤ 0 then (sp_fit v).2 else 0) = (if s ≤ 1 then sp_fit v else (s, 0)).2 := by
  rcases (by omega : s = 0 ∨ s = 1 ∨ s = 2 ∨ s = 3 ∨ s = 4) with rfl | rfl | rfl | rfl | rfl <;> exact ⟨rfl, rfl⟩
theorem rF_o {cT ρ x c0 : Int} (h : rF μ n cT ρ x e c0) (h1 : μ' 164 n = μ 164 n) (h2 : μ' 165 n = μ 165 n) (h3 : μ' 166 n = μ 166 n) (h4 : μ' 167 n = μ 167 n) (h5 : μ' 168 n = μ 168 n) : rF μ' n cT ρ x e c0 := by
  unfold rF
  rw [h1, h2, h3, h4, h5]
  exact h
theorem fit_pl : (sp_fit v).2 = sp_pl (sp_fit v).1 (sp_fit v).2 := by
  unfold sp_fit
  split <;> rfl
theorem tot_pl {s : Int} : (if s ≤ 1 then sp_fit v else (s, 0)).2 = sp_pl (if s ≤ 1 then sp_fit v else (s, 0)).1 (if s ≤ 1 then sp_fit v else (s, 0)).2 := by
  split
  · exact fit_pl
  · show (0 : Int) = if s = 0 then 0 else 0
    split <;> rfl
/-- a roll-up ends -/
theorem rsum_end1 (n0 : 0 ≤ n) (hS : rS μ0 μ (n + 1) m t) {cT ρ x c0 : Int} (hF : rF μ n cT ρ x e c0) {s : ev_K} (hZ : rZ μ n (nv_kid (rNv μ0) e (rpart c0 e)).length s) (hs : 0 ≤ s.1 ∧ s.1 ≤ 4) (hρ : ρ < 0) (hr : nv_roll (rNv μ0) e (rpart c0 e) = 1 ∨ nv_roll (rNv μ0) e (rpart c0 e) = 2) {y : ev_K} (hy : y = if nv_roll (rNv μ0) e (rpart c0 e) = 2 then ev_mean s (nv_kid (rNv μ0) e (rpart c0 e)).length else ev_tot s) : ∃ μ2, rsum μ n = rdel μ2 ∧ rS μ0 μ2 n m t ∧ rK n m μ μ2 ∧ μ2 129 62 = y.1 ∧ μ2 129 63 = sp_pl y.1 y.2 := by
  have hro := roll_N hS.1 hF
  rw [if_pos hρ] at hro
  have hki := kids_N hS.1 hF
  obtain ⟨z1, z2, z3, z4⟩ := hZ
  have hnx : rnxt μ n = μ 169 n := by
    unfold rnxt
    rw [if_neg (fun q => by omega)]
  have hg : (nv_kid (rNv μ0) e (rpart c0 e)).getD (nv_kid (rNv μ0) e (rpart c0 e)).length (-1) = -1 := by
    rw [List.getD_eq_getElem?_getD, List.getElem?_eq_none (Nat.le_refl _)]
    rfl
  have hy1 : y = if s.1 ≤ 1 then sp_fit (if rroll μ n = 2 then sp_rnd (μ 170 n) (μ 172 n) else μ 170 n) else (s.1, 0) := by
    rw [hy, hro, z2, z4]
    unfold ev_mean ev_tot
    split
    · rfl
    · rfl
  have hv2 : rfv (mm_u μ 169 n (rnxt μ n + 1)) := rfv_169 hS.2.2.2.2.2.1 (by
    have := (ch_len (p := rp μ0 e) (m := rpart c0 e))
    have h2 : (nv_kid (rNv μ0) e (rpart c0 e)).length ≤ 6 := this
    rw [hnx, z1]; omega)
  have hn := hS.2.2.2.2.2.1.1
  have h47 := hS.2.1
  have ht := tot_eq (s := s.1) (v := if rroll μ n = 2 then sp_rnd (μ 170 n) (μ 172 n) else μ 170 n) hs
  refine ⟨rres (mm_u (mm_u μ 169 n (rnxt μ n + 1)) 129 47 (μ 129 47 - 1)) y.1 y.2, ?_, ?_, ?_, rres_62, ?_⟩
  · unfold rsum
    rw [hki, hnx, z1, Int.toNat_natCast, hg, if_pos (by decide), hF.2.1, if_pos hρ, z3, ht.1, ht.2, ← hy1]
  · obtain ⟨g1, g2, g3, g4, g5, g6, g7, g8⟩ := rS_o hS (by decide) hv2 (by omega)
    refine rS_res ⟨by rw [re_u (by decide)]; exact g1, by rw [mm_us]; omega, by rw [mm_un (by decide)]; exact g3, by rw [mm_un (by decide)]; exact g4, by rw [mm_un (by decide)]; exact g5, rfv_pop hv2 (by rw [mm_uu (by decide)]; omega), fun j j0 j1 => ?_, g8⟩
    rw [mm_uu (show (173 : Nat) ≠ 129 by decide), mm_uu (show (174 : Nat) ≠ 129 by decide)]
    exact g7 j j0 j1
  · unfold rres
    exact rK_u (rK_u (rK_u (rK_u rK_r (fun _ _ => Int.le_refl _) (by omega)) (by omega) (by omega)) (by omega) (by omega)) (by omega) (by omega)
  · rw [rres_63, hy1]
    exact tot_pl
/-- a whole reference ends -/
theorem rsum_end2 (n0 : 0 ≤ n) (hS : rS μ0 μ (n + 1) m t) {cT ρ x c0 : Int} (hF : rF μ n cT ρ x e c0) {s : ev_K} (hZ : rZ μ n (nv_kid (rNv μ0) e (rpart c0 e)).length s) (hs : 0 ≤ s.1 ∧ s.1 ≤ 4) (hρ : ¬ ρ < 0) : ∃ μ2, rsum μ n = rpsh μ2 (ev_tot s).1 (ev_tot s).2 ∧ rS μ0 μ2 (n + 1) m t ∧ rK n m μ μ2 ∧ rF μ2 n cT ρ x (-1) c0 := by
  have hro := roll_N hS.1 hF
  rw [if_neg hρ] at hro
  have hki := kids_N hS.1 hF
  obtain ⟨z1, z2, z3, z4⟩ := hZ
  have hnx : rnxt μ n = μ 169 n := by
    unfold rnxt
    rw [if_neg (fun q => by omega)]
  have hg : (nv_kid (rNv μ0) e (rpart c0 e)).getD (nv_kid (rNv μ0) e (rpart c0 e)).length (-1) = -1 := by
    rw [List.getD_eq_getElem?_getD, List.getElem?_eq_none (Nat.le_refl _)]
    rfl
  have hv2 : rfv (mm_u μ 169 n (rnxt μ n + 1)) := rfv_169 hS.2.2.2.2.2.1 (by
    have := (ch_len (p := rp μ0 e) (m := rpart c0 e))
    have h2 : (nv_kid (rNv μ0) e (rpart c0 e)).length ≤ 6 := this
    rw [hnx, z1]; omega)
  have h2b : (mm_u μ 169 n (rnxt μ n + 1)) 165 n = ρ := by rw [mm_uu (by decide)]; exact hF.2.1
  have hv3 : rfv (mm_u (mm_u μ 169 n (rnxt μ n + 1)) 167 n (-1)) := by
    generalize mm_u μ 169 n (rnxt μ n + 1) = μ1 at *
    refine ⟨by rw [mm_uu (by decide)]; exact hv2.1, fun i i0 i1 => ?_, fun j j0 j1 => by rw [mm_uu (by decide)]; exact hv2.2.2 j j0 j1⟩
    rw [mm_uu (by decide)] at i1
    have := hv2.2.1 i i0 i1
    simp only [mm_uu (show (164 : Nat) ≠ 167 by decide), mm_uu (show (165 : Nat) ≠ 167 by decide), mm_uu (show (169 : Nat) ≠ 167 by decide), mm_uu (show (168 : Nat) ≠ 167 by decide), mm_uu (show (171 : Nat) ≠ 167 by decide), mm_uu (show (172 : Nat) ≠ 167 by decide), mm_ux]
    refine ⟨this.1, this.2.1, ?_, ?_, this.2.2.2.2⟩
    · split
      · decide
      · exact this.2.2.1
    · intro q
      split
      · rename_i q2; rw [q2.2, h2b] at q; exact absurd q hρ
      · exact this.2.2.2.1 q
  have ht := tot_eq (s := s.1) (v := μ 170 n) hs
  have hy1 : ev_tot s = if s.1 ≤ 1 then sp_fit (μ 170 n) else (s.1, 0) := by rw [z2]; rfl
  refine ⟨rres (mm_u (mm_u μ 169 n (rnxt μ n + 1)) 167 n (-1)) (ev_tot s).1 (ev_tot s).2, ?_, ?_, ?_, ?_⟩
  · unfold rsum
    rw [hki, hnx, z1, Int.toNat_natCast, hg, if_pos (by decide), hF.2.1, if_neg hρ, z3, ht.1, ht.2, ← hy1]
  · exact rS_res (rS_o (rS_o hS (by decide) hv2 (by omega)) (by decide) hv3 (by omega))
  · unfold rres
    exact rK_u (rK_u (rK_u (rK_u rK_r (fun _ _ => Int.le_refl _) (by omega)) (fun _ _ => Int.le_refl _) (by omega)) (by omega) (by omega)) (by omega) (by omega)
  · obtain ⟨f1, f2, f3, f4, f5⟩ := hF
    refine ⟨?_, ?_, ?_, ?_, ?_⟩
    · rw [rres_o (by decide), mm_uu (by decide), mm_uu (by decide)]; exact f1
    · rw [rres_o (by decide), mm_uu (by decide), mm_uu (by decide)]; exact f2
    · rw [rres_o (by decide), mm_uu (by decide), mm_uu (by decide)]; exact f3
    · rw [rres_o (by decide), mm_us]
    · rw [rres_o (by decide), mm_uu (by decide), mm_uu (by decide)]; exact f5
end S3
