/-! Spread: both sides let spread alike. -/
section SE
variable {μ : mm_M} {e m c v i l x y z o : Int}
theorem J_pl1 (hJ : J μ) (ho : 0 ≤ rhere μ) (hc : 0 ≤ c ∧ c < 216) : cpl1 μ (cc c) = rpl1 μ (rhere μ) c := by
  unfold cpl1 rpl1
  rw [J_ramg hJ ho hc]
  by_cases q : ramg μ c (rhere μ) = true
  · have hcell : rcell μ c := by
      refine ⟨hc, fun e e0 e1 => ?_⟩
      have b := rpart_b (e := e) hc.1 hc.2
      refine (rp_th (J_rt hJ e e0 e1) b.1 b.2).mpr ?_
      unfold ramg at q
      rw [Bool.and_eq_true, Bool.and_eq_true] at q
      rcases (by omega : e = 0 ∨ e = 1 ∨ e = 2) with rfl | rfl | rfl
      · exact (of_decide_eq_true q.1.1).1
      · exact (of_decide_eq_true q.1.2).1
      · exact (of_decide_eq_true q.2).1
    have h11 := (J_rr hJ).1
    have := (J_win hJ.1 hJ.2.1 hcell (μ 129 11).toNat (by omega)).1
    rw [hJ.2.1.2.2.1, this]
  · rw [Bool.eq_false_iff.mpr q, Bool.false_and, Bool.false_and]
theorem J_pl2 (hJ : J μ) (ho : 0 ≤ rhere μ) (he : 0 ≤ e ∧ e < 3) (hm : 0 ≤ m ∧ m < 6) : cpl2 μ e m = rpl2 μ (rhere μ) e m := by
  obtain ⟨t1, t2, t3, t4, t5, t6⟩ := hJ.1 e he.1 he.2
  have h1 := J_am1 hJ ho he hm
  have hth := rp_th (J_rt hJ e he.1 he.2) hm.1 hm.2
  unfold cpl2 rpl2
  congr 1
  refine decide_eq_decide.mpr ?_
  rw [h1]
  constructor
  · rintro ⟨⟨a, b⟩, c, d⟩
    have hp := hth.mpr a
    exact ⟨a, b, (J_leaf hJ.1 he hm.1 hm.2 hp).mp c, by rw [← t5 m hm.1 hm.2 hp]; exact d⟩
  · rintro ⟨a, b, c, d⟩
    have hp := hth.mpr a
    exact ⟨⟨a, b⟩, (J_leaf hJ.1 he hm.1 hm.2 hp).mpr c, by rw [t5 m hm.1 hm.2 hp]; exact d⟩
theorem J_pln (hJ : J μ) (ho : 0 ≤ rhere μ) : (bl (cpl1 μ) 216 0 = true ∧ cpln μ = true) ↔ rpln μ (rhere μ) = true := by
  have h1 : bl (cpl1 μ) 216 0 = bl (rpl1 μ (rhere μ)) 216 0 := by
    refine Bool.eq_iff_iff.mpr ?_
    rw [bl_iff, bl_iff]
    constructor
    · intro h c c0 c1
      have hb := cc_b c0 (show c < 216 by omega)
      rw [← J_pl1 hJ ho ⟨c0, by omega⟩]
      exact h (cc c) hb.1 (by omega)
    · intro h c c0 c1
      have hb := cc_b c0 (show c < 216 by omega)
      have := h (cc c) hb.1 (by omega)
      rw [← J_pl1 hJ ho hb, cc_cc c0 (by omega)] at this
      exact this
  have h2 : ∀ e, 0 ≤ e ∧ e < 3 → bl (cpl2 μ e) 6 0 = bl (rpl2 μ (rhere μ) e) 6 0 := fun e he => bl_c 6 0 fun m m0 m1 => J_pl2 hJ ho he ⟨m0, by omega⟩
  unfold cpln rpln
  rw [h1, h2 0 (by decide), h2 1 (by decide), h2 2 (by decide)]
  simp only [Bool.and_eq_true]
theorem rsps_b (hJ : J μ) (o : Int) : ∀ x ∈ rsps μ o, 0 ≤ x ∧ x < 216 := by
  have hl := J_rl hJ
  have n0 := (hl 0 (by decide) (by decide)).1
  have n1 := (hl 1 (by decide) (by decide)).1
  have n2 := (hl 2 (by decide) (by decide)).1
  refine ls_in _ 0 fun x x0 x1 => ls_in _ 0 fun y y0 y1 => ls_in _ 0 fun z z0 z1 c hc => ?_
  have v0 := (hl 0 (by decide) (by decide)).2 x x0 (by omega)
  have v1 := (hl 1 (by decide) (by decide)).2 y y0 (by omega)
  have v2 := (hl 2 (by decide) (by decide)).2 z z0 (by omega)
  rw [show (6 : Int) * 0 + x = x by omega] at v0
  rw [show (6 : Int) * 1 + y = 6 + y by omega] at v1
  rw [show (6 : Int) * 2 + z = 12 + z by omega] at v2
  unfold rsp1 at hc
  split at hc
  · have := List.mem_singleton.mp hc
    omega
  · exact absurd hc List.not_mem_nil
theorem J_cgd (hJ : J μ) (ho : 0 ≤ rhere μ) {j : Int} (h0 : 0 ≤ j) (h1 : j < (rsps μ (rhere μ)).length) : (cgs μ).getD j.toNat 0 = cc ((rsps μ (rhere μ)).getD j.toNat 0) ∧ 0 ≤ (rsps μ (rhere μ)).getD j.toNat 0 ∧ (rsps μ (rhere μ)).getD j.toNat 0 < 216 := by
  have hlt : j.toNat < (rsps μ (rhere μ)).length := by omega
  rw [J_cgs hJ ho, List.getD_eq_getElem?_getD, List.getD_eq_getElem?_getD, List.getElem?_map, List.getElem?_eq_getElem hlt]
  exact ⟨rfl, rsps_b hJ _ _ (List.getElem_mem hlt)⟩
theorem J_W (hJ : J μ) (ho : 0 ≤ rhere μ) (hl : 0 ≤ l ∧ l < μ 95 1) {j : Int} (h0 : 0 ≤ j) (h1 : j < (rsps μ (rhere μ)).length) : cwt μ l ((cgs μ).getD j.toNat 0) = rwt μ l ((rsps μ (rhere μ)).getD j.toNat 0) := by
  have := J_cgd hJ ho h0 h1
  rw [this.1, J_cwt hJ hl this.2]
theorem J_ok (hJ : J μ) (ho : 0 ≤ rhere μ) (hl : 0 ≤ l ∧ l < μ 95 1) : cok μ l ↔ rok μ l (rsps μ (rhere μ)) := by
  have hlen : (cgs μ).length = (rsps μ (rhere μ)).length := by rw [J_cgs hJ ho, List.length_map]
  have hb : bl (fun j => decide (0 ≤ cwt μ l ((cgs μ).getD j.toNat 0))) (cgs μ).length 0 = bl (fun j => decide (0 ≤ rwt μ l ((rsps μ (rhere μ)).getD j.toNat 0))) (rsps μ (rhere μ)).length 0 := by
    rw [hlen]
    refine bl_c _ 0 fun j j0 j1 => ?_
    show decide (0 ≤ _) = decide (0 ≤ _)
    rw [J_W hJ ho hl j0 (by omega)]
  have ht : tot (fun j => cwt μ l ((cgs μ).getD j.toNat 0)) (cgs μ).length 0 = tot (fun j => rwt μ l ((rsps μ (rhere μ)).getD j.toNat 0)) (rsps μ (rhere μ)).length 0 := by
    rw [hlen]
    exact tot_c _ 0 fun j j0 j1 => J_W hJ ho hl j0 (by omega)
  have hp := J_pln hJ ho
  unfold cok rok
  rw [hb, ht, hlen, (J_jn hJ).2.1]
  constructor
  · rintro ⟨a, b, c, d⟩; exact ⟨a, hp.mp ⟨b, c⟩, d⟩
  · rintro ⟨a, b, d⟩; exact ⟨a, (hp.mpr b).1, (hp.mpr b).2, d⟩
end SE
