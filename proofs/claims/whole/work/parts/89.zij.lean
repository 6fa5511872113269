/-! Spread: what leaves the reference's question as it is. -/
section SC
variable {μ μ' : mm_M} {e m c v i l p b o : Int} {R : List Int}
theorem rsps_c (h : ∀ a, 130 ≤ a → a ≤ 134 → μ' a = μ a) : rsps μ' o = rsps μ o := by
  have h0 := h 130 (by decide) (by decide)
  have h1 := h 131 (by decide) (by decide)
  have h3 := h 133 (by decide) (by decide)
  have h4 := h 134 (by decide) (by decide)
  have e1 : rsp1 μ' o = rsp1 μ o := by
    funext x y z
    unfold rsp1
    rw [h3, ramg_c h0 h1]
  unfold rsps rspy rspz
  rw [h4, e1]
theorem rwt_c (h7 : μ' 137 = μ 137) (h8 : μ' 138 = μ 138) : rwt μ' l c = rwt μ l c := by
  unfold rwt
  rw [rlay_c h7, h8]
theorem rpln_c (h : ∀ a, 130 ≤ a → a ≤ 132 → μ' a = μ a) (h9 : μ' 129 11 = μ 129 11) (h39 : μ' 139 = μ 139) (h40 : μ' 140 = μ 140) : rpln μ' o = rpln μ o := by
  have h0 := h 130 (by decide) (by decide)
  have h1 := h 131 (by decide) (by decide)
  have h2 := h 132 (by decide) (by decide)
  have f1 : rpl1 μ' = rpl1 μ := by
    funext o c
    unfold rpl1
    rw [ramg_c h0 h1, h9, rwin_c h0 h1 h39 h40]
  have f2 : rpl2 μ' = rpl2 μ := by
    funext o e m
    unfold rpl2 rq
    rw [h0, h1, h2, rp_c h0 h1]
  unfold rpln
  rw [f1, f2]
theorem rok_c (h : ∀ a, 130 ≤ a → a ≤ 140 → μ' a = μ a) (h9 : ∀ j, j ≠ 0 → μ' 129 j = μ 129 j) : rok μ' l R ↔ rok μ l R := by
  have hr : rhere μ' = rhere μ := rhere_c (h 130 (by decide) (by decide)) (h 136 (by decide) (by decide))
  have hw : ∀ c, rwt μ' l c = rwt μ l c := fun c => rwt_c (h 137 (by decide) (by decide)) (h 138 (by decide) (by decide))
  unfold rok
  rw [h9 65 (by decide), hr, rpln_c (fun a a0 a1 => h a a0 (by omega)) (h9 11 (by decide)) (h 139 (by decide) (by decide)) (h 140 (by decide) (by decide))]
  simp only [hw]
end SC
