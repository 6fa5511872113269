/-! Spread: the cells are distinct. -/
section ND
variable {μ : mm_M} {e m c v i l x y z o : Int} {f : Int → List Int}
theorem ls_nd : ∀ (k : Nat) (i : Int), (∀ j, i ≤ j → j < i + k → (f j).Nodup) → (∀ j j', i ≤ j → j < j' → j' < i + k → ∀ x ∈ f j, x ∈ f j' → False) → (ls f k i).Nodup := by
  intro k
  induction k with
  | zero => intro i _ _; exact List.nodup_nil
  | succ k ih =>
    intro i h1 h2
    show (f i ++ ls f k (i + 1)).Nodup
    rw [List.nodup_append]
    refine ⟨h1 i (by omega) (by omega), ih (i + 1) (fun j j0 j1 => h1 j (by omega) (by omega)) (fun j j' j0 j1 j2 => h2 j j' (by omega) j1 (by omega)), fun a ha b hb hab => ?_⟩
    have : ∀ x ∈ ls f k (i + 1), x ∈ f i → False := ls_in (P := fun x => x ∈ f i → False) k (i + 1) fun j j0 j1 x hx hx2 => h2 i j (by omega) (by omega) (by omega) x hx2 hx
    exact this b hb (by rw [← hab]; exact ha)
theorem J_lfd (hJ : J μ) (he : 0 ≤ e ∧ e < 3) {i j : Int} (h0 : 0 ≤ i) (h1 : i < j) (h2 : j < μ 134 e) : μ 133 (6 * e + i) ≠ μ 133 (6 * e + j) := by
  obtain ⟨t1, t2, t3, t4, t5, t6⟩ := hJ.1 e he.1 he.2
  obtain ⟨k1, k2, k3⟩ := fo_Lin t3.1
  rw [t3.2.2.1] at h2
  have hi : i.toNat < (fo_L (rp μ e)).length := by omega
  have hj : j.toNat < (fo_L (rp μ e)).length := by omega
  rw [t3.2.2.2 i h0 (by omega), t3.2.2.2 j (by omega) h2, List.getD_eq_getElem?_getD, List.getElem?_eq_getElem hi, List.getD_eq_getElem?_getD, List.getElem?_eq_getElem hj]
  exact List.pairwise_iff_getElem.mp k1 i.toNat j.toNat hi hj (by omega)
theorem rsps_nd (hJ : J μ) (o : Int) : (rsps μ o).Nodup := by
  have hl := J_rl hJ
  have n0 := (hl 0 (by decide) (by decide)).1
  have n1 := (hl 1 (by decide) (by decide)).1
  have n2 := (hl 2 (by decide) (by decide)).1
  have v0 : ∀ x, 0 ≤ x → x < μ 134 0 → 0 ≤ μ 133 x ∧ μ 133 x < 6 := fun x x0 x1 => by have := (hl 0 (by decide) (by decide)).2 x x0 x1; rw [show (6 : Int) * 0 + x = x by omega] at this; exact this
  have v1 : ∀ x, 0 ≤ x → x < μ 134 1 → 0 ≤ μ 133 (6 + x) ∧ μ 133 (6 + x) < 6 := fun x x0 x1 => by have := (hl 1 (by decide) (by decide)).2 x x0 x1; rw [show (6 : Int) * 1 + x = 6 + x by omega] at this; exact this
  have v2 : ∀ x, 0 ≤ x → x < μ 134 2 → 0 ≤ μ 133 (12 + x) ∧ μ 133 (12 + x) < 6 := fun x x0 x1 => by have := (hl 2 (by decide) (by decide)).2 x x0 x1; rw [show (6 : Int) * 2 + x = 12 + x by omega] at this; exact this
  have d0 : ∀ i j, 0 ≤ i → i < j → j < μ 134 0 → μ 133 i ≠ μ 133 j := fun i j i0 ij j1 => by have := J_lfd hJ (e := 0) (by decide) i0 ij j1; rw [show (6 : Int) * 0 + i = i by omega, show (6 : Int) * 0 + j = j by omega] at this; exact this
  have d1 : ∀ i j, 0 ≤ i → i < j → j < μ 134 1 → μ 133 (6 + i) ≠ μ 133 (6 + j) := fun i j i0 ij j1 => by have := J_lfd hJ (e := 1) (by decide) i0 ij j1; rw [show (6 : Int) * 1 + i = 6 + i by omega, show (6 : Int) * 1 + j = 6 + j by omega] at this; exact this
  have d2 : ∀ i j, 0 ≤ i → i < j → j < μ 134 2 → μ 133 (12 + i) ≠ μ 133 (12 + j) := fun i j i0 ij j1 => by have := J_lfd hJ (e := 2) (by decide) i0 ij j1; rw [show (6 : Int) * 2 + i = 12 + i by omega, show (6 : Int) * 2 + j = 12 + j by omega] at this; exact this
  have mem : ∀ x y z c, 0 ≤ x → x < μ 134 0 → 0 ≤ y → y < μ 134 1 → 0 ≤ z → z < μ 134 2 → c ∈ rsp1 μ o x y z → c % 6 = μ 133 x ∧ c / 6 % 6 = μ 133 (6 + y) ∧ c / 36 = μ 133 (12 + z) := fun x y z c x0 x1 y0 y1 z0 z1 hc => by
    have := v0 x x0 x1
    have := v1 y y0 y1
    have := v2 z z0 z1
    unfold rsp1 at hc
    split at hc
    · have := List.mem_singleton.mp hc
      omega
    · exact absurd hc List.not_mem_nil
  have my : ∀ x y, 0 ≤ x → x < μ 134 0 → 0 ≤ y → y < μ 134 1 → ∀ c ∈ rspz μ o x y, c % 6 = μ 133 x ∧ c / 6 % 6 = μ 133 (6 + y) := fun x y x0 x1 y0 y1 => ls_in _ 0 fun z z0 z1 c hc => by
    have := mem x y z c x0 x1 y0 y1 z0 (by omega) hc
    exact ⟨this.1, this.2.1⟩
  have mx : ∀ x, 0 ≤ x → x < μ 134 0 → ∀ c ∈ rspy μ o x, c % 6 = μ 133 x := fun x x0 x1 => ls_in _ 0 fun y y0 y1 c hc => (my x y x0 x1 y0 (by omega) c hc).1
  refine ls_nd _ 0 (fun x x0 x1 => ls_nd _ 0 (fun y y0 y1 => ls_nd _ 0 (fun z z0 z1 => ?_) fun z z' z0 zz z1 c hc hc' => ?_) fun y y' y0 yy y1 c hc hc' => ?_) fun x x' x0 xx x1 c hc hc' => ?_
  · unfold rsp1
    split
    · simp
    · exact List.nodup_nil
  · have a := (mem x y z c x0 (by omega) y0 (by omega) z0 (by omega) hc).2.2
    have b := (mem x y z' c x0 (by omega) y0 (by omega) (by omega) (by omega) hc').2.2
    exact d2 z z' z0 zz (by omega) (by rw [← a, ← b])
  · have a := (my x y x0 (by omega) y0 (by omega) c hc).2
    have b := (my x y' x0 (by omega) (by omega) (by omega) c hc').2
    exact d1 y y' y0 yy (by omega) (by rw [← a, ← b])
  · have a := mx x x0 (by omega) c hc
    have b := mx x' (by omega) (by omega) c hc'
    exact d0 x x' x0 xx (by omega) (by rw [← a, ← b])
theorem rsps_d (hJ : J μ) {i j : Nat} (hij : i < j) (hj : j < (rsps μ o).length) : (rsps μ o).getD i 0 ≠ (rsps μ o).getD j 0 := by
  have hi : i < (rsps μ o).length := by omega
  rw [List.getD_eq_getElem?_getD, List.getElem?_eq_getElem hi, List.getD_eq_getElem?_getD, List.getElem?_eq_getElem hj]
  exact List.pairwise_iff_getElem.mp (rsps_nd hJ o) i j hi hj hij
end ND
