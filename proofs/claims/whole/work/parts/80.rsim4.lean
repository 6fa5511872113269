/-! Frames begin. -/
section S4
variable {μ0 μ μ1 μ' : mm_M} {n m t : Int} {c e r : Int} {G : Int → Prop} {Lp : mm_M → Prop} {a : Nat} {k z v f : Int}
/-- what a row at an index is behind rbeg -/
theorem rbeg_at {b : Nat} {i : Int} : rbeg μ f e c b i = if i = f then (if b = 167 then e else if b = 168 then c else if b = 169 then 0 else if b = 170 then 0 else if b = 171 then 0 else if b = 172 then 0 else μ b i) else μ b i := by
  unfold rbeg mm_u
  by_cases q : i = f
  · subst q
    rw [if_pos rfl]
    by_cases h7 : b = 167
    · subst h7; simp
    · by_cases h8 : b = 168
      · subst h8; simp
      · by_cases h9 : b = 169
        · subst h9; simp
        · by_cases h10 : b = 170
          · subst h10; simp
          · by_cases h11 : b = 171
            · subst h11; simp
            · by_cases h12 : b = 172
              · subst h12; simp
              · rw [if_neg (fun q => h12 q.1), if_neg (fun q => h11 q.1), if_neg (fun q => h10 q.1), if_neg (fun q => h9 q.1), if_neg (fun q => h8 q.1), if_neg (fun q => h7 q.1), if_neg h7, if_neg h8, if_neg h9, if_neg h10, if_neg h11, if_neg h12]
  · rw [if_neg q, if_neg (fun z => q z.2), if_neg (fun z => q z.2), if_neg (fun z => q z.2), if_neg (fun z => q z.2), if_neg (fun z => q z.2), if_neg (fun z => q z.2)]
theorem rfv_beg (hv : rfv μ) (he : -1 ≤ e ∧ e < 3) (hr : μ 165 f < 0 → 0 ≤ e) (hc : 0 ≤ c ∧ c < 216) : rfv (rbeg μ f e c) := by
  refine ⟨by rw [rbeg_o (by decide)]; exact hv.1, fun i i0 i1 => ?_, fun j j0 j1 => by rw [rbeg_o (by decide)]; exact hv.2.2 j j0 j1⟩
  rw [rbeg_o (by decide)] at i1
  have := hv.2.1 i i0 i1
  rw [rbeg_at, rbeg_at, rbeg_at, rbeg_at, rbeg_at, rbeg_at, rbeg_at]
  by_cases q : i = f
  · simp only [if_pos q]
    subst q
    exact ⟨this.1, this.2.1, he, hr, hc, (show (0 : Int) ≤ 0 ∧ (0 : Int) ≤ 7 by decide), (show (0 : Int) ≤ 0 ∧ (0 : Int) ≤ 3 by decide), (show (0 : Int) ≤ 0 ∧ (0 : Int) ≤ 6 by decide)⟩
  · simp only [if_neg q]
    exact this
theorem re_beg : mm_re (rbeg μ f e c) = mm_re μ := by
  unfold rbeg
  rw [re_u (by omega), re_u (by omega), re_u (by omega), re_u (by omega), re_u (by omega), re_u (by omega)]
theorem rK_beg (h : rK n m μ μ') (hf : n ≤ f) : rK n m μ (rbeg μ' f e c) := by
  unfold rbeg
  exact rK_u (rK_u (rK_u (rK_u (rK_u (rK_u h (fun _ _ => hf) (by omega)) (fun _ _ => hf) (by omega)) (fun _ _ => hf) (by omega)) (fun _ _ => hf) (by omega)) (fun _ _ => hf) (by omega)) (fun _ _ => hf) (by omega)
theorem rS_beg (hS : rS μ0 μ n m t) (he : -1 ≤ e ∧ e < 3) (hr : μ 165 f < 0 → 0 ≤ e) (hc : 0 ≤ c ∧ c < 216) : rS μ0 (rbeg μ f e c) n m t := by
  obtain ⟨g1, g2, g3, g4, g5, g6, g7, g8⟩ := hS
  refine ⟨by rw [re_beg]; exact g1, ?_, ?_, ?_, ?_, rfv_beg g6 he hr hc, ?_, g8⟩
  · rw [rbeg_o (by decide)]; exact g2
  · rw [rbeg_o (by decide)]; exact g3
  · rw [rbeg_o (by decide)]; exact g4
  · rw [rbeg_o (by decide)]; exact g5
  · rw [rbeg_o (by decide), rbeg_o (by decide)]; exact g7
theorem rF_beg {cT ρ x e' c' : Int} (hF : rF μ n cT ρ x e' c') : rF (rbeg μ n e c) n cT ρ x e c := by
  obtain ⟨f1, f2, f3, f4, f5⟩ := hF
  refine ⟨by rw [rbeg_o (by decide)]; exact f1, by rw [rbeg_o (by decide)]; exact f2, by rw [rbeg_o (by decide)]; exact f3, ?_, ?_⟩
  · rw [rbeg_at, if_pos rfl, if_pos rfl]
  · rw [rbeg_at, if_pos rfl]; rfl
theorem rZ_beg : rZ (rbeg μ n e c) n 0 (0, 0) := by
  refine ⟨?_, ?_, ?_, ?_⟩ <;> (rw [rbeg_at, if_pos rfl]; rfl)
/-- a frame begins -/
theorem rS_frm (hS : rS μ0 μ n m t) (n0 : 0 ≤ n ∧ n < 20) (hc : 0 ≤ c ∧ c < 216) (hr : -1 ≤ r ∧ r < 8) (he : -1 ≤ e ∧ e < 3) (hre : r < 0 → 0 ≤ e) : rS μ0 (rfrm μ c r e) (n + 1) m t ∧ rF (rfrm μ c r e) n c r 0 e c ∧ rZ (rfrm μ c r e) n 0 (0, 0) ∧ rK n m μ (rfrm μ c r e) := by
  obtain ⟨g1, g2, g3, g4, g5, g6, g7, g8⟩ := id hS
  unfold rfrm
  rw [g2]
  have hm : ∃ μ3, mm_u (mm_u (mm_u (mm_u (mm_u μ 164 n c) 165 n r) 166 n 0) 167 n e) 168 n c = μ3 := ⟨_, rfl⟩
  obtain ⟨μ3, h3⟩ := hm
  rw [h3]
  have hrow : ∀ b : Nat, (b < 164 ∨ 168 < b) → μ3 b = μ b := by
    intro b hb
    rw [← h3, mm_uu (by omega), mm_uu (by omega), mm_uu (by omega), mm_uu (by omega), mm_uu (by omega)]
  have hat : ∀ (b : Nat) (i : Int), i ≠ n → μ3 b i = μ b i := by
    intro b i hi
    rw [← h3, mm_ub (fun _ => hi), mm_ub (fun _ => hi), mm_ub (fun _ => hi), mm_ub (fun _ => hi), mm_ub (fun _ => hi)]
  have a4 : μ3 164 n = c := by rw [← h3, mm_uu (by decide), mm_uu (by decide), mm_uu (by decide), mm_uu (by decide), mm_us]
  have a5 : μ3 165 n = r := by rw [← h3, mm_uu (by decide), mm_uu (by decide), mm_uu (by decide), mm_us]
  have a6 : μ3 166 n = 0 := by rw [← h3, mm_uu (by decide), mm_uu (by decide), mm_us]
  have hre3 : mm_re μ3 = mm_re μ := by rw [← h3, re_u (by omega), re_u (by omega), re_u (by omega), re_u (by omega), re_u (by omega)]
  have hb129 : rbeg μ3 n e c 129 = μ 129 := by rw [rbeg_o (by decide), hrow _ (by decide)]
  have hk : rK n m μ μ3 := by
    rw [← h3]
    exact rK_u (rK_u (rK_u (rK_u (rK_u rK_r (fun _ _ => Int.le_refl _) (by omega)) (fun _ _ => Int.le_refl _) (by omega)) (fun _ _ => Int.le_refl _) (by omega)) (fun _ _ => Int.le_refl _) (by omega)) (fun _ _ => Int.le_refl _) (by omega)
  refine ⟨⟨?_, by rw [mm_us], by rw [mm_un (by decide), hb129]; exact g3, by rw [mm_un (by decide), hb129]; exact g4, by rw [mm_un (by decide), hb129]; exact g5, ⟨by rw [mm_us]; omega, fun i i0 i1 => ?_, fun j j0 j1 => ?_⟩, ?_, g8⟩, ?_, ?_, ?_⟩
  · rw [re_u (by decide), re_beg, hre3]; exact g1
  · rw [mm_us] at i1
    simp only [mm_uu (show (164 : Nat) ≠ 129 by decide), mm_uu (show (165 : Nat) ≠ 129 by decide), mm_uu (show (167 : Nat) ≠ 129 by decide), mm_uu (show (168 : Nat) ≠ 129 by decide), mm_uu (show (169 : Nat) ≠ 129 by decide), mm_uu (show (171 : Nat) ≠ 129 by decide), mm_uu (show (172 : Nat) ≠ 129 by decide)]
    rw [rbeg_at, rbeg_at, rbeg_at, rbeg_at, rbeg_at, rbeg_at, rbeg_at]
    by_cases q : i = n
    · simp only [if_pos q]
      rw [q]
      refine ⟨?_, ?_, he, ?_, hc, (show (0 : Int) ≤ 0 ∧ (0 : Int) ≤ 7 by decide), (show (0 : Int) ≤ 0 ∧ (0 : Int) ≤ 3 by decide), (show (0 : Int) ≤ 0 ∧ (0 : Int) ≤ 6 by decide)⟩
      · show 0 ≤ μ3 164 n ∧ μ3 164 n < 216; rw [a4]; exact hc
      · show -1 ≤ μ3 165 n ∧ μ3 165 n < 8; rw [a5]; exact hr
      · show μ3 165 n < 0 → 0 ≤ e; rw [a5]; exact hre
    · simp only [if_neg q]
      rw [hat _ _ q, hat _ _ q, hat _ _ q, hat _ _ q, hat _ _ q, hat _ _ q, hat _ _ q]
      exact g6.2.1 i i0 (by omega)
  · rw [mm_uu (by decide), rbeg_o (by decide), hrow _ (by decide)]
    exact g6.2.2 j j0 j1
  · rw [mm_uu (by decide), mm_uu (by decide), rbeg_o (by decide), rbeg_o (by decide), hrow _ (by decide), hrow _ (by decide)]
    exact g7
  · refine ⟨?_, ?_, ?_, ?_, ?_⟩
    · rw [mm_uu (by decide), rbeg_o (by decide)]; exact a4
    · rw [mm_uu (by decide), rbeg_o (by decide)]; exact a5
    · rw [mm_uu (by decide), rbeg_o (by decide)]; exact a6
    · rw [mm_uu (by decide), rbeg_at, if_pos rfl]; rfl
    · rw [mm_uu (by decide), rbeg_at, if_pos rfl]; rfl
  · have := @rZ_beg μ3 n c e
    unfold rZ at this ⊢
    rw [mm_uu (by decide), mm_uu (by decide), mm_uu (by decide), mm_uu (by decide)]
    exact this
  · exact rK_u (rK_beg hk (Int.le_refl _)) (by omega) (by omega)
end S4
