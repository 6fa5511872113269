/-! The edits of both sides: one begins, one is forgotten, an input changes. -/
section JH
variable {μ μ' : mm_M} {e m l c v b x : Int}
theorem J_h_new (h : J_h μ) (hu : μ 129 38 < 12) (hl : 0 ≤ l ∧ l < μ 95 1) (hl3 : μ 95 1 ≤ 3) (a3 : μ' 107 3 = μ 107 3) (a4 : μ' 107 4 = μ 107 4 + 1) (a5 : μ' 107 5 = 0) (a21 : ∀ s, 0 ≤ s → s < 12 → μ' 121 s = if s = (μ 107 3 + μ 107 4) % 12 then l else μ 121 s)
    (arow : ∀ z c, 0 ≤ z → z < 12 → 0 ≤ c → c < 216 → μ' (mm_row z) c = if z = (μ 107 3 + μ 107 4) % 12 then μ (mm_inr l) c else μ (mm_row z) c) (a95 : μ' 95 1 = μ 95 1) (ai : ∀ l c, 0 ≤ l → l < 3 → 0 ≤ c → c < 216 → μ' (mm_inr l) c = μ (mm_inr l) c)
    (r37 : μ' 129 37 = μ 129 38 + 1) (r38 : μ' 129 38 = μ 129 38 + 1) (r57 : ∀ e, μ' 157 e = if e = μ 129 38 then l else μ 157 e) (r58 : ∀ e, μ' 158 e = if e = μ 129 38 then 0 else μ 158 e) (rb : ∀ b, 159 ≤ b → b ≤ 163 → μ' b = μ b) : J_h μ' := by
  obtain ⟨c1, ⟨d1, d2, d3⟩, d4, d5, d6, s, s1, s2⟩ := h
  obtain ⟨k1, k2, k3, k4, k5⟩ := c1
  obtain ⟨u, hu2⟩ : ∃ u : Nat, μ 129 38 = u := ⟨(μ 129 38).toNat, by omega⟩
  obtain ⟨s', hS1, hS2⟩ : ∃ s' : Nat → Int → Int → Int, (∀ k, k ≤ u → s' k = s k) ∧ s' (u + 1) = s u := ⟨fun k => if k ≤ u then s k else s u, fun k hk => if_pos hk, if_neg (by omega)⟩
  refine ⟨⟨by rw [a3]; exact k1, by omega, by omega, by omega, fun z z0 z1 => ?_⟩, ⟨by omega, fun z z0 z1 => ?_, fun k k0 k1 => ?_⟩, fun k k0 k1 => ?_, by omega, by omega, s', fun l c l0 l1 c0 c1 => ?_, fun e he => ?_⟩
  · rw [a21 z z0 z1]
    split
    · omega
    · exact k5 z z0 z1
  · rw [r57, r58]
    have := d2 z z0 z1
    split
    · exact ⟨by omega, by decide⟩
    · exact this
  · rw [rb 159 (by decide) (by decide), rb 160 (by decide) (by decide), rb 162 (by decide) (by decide)]; exact d3 k k0 k1
  · rw [rb 161 (by decide) (by decide), rb 163 (by decide) (by decide)]; exact d4 k k0 k1
  · rw [a95] at l1
    have : (μ' 129 38).toNat = u + 1 := by omega
    rw [this, hS2, ai l c l0 (by omega) c0 c1, ← s1 l c l0 l1 c0 c1, hu2]
    rfl
  · rw [r37, hu2] at he
    unfold J_he
    rw [a3, a95, r57, r58, r38, rb 159 (by decide) (by decide), rb 160 (by decide) (by decide), rb 161 (by decide) (by decide), rb 162 (by decide) (by decide), rb 163 (by decide) (by decide)]
    have hs12 : 0 ≤ (μ 107 3 + (e : Int)) % 12 ∧ (μ 107 3 + (e : Int)) % 12 < 12 := by omega
    by_cases q : e = u
    · subst q
      have e1 : (e : Int) = μ 129 38 := hu2.symm
      rw [if_pos e1, if_pos e1, a21 _ (by omega) (by omega), if_pos (by rw [d5, e1]), hS1 e (Nat.le_refl _), hS2]
      refine ⟨hl, rfl, fun _ _ _ => rfl, fun c c0 c1 => ?_, ⟨by decide, by decide⟩, fun k k0 k1 => by omega, fun c c0 c1 z => absurd rfl z⟩
      rw [arow _ c (by omega) (by omega) c0 c1, if_pos (by rw [d5, e1]), if_pos (by omega), ← s1 l c hl.1 hl.2 c0 c1, hu2]
      rfl
    · have he2 : e < u := by omega
      have hh := s2 e (by omega)
      unfold J_he at hh
      obtain ⟨j1, j2, j3, j4, j5, j6, j7⟩ := hh
      have ene : ¬ (e : Int) = μ 129 38 := by omega
      have sne : ¬ (μ 107 3 + (e : Int)) % 12 = (μ 107 3 + μ 107 4) % 12 := by omega
      rw [if_neg ene, if_neg ene, a21 _ (by omega) (by omega), if_neg sne, hS1 e (by omega), hS1 (e + 1) (by omega)]
      refine ⟨j1, j2, fun l c hl => j3 l c hl, fun c c0 c1 => ?_, j5, fun k k0 k1 => j6 k k0 k1, j7⟩
      rw [arow _ c (by omega) (by omega) c0 c1, if_neg sne, j4 c c0 c1, if_pos (by omega), if_pos (by omega)]
theorem J_h_sh (h : J_h μ) (hu : μ 129 38 = 12) (a3 : μ' 107 3 = (μ 107 3 + 1) % 12) (a4 : μ' 107 4 = 11) (a5 : μ' 107 5 = 0) (a21 : μ' 121 = μ 121) (arow : ∀ b, 109 ≤ b → b ≤ 120 → μ' b = μ b) (a95 : μ' 95 1 = μ 95 1) (ai : ∀ b, 97 ≤ b → b ≤ 99 → μ' b = μ b)
    (r37 : μ' 129 37 = 11) (r38 : μ' 129 38 = 11) (r57 : ∀ b e, 157 ≤ b → b ≤ 158 → μ' b e = if 0 ≤ e ∧ e < 11 then μ b (e + 1) else μ b e) (rb : ∀ b k, 159 ≤ b → b ≤ 163 → μ' b k = if 0 ≤ k ∧ k < 2376 then μ b (k + 216) else μ b k) : J_h μ' := by
  obtain ⟨c1, ⟨d1, d2, d3⟩, d4, d5, d6, s, s1, s2⟩ := h
  obtain ⟨k1, k2, k3, k4, k5⟩ := c1
  refine ⟨⟨by omega, by omega, by omega, by omega, by rw [a21]; exact k5⟩, ⟨by omega, fun z z0 z1 => ?_, fun k k0 k1 => ?_⟩, fun k k0 k1 => ?_, by omega, by omega, fun k => s (k + 1), fun l c l0 l1 c0 c1 => ?_, fun e he => ?_⟩
  · rw [r57 157 z (by decide) (by decide), r57 158 z (by decide) (by decide)]
    split
    · exact d2 (z + 1) (by omega) (by omega)
    · exact d2 z z0 z1
  · rw [rb 159 k (by decide) (by decide), rb 160 k (by decide) (by decide), rb 162 k (by decide) (by decide)]
    split
    · exact d3 (k + 216) (by omega) (by omega)
    · exact d3 k k0 k1
  · rw [rb 161 k (by decide) (by decide), rb 163 k (by decide) (by decide)]
    split
    · exact d4 (k + 216) (by omega) (by omega)
    · exact d4 k k0 k1
  · rw [a95] at l1
    have hv := mm_inr_r l
    have : (μ' 129 38).toNat + 1 = (μ 129 38).toNat := by omega
    show s ((μ' 129 38).toNat + 1) l c = _
    rw [this, ai _ (by omega) (by omega)]
    exact s1 l c l0 l1 c0 c1
  · rw [r37] at he
    have hh := s2 (e + 1) (by omega)
    have e1 : ((e + 1 : Nat) : Int) = (e : Int) + 1 := rfl
    have es : (μ' 107 3 + (e : Int)) % 12 = (μ 107 3 + ((e + 1 : Nat) : Int)) % 12 := by rw [a3, e1]; omega
    have hv := mm_row_r ((μ 107 3 + ((e + 1 : Nat) : Int)) % 12)
    have g57 : μ' 157 e = μ 157 ((e + 1 : Nat) : Int) := by rw [r57 157 e (by decide) (by decide), if_pos (by omega), e1]
    have g58 : μ' 158 e = μ 158 ((e + 1 : Nat) : Int) := by rw [r57 158 e (by decide) (by decide), if_pos (by omega), e1]
    have gk : ∀ b k, 159 ≤ b → b ≤ 163 → 216 * (e : Int) ≤ k → k < 216 * e + μ 158 ((e + 1 : Nat) : Int) → μ' b k = μ b (k + 216) := fun b k b0 b1 k0 k1 => by
      have := d2 ((e + 1 : Nat) : Int) (by omega) (by omega)
      rw [rb b k b0 b1, if_pos (by omega)]
    unfold J_he at hh ⊢
    dsimp only
    obtain ⟨j1, j2, j3, j4, j5, j6, j7⟩ := hh
    rw [es, a95, a21, g57, g58, arow _ (by omega) (by omega), r38]
    refine ⟨j1, j2, j3, fun c c0 c1 => ?_, j5, fun k k0 k1 => ?_, fun c c0 c1 z => ?_⟩
    · rw [j4 c c0 c1, if_pos (by omega), if_pos (by omega)]
    · rw [gk 159 k (by decide) (by decide) k0 k1, gk 160 k (by decide) (by decide) k0 k1, gk 161 k (by decide) (by decide) k0 k1, gk 162 k (by decide) (by decide) k0 k1, gk 163 k (by decide) (by decide) k0 k1]
      exact j6 (k + 216) (by omega) (by omega)
    · obtain ⟨k, k0, k1, k2⟩ := j7 c c0 c1 z
      refine ⟨k - 216, by omega, by omega, ?_⟩
      rw [gk 159 (k - 216) (by decide) (by decide) (by omega) (by omega), show k - 216 + 216 = k by omega]
      exact k2
theorem cc_inj {a b : Int} (ha : 0 ≤ a ∧ a < 216) (hb : 0 ≤ b ∧ b < 216) (h : cc a = cc b) : a = b := by
  rw [← cc_cc ha.1 ha.2, ← cc_cc hb.1 hb.2, h]
/-- an input changes, as part of the edit begun last -/
theorem J_h_chg (h : J_h μ) {u : Nat} (hu : μ 129 38 = u + 1) (hu2 : μ 129 37 = μ 129 38) (hl3 : μ 95 1 ≤ 3) (hn : μ 158 u < 216) (hc : 0 ≤ c ∧ c < 216) (hnew : ∀ k, 216 * (u : Int) ≤ k → k < 216 * u + μ 158 u → μ 159 k ≠ c) (hb : b = 0 ∨ b = 1) (hv : -2000000000 ≤ v ∧ v ≤ 2000000000) (hx : x = if b = 0 then -2147483648 else v)
    (hg : μ (mm_inr (μ 157 u)) (cc c) = if μ 137 (216 * μ 157 u + c) = 0 then -2147483648 else μ 138 (216 * μ 157 u + c)) (hg2 : (μ 137 (216 * μ 157 u + c) = 0 ∨ μ 137 (216 * μ 157 u + c) = 1) ∧ (-2000000000 ≤ μ 138 (216 * μ 157 u + c) ∧ μ 138 (216 * μ 157 u + c) ≤ 2000000000))
    (a07 : ∀ j, 3 ≤ j → j ≤ 5 → μ' 107 j = μ 107 j) (a21 : μ' 121 = μ 121) (arow : ∀ b, 109 ≤ b → b ≤ 120 → μ' b = μ b) (a95 : μ' 95 1 = μ 95 1) (ai : ∀ l j, 0 ≤ l → l < 3 → 0 ≤ j → j < 216 → μ' (mm_inr l) j = if l = μ 157 u ∧ j = cc c then x else μ (mm_inr l) j)
    (r37 : μ' 129 37 = μ 129 37) (r38 : μ' 129 38 = μ 129 38) (r57 : μ' 157 = μ 157) (r58 : ∀ e, μ' 158 e = if e = u then μ 158 u + 1 else μ 158 e)
    (r59 : ∀ k, μ' 159 k = if k = 216 * (u : Int) + μ 158 u then c else μ 159 k) (r60 : ∀ k, μ' 160 k = if k = 216 * (u : Int) + μ 158 u then μ 137 (216 * μ 157 u + c) else μ 160 k) (r61 : ∀ k, μ' 161 k = if k = 216 * (u : Int) + μ 158 u then μ 138 (216 * μ 157 u + c) else μ 161 k) (r62 : ∀ k, μ' 162 k = if k = 216 * (u : Int) + μ 158 u then b else μ 162 k) (r63 : ∀ k, μ' 163 k = if k = 216 * (u : Int) + μ 158 u then v else μ 163 k) : J_h μ' := by
  obtain ⟨c1, ⟨d1, d2, d3⟩, d4, d5, d6, s, s1, s2⟩ := h
  have hcb := cc_b hc.1 hc.2
  have hul : 0 ≤ μ 158 u := (d2 u (by omega) (by omega)).2.1
  have hlast := s2 u (by omega)
  have hlay : 0 ≤ μ 157 u ∧ μ 157 u < μ 95 1 := hlast.1
  have hcur := s1 (μ 157 u) (cc c) hlay.1 hlay.2 hcb.1 hcb.2
  rw [show (μ 129 38).toNat = u + 1 by omega] at hcur
  -- the cell is not changed so far
  have hsame : s u (μ 157 u) (cc c) = s (u + 1) (μ 157 u) (cc c) := by
    by_cases z : s u (μ 157 u) (cc c) = s (u + 1) (μ 157 u) (cc c)
    · exact z
    · obtain ⟨k, k0, k1, k2⟩ := hlast.2.2.2.2.2.2 c hc.1 hc.2 z
      exact absurd k2 (hnew k k0 k1)
  refine ⟨ch_r_c a07 a21 c1, ⟨by rw [r37, r38]; exact d1, fun z z0 z1 => ?_, fun k k0 k1 => ?_⟩, fun k k0 k1 => ?_, ?_, ?_, fun k l' c' => if k = u + 1 ∧ l' = μ 157 u ∧ c' = cc c then x else s k l' c', fun l' c' l0 l1 c0 c1 => ?_, fun e he => ?_⟩
  · rw [r57, r58]
    have := d2 z z0 z1
    split
    · exact ⟨this.1, by omega⟩
    · exact this
  · have := d3 k k0 k1
    rw [r59, r60, r62]
    split
    · exact ⟨hc, hg2.1, hb⟩
    · exact this
  · have := d4 k k0 k1
    rw [r61, r63]
    split
    · exact ⟨hg2.2, hv⟩
    · exact this
  · rw [a07 4 (by decide) (by decide), r38]; exact d5
  · rw [a07 4 (by decide) (by decide), a07 5 (by decide) (by decide), r37]; exact d6
  · rw [a95] at l1
    rw [r38, show (μ 129 38).toNat = u + 1 by omega, ai l' c' l0 (by omega) c0 c1]
    dsimp only
    by_cases z : l' = μ 157 u ∧ c' = cc c
    · rw [if_pos ⟨rfl, z⟩, if_pos z]
    · rw [if_neg (fun q => z q.2), if_neg z]
      have := s1 l' c' l0 l1 c0 c1
      rw [show (μ 129 38).toNat = u + 1 by omega] at this
      exact this
  · rw [r37] at he
    have hh := s2 e he
    have hrow := mm_row_r ((μ 107 3 + (e : Int)) % 12)
    unfold J_he at hh ⊢
    obtain ⟨j1, j2, j3, j4, j5, j6, j7⟩ := hh
    dsimp only
    rw [a07 3 (by decide) (by decide), a95, a21, r38, r57, r58, arow (mm_row ((μ 107 3 + (e : Int)) % 12)) (by omega) (by omega)]
    have hnu : ∀ l' c', (if e = u + 1 ∧ l' = μ 157 u ∧ c' = cc c then x else s e l' c') = s e l' c' := fun l' c' => if_neg (fun q => by omega)
    by_cases q : e = u
    · subst q
      rw [if_pos rfl]
      refine ⟨j1, j2, fun l' c' hl' => ?_, fun c' c0 c1 => ?_, by omega, fun k k0 k1 => ?_, fun c' c0 c1 z => ?_⟩
      · rw [hnu, if_neg (fun q => hl' q.2.1)]; exact j3 l' c' hl'
      · rw [hnu, j4 c' c0 c1, if_pos (by omega), if_pos (by omega)]
      · rw [hnu, r59, r60, r61, r62, r63]
        by_cases z : k = 216 * (e : Int) + μ 158 e
        · simp only [if_pos z]
          refine ⟨?_, ?_⟩
          · rw [hsame, hcur, hg]
          · rw [if_pos (by simp), hx]
        · simp only [if_neg z]
          have h6 := j6 k k0 (by omega)
          refine ⟨h6.1, ?_⟩
          have hk9 := (d3 k (by omega) (by omega)).1
          rw [if_neg (fun q => hnew k k0 (by omega) (cc_inj hk9 hc q.2.2))]
          exact h6.2
      · rw [hnu] at z
        by_cases y : c' = c
        · subst y
          exact ⟨216 * e + μ 158 e, by omega, by omega, by rw [r59, if_pos rfl]⟩
        · rw [if_neg (fun q => y (cc_inj ⟨c0, c1⟩ hc q.2.2))] at z
          obtain ⟨k, k0, k1, k2⟩ := j7 c' c0 c1 z
          exact ⟨k, k0, by omega, by rw [r59, if_neg (by omega)]; exact k2⟩
    · have hnu2 : ∀ l' c', (if e + 1 = u + 1 ∧ l' = μ 157 u ∧ c' = cc c then x else s (e + 1) l' c') = s (e + 1) l' c' := fun l' c' => if_neg (fun z => q (by omega))
      have he58 := (d2 e (by omega) (by omega)).2
      have kne : ∀ k, 216 * (e : Int) ≤ k → k < 216 * e + μ 158 e → ¬ k = 216 * (u : Int) + μ 158 u := fun k k0 k1 => by omega
      rw [if_neg (show ¬ (e : Int) = u by omega)]
      refine ⟨j1, j2, fun l' c' hl' => ?_, fun c' c0 c1 => ?_, j5, fun k k0 k1 => ?_, fun c' c0 c1 z => ?_⟩
      · rw [hnu, hnu2]; exact j3 l' c' hl'
      · rw [hnu, hnu2]; exact j4 c' c0 c1
      · rw [hnu, hnu2, r59, r60, r61, r62, r63]
        simp only [if_neg (kne k k0 k1)]
        exact j6 k k0 k1
      · rw [hnu, hnu2] at z
        obtain ⟨k, k0, k1, k2⟩ := j7 c' c0 c1 z
        exact ⟨k, k0, k1, by rw [r59, if_neg (kne k k0 k1)]; exact k2⟩
end JH
