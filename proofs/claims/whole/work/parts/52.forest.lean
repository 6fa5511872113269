/-! Forests of six members: depths, the order of a walk. Pure. -/
def fo_it (p : Int → Int) : Nat → Int → Int
  | 0, m => m
  | k + 1, m => fo_it p k (p m)
def fo_rc (p : Int → Int) : Nat → Int → Bool
  | 0, m => decide (m < 0)
  | k + 1, m => if m < 0 then true else fo_rc p k (p m)
def fo_dp (p : Int → Int) : Nat → Int → Int
  | 0, _ => 0
  | k + 1, m => if p m < 0 then 0 else fo_dp p k (p m) + 1
def fo_rg : List Int := [0, 1, 2, 3, 4, 5]
def fo_ch (p : Int → Int) (m : Int) : List Int := fo_rg.filter (fun c => decide (p c = m))
def fo_pr (p : Int → Int) : Nat → Int → List Int
  | 0, _ => []
  | f + 1, t => (fo_ch p t).flatMap (fun c => c :: fo_pr p f c)
/-- a forest: absent members at -2, roots at -1, every parent is there, every way up ends -/
def fo_wf (p : Int → Int) : Prop := ∀ m, 0 ≤ m → m < 6 → (-2 ≤ p m ∧ p m ≤ 5) ∧ (0 ≤ p m → p (p m) ≠ -2) ∧ (p m ≠ -2 → fo_rc p 6 m = true)
section FO
variable {p : Int → Int}
theorem fo_mem_rg {m : Int} : m ∈ fo_rg ↔ 0 ≤ m ∧ m < 6 := by
  unfold fo_rg
  simp only [List.mem_cons, List.not_mem_nil, or_false]
  omega
theorem fo_mem_ch {m c : Int} : c ∈ fo_ch p m ↔ (0 ≤ c ∧ c < 6) ∧ p c = m := by
  unfold fo_ch
  rw [List.mem_filter, fo_mem_rg]
  simp
theorem fo_nd_ch {m : Int} : (fo_ch p m).Nodup := List.Nodup.sublist List.filter_sublist (by decide)
theorem fo_dpS : ∀ (k : Nat) (m : Int), 0 ≤ m → fo_rc p (k + 1) m = true → ∀ j, k ≤ j → fo_dp p j m = fo_dp p k m := by
  intro k
  induction k with
  | zero =>
    intro m h0 h j _
    have h1 : p m < 0 := by
      unfold fo_rc at h
      rw [if_neg (by omega)] at h
      unfold fo_rc at h
      exact of_decide_eq_true h
    cases j with
    | zero => rfl
    | succ j => simp only [fo_dp, if_pos h1]
  | succ k ih =>
    intro m h0 h j hj
    obtain ⟨j, rfl⟩ : ∃ i, j = i + 1 := ⟨j - 1, by omega⟩
    unfold fo_rc at h
    rw [if_neg (by omega)] at h
    by_cases h1 : p m < 0
    · simp only [fo_dp, if_pos h1]
    · simp only [fo_dp, if_neg h1]
      rw [ih (p m) (by omega) h j (by omega)]
theorem fo_dp_le : ∀ (k : Nat) (m : Int), 0 ≤ fo_dp p k m ∧ fo_dp p k m ≤ k := by
  intro k
  induction k with
  | zero => intro m; exact ⟨Int.le_refl 0, Int.le_refl 0⟩
  | succ k ih =>
    intro m
    have := ih (p m)
    unfold fo_dp
    split
    · omega
    · omega
theorem fo_dp0 {m : Int} (h : p m < 0) : fo_dp p 6 m = 0 := if_pos h
theorem fo_dp1 (hw : fo_wf p) {m : Int} (h0 : 0 ≤ m) (h6 : m < 6) (h : 0 ≤ p m) : fo_dp p 6 m = fo_dp p 6 (p m) + 1 := by
  have h1 := (hw m h0 h6).2.2 (by omega)
  unfold fo_rc at h1
  rw [if_neg (by omega)] at h1
  have h2 := fo_dpS 4 (p m) h h1
  show (if p m < 0 then 0 else fo_dp p 5 (p m) + 1) = _
  rw [if_neg (by omega), h2 5 (by omega), h2 6 (by omega)]
theorem fo_dp5 (hw : fo_wf p) {m : Int} (h0 : 0 ≤ m) (h6 : m < 6) (h : p m ≠ -2) : fo_dp p 6 m ≤ 5 := by
  have h1 := (hw m h0 h6).2.2 h
  rw [fo_dpS 5 m h0 h1 6 (by omega)]
  exact (fo_dp_le 5 m).2
theorem fo_itS : ∀ (k : Nat) (x : Int), fo_it p (k + 1) x = p (fo_it p k x) := by
  intro k
  induction k with
  | zero => intro x; rfl
  | succ k ih => intro x; exact ih (p x)
theorem fo_prB (hw : fo_wf p) : ∀ (f : Nat) (c x : Int), 0 ≤ c → c < 6 → x ∈ c :: fo_pr p f c → (0 ≤ x ∧ x < 6) ∧ fo_dp p 6 c ≤ fo_dp p 6 x ∧ fo_it p (fo_dp p 6 x - fo_dp p 6 c).toNat x = c ∧ (x = c ∨ (0 ≤ p x ∧ fo_dp p 6 c < fo_dp p 6 x)) := by
  intro f
  induction f with
  | zero =>
    intro c x h0 h6 hx
    have : x = c := by simpa [fo_pr] using hx
    subst this
    refine ⟨⟨h0, h6⟩, Int.le_refl _, ?_, Or.inl rfl⟩
    rw [Int.sub_self]
    rfl
  | succ f ih =>
    intro c x h0 h6 hx
    rcases List.mem_cons.mp hx with rfl | hx
    · refine ⟨⟨h0, h6⟩, Int.le_refl _, ?_, Or.inl rfl⟩
      rw [Int.sub_self]
      rfl
    · unfold fo_pr at hx
      obtain ⟨c', hc, hx⟩ := List.mem_flatMap.mp hx
      obtain ⟨⟨g0, g6⟩, gp⟩ := fo_mem_ch.mp hc
      obtain ⟨i1, i2, i3, i4⟩ := ih c' x g0 g6 hx
      have hd : fo_dp p 6 c' = fo_dp p 6 c + 1 := by rw [fo_dp1 hw g0 g6 (by omega), gp]
      refine ⟨i1, by omega, ?_, Or.inr ⟨?_, by omega⟩⟩
      · rw [show (fo_dp p 6 x - fo_dp p 6 c).toNat = (fo_dp p 6 x - fo_dp p 6 c').toNat + 1 by omega, fo_itS, i3, gp]
      · rcases i4 with rfl | i4
        · omega
        · exact i4.1
theorem fo_nd_fm {F : Int → List Int} : ∀ (l : List Int), l.Nodup → (∀ c ∈ l, (F c).Nodup) → (∀ a ∈ l, ∀ b ∈ l, ∀ x, x ∈ F a → x ∈ F b → a = b) → (l.flatMap F).Nodup := by
  intro l
  induction l with
  | nil => intro _ _ _; exact List.nodup_nil
  | cons a l ih =>
    intro h1 h2 h3
    rw [List.flatMap_cons, List.nodup_append]
    have h1' := List.nodup_cons.mp h1
    refine ⟨h2 a List.mem_cons_self, ih h1'.2 (fun c hc => h2 c (List.mem_cons_of_mem _ hc)) (fun c hc b hb x => h3 c (List.mem_cons_of_mem _ hc) b (List.mem_cons_of_mem _ hb) x), ?_⟩
    intro x hx y hy e
    subst e
    obtain ⟨b, hb, hy⟩ := List.mem_flatMap.mp hy
    have := h3 a List.mem_cons_self b (List.mem_cons_of_mem _ hb) x hx hy
    subst this
    exact h1'.1 hb
theorem fo_ndp (hw : fo_wf p) : ∀ (f : Nat) (t : Int), -1 ≤ t → t < 6 → (fo_pr p f t).Nodup := by
  intro f
  induction f with
  | zero => intro t _ _; exact List.nodup_nil
  | succ f ih =>
    intro t ht0 ht6
    unfold fo_pr
    refine fo_nd_fm _ fo_nd_ch ?_ ?_
    · intro c hc
      obtain ⟨⟨g0, g6⟩, gp⟩ := fo_mem_ch.mp hc
      refine List.nodup_cons.mpr ⟨?_, ih c (by omega) g6⟩
      intro hm
      cases f with
      | zero => exact absurd hm List.not_mem_nil
      | succ f =>
        unfold fo_pr at hm
        obtain ⟨c', hc', hx⟩ := List.mem_flatMap.mp hm
        obtain ⟨⟨k0, k6⟩, kp⟩ := fo_mem_ch.mp hc'
        have := (fo_prB hw f c' c k0 k6 hx).2.1
        have hd : fo_dp p 6 c' = fo_dp p 6 c + 1 := by rw [fo_dp1 hw k0 k6 (by omega), kp]
        omega
    · intro a ha b hb x hxa hxb
      obtain ⟨⟨a0, a6⟩, ap⟩ := fo_mem_ch.mp ha
      obtain ⟨⟨b0, b6⟩, bp⟩ := fo_mem_ch.mp hb
      have i1 := (fo_prB hw f a x a0 a6 hxa).2.2.1
      have i2 := (fo_prB hw f b x b0 b6 hxb).2.2.1
      have e : fo_dp p 6 a = fo_dp p 6 b := by
        by_cases h : t < 0
        · rw [fo_dp0 (by omega), fo_dp0 (by omega)]
        · rw [fo_dp1 hw a0 a6 (by omega), fo_dp1 hw b0 b6 (by omega), ap, bp]
      rw [e] at i1
      exact i1.symm.trans i2
theorem fo_len : ∀ (n : Nat) (l : List Int), l.Nodup → (∀ x ∈ l, 0 ≤ x ∧ x < n) → l.length ≤ n := by
  intro n
  induction n with
  | zero =>
    intro l _ h
    cases l with
    | nil => exact Nat.le_refl 0
    | cons a l => have := h a List.mem_cons_self; omega
  | succ n ih =>
    intro l hn h
    by_cases e : (n : Int) ∈ l
    · have h1 := ih (l.erase (n : Int)) (hn.erase _) (fun x hx => by
        have h2 := (hn.mem_erase_iff).mp hx
        have := h x h2.2
        have := h2.1
        omega)
      rw [List.length_erase_of_mem e] at h1
      omega
    · have h1 := ih l hn (fun x hx => by
        have := h x hx
        have : x ≠ n := fun q => e (q ▸ hx)
        omega)
      omega
theorem fo_pr_in (hw : fo_wf p) {f : Nat} {t x : Int} (h : x ∈ fo_pr p f t) (ht : t ≠ -2) : 0 ≤ x ∧ x < 6 ∧ p x ≠ -2 := by
  cases f with
  | zero => exact absurd h List.not_mem_nil
  | succ f =>
    unfold fo_pr at h
    obtain ⟨c, hc, hx⟩ := List.mem_flatMap.mp h
    obtain ⟨⟨g0, g6⟩, gp⟩ := fo_mem_ch.mp hc
    obtain ⟨i1, i2, i3, i4⟩ := fo_prB hw f c x g0 g6 hx
    refine ⟨i1.1, i1.2, ?_⟩
    rcases i4 with rfl | i4
    · rw [gp]; exact ht
    · omega
theorem fo_prC : ∀ (f : Nat) (t x m : Int), x ∈ fo_pr p f t → p m = x → 0 ≤ m → m < 6 → m ∈ fo_pr p (f + 1) t := by
  intro f
  induction f with
  | zero => intro t x m h _ _ _; exact absurd h List.not_mem_nil
  | succ f ih =>
    intro t x m h hp h0 h6
    unfold fo_pr at h
    obtain ⟨c, hc, hx⟩ := List.mem_flatMap.mp h
    unfold fo_pr
    refine List.mem_flatMap.mpr ⟨c, hc, ?_⟩
    rcases List.mem_cons.mp hx with rfl | hx
    · refine List.mem_cons_of_mem _ ?_
      unfold fo_pr
      exact List.mem_flatMap.mpr ⟨m, fo_mem_ch.mpr ⟨⟨h0, h6⟩, hp⟩, List.mem_cons_self⟩
    · exact List.mem_cons_of_mem _ (ih c x m hx hp h0 h6)
theorem fo_prM (hw : fo_wf p) : ∀ (k : Nat) (m : Int), 0 ≤ m → m < 6 → p m ≠ -2 → fo_dp p 6 m = k → ∀ f, k < f → m ∈ fo_pr p f (-1) := by
  intro k
  induction k with
  | zero =>
    intro m h0 h6 h2 hd f hf
    have h1 : p m < 0 := by
      by_cases h : p m < 0
      · exact h
      · have := fo_dp1 hw h0 h6 (by omega)
        have := (fo_dp_le (p := p) 6 (p m)).1
        omega
    have := (hw m h0 h6).1
    obtain ⟨f, rfl⟩ : ∃ i, f = i + 1 := ⟨f - 1, by omega⟩
    unfold fo_pr
    exact List.mem_flatMap.mpr ⟨m, fo_mem_ch.mpr ⟨⟨h0, h6⟩, by omega⟩, List.mem_cons_self⟩
  | succ k ih =>
    intro m h0 h6 h2 hd f hf
    have h1 : 0 ≤ p m := by
      by_cases h : p m < 0
      · rw [fo_dp0 h] at hd; omega
      · omega
    have hw1 := hw m h0 h6
    have hd1 := fo_dp1 hw h0 h6 h1
    have := ih (p m) h1 (by omega) (hw1.2.1 h1) (by omega) (f - 1) (by omega)
    have := fo_prC (f - 1) (-1) (p m) m this rfl h0 h6
    rwa [show f - 1 + 1 = f by omega] at this
/-- the order of the walk: all members that are there, each once -/
theorem fo_all (hw : fo_wf p) : (fo_pr p 6 (-1)).Nodup ∧ (∀ m, m ∈ fo_pr p 6 (-1) ↔ 0 ≤ m ∧ m < 6 ∧ p m ≠ -2) ∧ (fo_pr p 6 (-1)).length ≤ 6 := by
  have h1 := fo_ndp hw 6 (-1) (by decide) (by decide)
  have h2 : ∀ m, m ∈ fo_pr p 6 (-1) ↔ 0 ≤ m ∧ m < 6 ∧ p m ≠ -2 := by
    intro m
    refine ⟨fun h => fo_pr_in hw h (by decide), fun h => ?_⟩
    have h3 := fo_dp5 hw h.1 h.2.1 h.2.2
    have h4 := (fo_dp_le (p := p) 6 m).1
    exact fo_prM hw (fo_dp p 6 m).toNat m h.1 h.2.1 h.2.2 (by omega) 6 (by omega)
  exact ⟨h1, h2, fo_len 6 _ h1 (fun x hx => by have := (h2 x).mp hx; exact ⟨this.1, by omega⟩)⟩
end FO
