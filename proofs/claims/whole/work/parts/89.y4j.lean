/-! Forests that change: a leaf more, a branch moved, a leaf less. -/
section FW
variable {p p' : Int → Int} {s m b : Int}
theorem fo_rcn {k : Nat} {x : Int} (h : x < 0) : fo_rc p k x = true := by
  cases k with
  | zero => exact decide_eq_true h
  | succ k => exact if_pos h
theorem fo_rc_ls (h : Int → Nat) (hp : ∀ m, 0 ≤ m → m < 6 → 0 ≤ p m → p m < 6 ∧ h (p m) < h m) : ∀ (k : Nat) (m : Int), 0 ≤ m → m < 6 → fo_rc p k m = false → ∃ l : List Int, l.Nodup ∧ l.length = k + 1 ∧ ∀ x ∈ l, (0 ≤ x ∧ x < 6) ∧ h x ≤ h m := by
  intro k
  induction k with
  | zero =>
    intro m m0 m6 _
    refine ⟨[m], by simp, rfl, fun x hx => ?_⟩
    have : x = m := by simpa using hx
    subst this
    exact ⟨⟨m0, m6⟩, Nat.le_refl _⟩
  | succ k ih =>
    intro m m0 m6 hm
    have hm' : fo_rc p k (p m) = false := by
      unfold fo_rc at hm
      rw [if_neg (by omega)] at hm
      exact hm
    have h0 : 0 ≤ p m := by
      by_cases z : p m < 0
      · rw [fo_rcn z] at hm'
        exact absurd hm' (by decide)
      · omega
    obtain ⟨l, l1, l2, l3⟩ := ih (p m) h0 (hp m m0 m6 h0).1 hm'
    have hlt := (hp m m0 m6 h0).2
    refine ⟨m :: l, List.nodup_cons.mpr ⟨fun q => ?_, l1⟩, by rw [List.length_cons, l2], fun x hx => ?_⟩
    · have := (l3 m q).2
      omega
    · rcases List.mem_cons.mp hx with rfl | hx
      · exact ⟨⟨m0, m6⟩, Nat.le_refl _⟩
      · have := l3 x hx
        exact ⟨this.1, by omega⟩
theorem fo_wf_of (h : Int → Nat) (hp : ∀ m, 0 ≤ m → m < 6 → (-2 ≤ p m ∧ p m ≤ 5) ∧ (0 ≤ p m → p (p m) ≠ -2 ∧ h (p m) < h m)) : fo_wf p := by
  intro m m0 m6
  refine ⟨(hp m m0 m6).1, fun q => ((hp m m0 m6).2 q).1, fun _ => ?_⟩
  cases hc : fo_rc p 6 m with
  | true => rfl
  | false =>
    obtain ⟨l, l1, l2, l3⟩ := fo_rc_ls h (fun m m0 m6 q => ⟨by have := (hp m m0 m6).1; omega, ((hp m m0 m6).2 q).2⟩) 6 m m0 m6 hc
    have := fo_len 6 l l1 (fun x hx => (l3 x hx).1)
    omega
theorem fo_wf_add (hw : fo_wf p) (hs : 0 ≤ s ∧ s < 6) (hps : p s = -2) (hb : b = -1 ∨ (0 ≤ b ∧ b < 6 ∧ p b ≠ -2)) (h : ∀ x, 0 ≤ x → x < 6 → p' x = if x = s then b else p x) : fo_wf p' := by
  refine fo_wf_of (fun x => if x = s then 100 else (fo_dp p 6 x).toNat) fun m m0 m6 => ?_
  have hd := fun x => fo_dp_le (p := p) 6 x
  have hm := hw m m0 m6
  rw [h m m0 m6]
  by_cases z : m = s
  · rw [if_pos z]
    refine ⟨by omega, fun q => ?_⟩
    rcases hb with hb | hb
    · omega
    · have e : b ≠ s := fun y => by rw [y] at hb; exact hb.2.2 hps
      rw [h b hb.1 hb.2.1, if_neg e]
      refine ⟨hb.2.2, ?_⟩
      show (if b = s then 100 else (fo_dp p 6 b).toNat) < (if m = s then 100 else (fo_dp p 6 m).toNat)
      rw [if_neg e, if_pos z]
      have := hd b
      omega
  · rw [if_neg z]
    refine ⟨hm.1, fun q => ?_⟩
    have hq := hm.2.1 q
    have e : p m ≠ s := fun y => by rw [y] at hq; exact hq hps
    rw [h (p m) q (by omega), if_neg e]
    refine ⟨hq, ?_⟩
    show (if p m = s then 100 else (fo_dp p 6 (p m)).toNat) < (if m = s then 100 else (fo_dp p 6 m).toNat)
    rw [if_neg e, if_neg z, fo_dp1 hw m0 m6 q]
    have := hd (p m)
    omega
theorem fo_wf_dr (hw : fo_wf p) (hs : ∀ x, 0 ≤ x → x < 6 → p x ≠ s) (h : ∀ x, 0 ≤ x → x < 6 → p' x = if x = s then -2 else p x) : fo_wf p' := by
  refine fo_wf_of (fun x => (fo_dp p 6 x).toNat) fun m m0 m6 => ?_
  have hd := fun x => fo_dp_le (p := p) 6 x
  have hm := hw m m0 m6
  rw [h m m0 m6]
  by_cases z : m = s
  · rw [if_pos z]
    exact ⟨by decide, fun q => absurd q (by decide)⟩
  · rw [if_neg z]
    refine ⟨hm.1, fun q => ?_⟩
    rw [h (p m) q (by omega), if_neg (hs m m0 m6)]
    refine ⟨hm.2.1 q, ?_⟩
    show (fo_dp p 6 (p m)).toNat < (fo_dp p 6 m).toNat
    rw [fo_dp1 hw m0 m6 q]
    have := hd (p m)
    omega
theorem sp_in_it (hw : fo_wf p) (hm : 0 ≤ m) : ∀ (k : Nat) (x : Int), x < 6 → fo_rc p k x = true → ∀ j, fo_it p j x = m → (∀ i, i ≤ j → 0 ≤ fo_it p i x) → sp_in p m k x = true := by
  intro k
  induction k with
  | zero =>
    intro x x6 hr j hj hi
    have := hi 0 (Nat.zero_le _)
    unfold fo_rc at hr
    have : fo_it p 0 x = x := rfl
    have := of_decide_eq_true hr
    omega
  | succ k ih =>
    intro x x6 hr j hj hi
    have x0 : 0 ≤ x := hi 0 (Nat.zero_le _)
    unfold sp_in
    rw [if_neg (by omega)]
    by_cases e : x = m
    · rw [if_pos e]
    · rw [if_neg e]
      cases j with
      | zero => exact absurd hj e
      | succ j =>
        unfold fo_rc at hr
        rw [if_neg (by omega)] at hr
        have := (hw x x0 x6).1
        exact ih (p x) (by omega) hr j hj (fun i hij => hi (i + 1) (by omega))
theorem fo_hi (C : Int → Prop) (a : Int → Nat) : ∃ h : Int → Nat, (∀ x, C x → h x = a x + 100) ∧ ∀ x, ¬ C x → h x = a x := by
  classical
  exact ⟨fun x => if C x then a x + 100 else a x, fun x c => if_pos c, fun x c => if_neg c⟩
theorem fo_wf_mv (hw : fo_wf p) (hs : 0 ≤ s ∧ s < 6) (hb : b = -1 ∨ (0 ≤ b ∧ b < 6 ∧ p b ≠ -2)) (hin : ¬ sp_in p s 6 b = true) (h : ∀ x, 0 ≤ x → x < 6 → p' x = if x = s then b else p x) : fo_wf p' := by
  obtain ⟨H, H1, H2⟩ := fo_hi (fun x => ∃ j, fo_it p j x = s ∧ ∀ i, i ≤ j → 0 ≤ fo_it p i x) (fun x => (fo_dp p 6 x).toNat)
  refine fo_wf_of H fun m m0 m6 => ?_
  have hd := fun x => fo_dp_le (p := p) 6 x
  have hm := hw m m0 m6
  have hss : ∃ j, fo_it p j s = s ∧ ∀ i, i ≤ j → 0 ≤ fo_it p i s := ⟨0, rfl, fun i hi => by
    obtain rfl : i = 0 := by omega
    exact hs.1⟩
  rw [h m m0 m6]
  by_cases z : m = s
  · rw [if_pos z]
    refine ⟨by omega, fun q => ?_⟩
    rcases hb with hb | hb
    · omega
    · have hbn : ¬ ∃ j, fo_it p j b = s ∧ ∀ i, i ≤ j → 0 ≤ fo_it p i b := fun ⟨j, j1, j2⟩ => hin (sp_in_it hw hs.1 6 b hb.2.1 ((hw b hb.1 hb.2.1).2.2 hb.2.2) j j1 j2)
      have e : b ≠ s := fun y => hbn (by rw [y]; exact hss)
      rw [h b hb.1 hb.2.1, if_neg e]
      refine ⟨hb.2.2, ?_⟩
      rw [H2 b hbn, z, H1 s hss]
      have := hd b
      omega
  · rw [if_neg z]
    refine ⟨hm.1, fun q => ?_⟩
    have hq := hm.2.1 q
    have hpp : p' (p m) ≠ -2 := by
      rw [h (p m) q (by omega)]
      split
      · rcases hb with hb | hb <;> omega
      · exact hq
    refine ⟨hpp, ?_⟩
    have hiff : (∃ j, fo_it p j m = s ∧ ∀ i, i ≤ j → 0 ≤ fo_it p i m) ↔ ∃ j, fo_it p j (p m) = s ∧ ∀ i, i ≤ j → 0 ≤ fo_it p i (p m) := by
      constructor
      · rintro ⟨j, j1, j2⟩
        cases j with
        | zero => exact absurd j1 z
        | succ j => exact ⟨j, j1, fun i hi => j2 (i + 1) (by omega)⟩
      · rintro ⟨j, j1, j2⟩
        refine ⟨j + 1, j1, fun i hi => ?_⟩
        cases i with
        | zero => exact m0
        | succ i => exact j2 i (by omega)
    have := hd (p m)
    by_cases y : ∃ j, fo_it p j m = s ∧ ∀ i, i ≤ j → 0 ≤ fo_it p i m
    · rw [H1 m y, H1 (p m) (hiff.mp y), fo_dp1 hw m0 m6 q]
      omega
    · rw [H2 m y, H2 (p m) (fun q => y (hiff.mpr q)), fo_dp1 hw m0 m6 q]
      omega
theorem fo_wf_ag (h : fo_ag p p') (hw : fo_wf p) : fo_wf p' := by
  refine fo_wf_of (fun x => (fo_dp p 6 x).toNat) fun m m0 m6 => ?_
  have hd := fun x => fo_dp_le (p := p) 6 x
  have hm := hw m m0 m6
  rw [← h m m0 m6]
  refine ⟨hm.1, fun q => ?_⟩
  rw [← h (p m) q (by omega)]
  refine ⟨hm.2.1 q, ?_⟩
  show (fo_dp p 6 (p m)).toNat < (fo_dp p 6 m).toNat
  rw [fo_dp1 hw m0 m6 q]
  have := hd (p m)
  omega
theorem sp_fr_n (h : rt_many p < 6) : p (sp_fr p) = -2 := by
  unfold sp_fr
  split
  · assumption
  · split
    · assumption
    · split
      · assumption
      · split
        · assumption
        · split
          · assumption
          · refine Decidable.byContradiction fun q => ?_
            unfold rt_many fo_rg at h
            rw [List.filter_cons_of_pos (by simp_all), List.filter_cons_of_pos (by simp_all), List.filter_cons_of_pos (by simp_all), List.filter_cons_of_pos (by simp_all), List.filter_cons_of_pos (by simp_all), List.filter_cons_of_pos (by simp_all)] at h
            simp only [List.filter_nil, List.length_cons, List.length_nil] at h
            omega
end FW
section JT
variable {μ μ' : mm_M} {e m l c v r z : Int}
/-- arranging keeps a tree in range -/
theorem tr_arr_tw (hw : fo_wf (μ (mm_tr z + 1))) (h2 : ∀ j, 0 ≤ j → j < 6 → 0 ≤ μ (mm_tr z + 2) j ∧ μ (mm_tr z + 2) j ≤ 4) (h3 : ∀ j, 0 ≤ j → j < 6 → 0 ≤ μ (mm_tr z + 3) j ∧ μ (mm_tr z + 3) j ≤ 5) (h5 : ∀ j, 0 ≤ j → j < 6 → 0 ≤ μ (mm_tr z + 5) j ∧ μ (mm_tr z + 5) j ≤ 5) (h6 : 0 ≤ μ (mm_tr z) 6 ∧ μ (mm_tr z) 6 ≤ 6) : mm_tw (tr_arr z μ) z := by
  have ha := fo_all hw
  have hL := fo_Lin hw
  have hb := mm_tr_b (z := z)
  obtain ⟨k1, k2, k3, k4, k5⟩ := tr_arr_ok hw
  have hr := tr_arr_row (z := z) (μ := μ) hw (b := mm_tr z + 1) (by omega) (by omega) (by omega) (by omega)
  obtain ⟨i1, i2, i3, i4, i5, i6⟩ := tr_fold (z := z) (p := μ (mm_tr z + 1)) trivial (fo_pr (μ (mm_tr z + 1)) 6 (-1)) (mm_u (mm_fi μ (mm_tr z + 4) 6 (-1)) (mm_tr z) 5 0) ha.1 (fun m hm => by have := (ha.2.1 m).mp hm; omega)
  rw [hr] at k2 k4
  refine ⟨fun j j0 j6 => ⟨?_, ?_, ?_, ?_, ?_⟩, ?_, ?_⟩
  · rw [hr]; exact (hw j j0 j6).1
  · rw [tr_arr_row hw (by omega) (by omega) (by omega) (by omega)]; exact h2 j j0 j6
  · unfold tr_arr
    rw [i6 j]
    split
    · rename_i q
      have := (ha.2.1 j).mp q
      have h5 := fo_dp5 hw j0 j6 this.2.2
      have := fo_dp_le (p := μ (mm_tr z + 1)) 6 j
      omega
    · rw [mm_uu (by omega), mm_fi_ne (by omega)]
      exact h3 j j0 j6
  · rw [k4 j j0 j6]
    split
    · rename_i q
      have := List.idxOf_lt_length_of_mem q
      omega
    · omega
  · unfold tr_arr
    rw [i4 j]
    split
    · rename_i q
      rw [mm_us] at q ⊢
      have hlt : (j - 0).toNat < (fo_L (μ (mm_tr z + 1))).length := by
        have : j < 0 + ((fo_L (μ (mm_tr z + 1))).length : Int) := q.2
        omega
      have := (hL.2.1 _).mp (List.getElem_mem hlt)
      show 0 ≤ (fo_L (μ (mm_tr z + 1))).getD (j - 0).toNat (-1) ∧ (fo_L (μ (mm_tr z + 1))).getD (j - 0).toNat (-1) ≤ 5
      rw [List.getD_eq_getElem?_getD, List.getElem?_eq_getElem hlt]
      show 0 ≤ (fo_L (μ (mm_tr z + 1)))[(j - 0).toNat] ∧ (fo_L (μ (mm_tr z + 1)))[(j - 0).toNat] ≤ 5
      omega
    · rw [mm_uu (by omega), mm_fi_ne (by omega)]
      exact h5 j j0 j6
  · rw [k2]
    omega
  · rw [tr_arr_fld hw (by decide)]
    exact h6
/-- one dimension's trees changed -/
theorem J_t_1 (he : 0 ≤ e ∧ e < 3) (h : J_t μ) (hc : ∀ b, 35 ≤ b → b ≤ 52 → (b < mm_tr e ∨ mm_tr e + 5 < b) → μ' b = μ b) (h0 : ∀ j, j < 6 * e ∨ 6 * e + 6 ≤ j → μ' 130 j = μ 130 j ∧ μ' 131 j = μ 131 j ∧ μ' 132 j = μ 132 j ∧ μ' 133 j = μ 133 j) (h4 : ∀ j, j ≠ e → μ' 134 j = μ 134 j)
    (hn : tr_ok μ' e ∧ mm_tw μ' e ∧ rt_ok μ' e ∧ fo_ag (μ' (mm_tr e + 1)) (rp μ' e) ∧ (∀ m, 0 ≤ m → m < 6 → rp μ' e m ≠ -2 → μ' (mm_tr e + 2) m = μ' 132 (6 * e + m)) ∧ μ' (mm_tr e) 6 = rt_many (rp μ' e)) : J_t μ' := by
  intro x x0 x1
  by_cases z : x = e
  · rw [z]; exact hn
  have hx := h x x0 x1
  have r1 := mm_tr_r ⟨x0, x1⟩
  have ha : ∀ k, k ≤ 5 → μ' (mm_tr x + k) = μ (mm_tr x + k) := fun k hk => hc _ (by omega) (by omega) (by
    have t0 : mm_tr 0 = 35 := by decide
    have t1 : mm_tr 1 = 41 := by decide
    have t2 : mm_tr 2 = 47 := by decide
    rcases (by omega : e = 0 ∨ e = 1 ∨ e = 2) with y | y | y <;> rcases (by omega : x = 0 ∨ x = 1 ∨ x = 2) with u | u | u <;> rw [y, u] <;> (first | rw [t0] | rw [t1] | rw [t2]) <;> omega)
  have hj : ∀ m, 0 ≤ m → m < 6 → 6 * x + m < 6 * e ∨ 6 * e + 6 ≤ 6 * x + m := fun m m0 m6 => by omega
  have hag : fo_ag (rp μ x) (rp μ' x) := fun m m0 m6 => by
    unfold rp
    rw [(h0 _ (hj m m0 m6)).1, (h0 _ (hj m m0 m6)).2.1]
  obtain ⟨⟨a1, a2, a3, a4, a5⟩, b, ⟨c1, c2, c3, c4⟩, d, f, g⟩ := hx
  have hL : fo_L (rp μ' x) = fo_L (rp μ x) := (ag_L hag).symm
  have e0 := ha 0 (by omega)
  rw [Nat.add_zero] at e0
  refine ⟨?_, ?_, ⟨fo_wf_ag hag c1, fun m m0 m6 => ?_, ?_, fun j j0 jl => ?_⟩, fun m m0 m6 => ?_, fun m m0 m6 q => ?_, ?_⟩
  · unfold tr_ok
    rw [e0, ha 1 (by omega), ha 3 (by omega), ha 4 (by omega), ha 5 (by omega)]
    exact ⟨a1, a2, a3, a4, a5⟩
  · unfold mm_tw
    rw [e0, ha 1 (by omega), ha 2 (by omega), ha 3 (by omega), ha 4 (by omega), ha 5 (by omega)]
    exact b
  · rw [(h0 _ (hj m m0 m6)).1, (h0 _ (hj m m0 m6)).2.1]
    exact c2 m m0 m6
  · rw [h4 x z, hL, c3]
  · rw [hL] at jl ⊢
    have := (fo_Lin c1).2.2
    rw [(h0 _ (hj j j0 (by omega))).2.2.2]
    exact c4 j j0 jl
  · rw [ha 1 (by omega), ← hag m m0 m6]
    exact d m m0 m6
  · rw [← hag m m0 m6] at q
    rw [ha 2 (by omega), (h0 _ (hj m m0 m6)).2.2.1]
    exact f m m0 m6 q
  · rw [e0, g]
    unfold rt_many
    congr 1
    refine congrArg List.length (List.filter_congr fun m hm => ?_)
    have := fo_mem_rg.mp hm
    rw [hag m this.1 this.2]
end JT
