/-! A callee's exception: caught by a row of the method's own table, or passed on. -/
def am_ckH (r : Nat × List (Nat × Nat × Nat × Nat × Nat)) : Bool := r.2.all fun h => decide (h.2.2.2.2 < 3) && decide (h.2.2.2.1 ≠ 0) && decide (Cond.classLink (am_n (am_o r.1)) h.2.2.2.1 (am_xn h.2.2.2.2) ∈ lw_tbl)
set_option maxRecDepth 100000 in
theorem am_kH : (am_H.all am_ckH) = true := by decide +kernel
theorem am_hF {P : Nat} {r : Nat × Nat × Nat × Nat × Nat} (h : r ∈ am_h P) : r.2.2.2.2 < 3 ∧ r.2.2.2.1 ≠ 0 ∧ Cond.classLink (am_n (am_o P)) r.2.2.2.1 (am_xn r.2.2.2.2) ∈ am_ws := by
  unfold am_h at h
  cases e : am_H.find? (fun r => r.1 == P) with
  | none => rw [e] at h; simp at h
  | some q =>
    rw [e] at h
    obtain ⟨h1, h2⟩ := am_find e
    have h3 : q.1 = P := by simpa using h2
    have h4 := List.all_eq_true.mp (List.all_eq_true.mp am_kH q h1) r (by simpa using h)
    simp only [Bool.and_eq_true, decide_eq_true_eq] at h4
    rw [h3] at h4
    exact ⟨h4.1.1, h4.1.2, List.mem_filter.mpr ⟨h4.2, rfl⟩⟩
section AMT
variable {i : Nat → Nat} {sz : Nat} {dC : Nat → ClassId} {dI : Nat → Nat → Nat} {cA : FieldType → ClassId} {g : am_G} {B1 B2 : Nat}
variable {p : Program} {l : Launch} {e : Env} {R : Room} {s : State} {m : MethodId} {args : Array Value} {below : List Frame} {meth : Method} {c : Code} {T : State} {locs : List Loc} {cells slots : Nat} {Q : am_Ou → am_G → Prop}
variable {P d pc : Nat} {ls : Array Slot} {rest : List Value}
theorem am_passed (hx : am_Ctx i sz dC dI cA d P p R s m args meth c) (X : Stand p l e R s m args below meth c T locs cells slots) {k : Nat} {thrown : ClassId} (hk : k < 3) (ht : s.vm.findClass (am_xn k) = some thrown) {y : ExceptionTableEntry} {r : Nat × Nat × Nat × Nat × Nat} (hr : r ∈ am_h P) (he : (y.startPc, y.endPc, y.handlerPc, y.catchType) = (r.1, r.2.1, r.2.2.1, r.2.2.2.1))
    (hno : ¬ (decide (r.1 ≤ pc) && decide (pc < r.2.1) && r.2.2.2.2 == k) = true) : RowPassed e.platform s m.cls pc thrown y := by
  obtain ⟨x1, x2, x3, x4, x5, x6, x7, x8, x9, x10, x11, x12, x13, x14, x15⟩ := hx
  obtain ⟨h1, h2, h3⟩ := am_hF hr
  simp only [Prod.mk.injEq] at he
  obtain ⟨e1, e2, e3, e4⟩ := he
  by_cases hc : covers y pc = true
  · have hkk : r.2.2.2.2 ≠ k := by
      intro q
      apply hno
      simp only [covers, Bool.and_eq_true, decide_eq_true_eq] at hc
      simp only [Bool.and_eq_true, decide_eq_true_eq, beq_iff_eq]
      rw [← e1, ← e2]
      exact ⟨hc, q⟩
    have hpl : e.platform.magicAccessors = ({} : Platform).magicAccessors := by rw [X.admits.platform]
    exact RowPassed.of_words (args := args) hpl x5 (by rw [e4]; exact h2) (name := am_xn r.2.2.2.2) (by rw [e4]; exact x6 _ h3) ht (x13.2.2 k r.2.2.2.2 hk h1 (fun q => hkk q.symm))
  · exact Or.inl (by simpa using hc)
theorem am_caught (hx : am_Ctx i sz dC dI cA d P p R s m args meth c) (X : Stand p l e R s m args below meth c T locs cells slots) {k a hp : Nat} (hE : am_Ex k (i a) s.vm T.heap) (hh : am_hd P pc k = some hp) :
    ∃ vm', Stand p l e R s m args below meth c (T.setVm vm') locs cells slots ∧ ∀ target, Steps p.tables e below ((T.setVm vm').setTop (F0 m hp ls [.ref (i a)])) target → Steps p.tables e below ((T.setTop (F0 m pc ls rest)).pushFrame (.throwing (i a))) target := by
  have hx' := hx
  obtain ⟨x1, x2, x3, x4, x5, x6, x7, x8, x9, x10, x11, x12, x13, x14, x15⟩ := hx
  obtain ⟨hk, cell, hcell, hst, hfc⟩ := hE
  unfold am_hd at hh
  obtain ⟨r, h1, h2⟩ := Option.map_eq_some_iff.mp hh
  obtain ⟨h3, as, bs, h4, h5⟩ := List.find?_eq_some_iff_append.mp h1
  rw [h4, List.map_append, List.map_cons] at x9
  obtain ⟨pre, tl, e1, e2, e3⟩ := List.map_eq_append_iff.mp x9
  obtain ⟨x, post, e4, e5, e6⟩ := List.map_eq_cons_iff.mp e3
  subst e4
  have hr : r ∈ am_h P := by rw [h4]; simp
  obtain ⟨g1, g2, g3⟩ := am_hF hr
  simp only [Prod.mk.injEq] at e5
  obtain ⟨y1, y2, y3, y4⟩ := e5
  simp only [Bool.and_eq_true, decide_eq_true_eq, beq_iff_eq] at h3
  obtain ⟨⟨h31, h32⟩, h33⟩ := h3
  obtain ⟨c3, c4, w1, w2, w3⟩ := Cond.castable_spec (x13.2.1 k hk)
  cases w1.symm.trans w2
  have w4 : c3 = cell.cls := Option.some.inj (w1.symm.trans hfc)
  obtain ⟨hcat, hk0⟩ := X.catches_of_link (own := am_n (am_o P)) (name := am_xn k) x5 (x := x) (by rw [y4]; exact g2) (by rw [y4]; rw [h33] at g3; exact x6 _ g3) w1 (thrown := cell.cls) (by rw [← w4]; exact w3)
  obtain ⟨vm', XV, st⟩ := X.caughtThrough (i a) (g := F0 m pc ls rest) rfl hcell hst hk0 pre x post e1 (fun y hy => by
    have hy2 : (y.startPc, y.endPc, y.handlerPc, y.catchType) ∈ as.map (fun r => (r.1, r.2.1, r.2.2.1, r.2.2.2.1)) := by
      rw [← e2]; exact List.mem_map.mpr ⟨y, hy, rfl⟩
    obtain ⟨r', hr', he⟩ := List.mem_map.mp hy2
    exact am_passed hx' X hk hfc (r := r') (by rw [h4]; exact List.mem_append_left _ hr') he.symm (fun q => by have h6 := h5 r' hr'; rw [q] at h6; cases h6)) (by simp only [covers, Bool.and_eq_true, decide_eq_true_eq]; rw [y1, y2]; exact ⟨h31, h32⟩) hcat
  refine ⟨vm', XV, fun target h => ?_⟩
  rw [X.pushThrowing_eq]
  refine st target ?_
  have : x.handlerPc = hp := by rw [y3]; exact h2
  rw [this]
  exact h
theorem am_outOf (hi : am_II i sz) (hx : am_Ctx i sz dC dI cA d P p R s m args meth c) (X : Stand p l e R s m args below meth c T locs cells slots) (hV : am_V i sz dC dI cA s R B1 B2 g T.heap locs cells slots) {k a : Nat} (hE : am_Ex k (i a) s.vm T.heap) (hh : am_hd P pc k = none) (hQ : Q (.inr (k, a)) g) :
    ∃ t, Steps p.tables e below ((T.setTop (F0 m pc ls rest)).pushFrame (.throwing (i a))) t ∧ am_Z i sz dC dI cA s below B1 B2 Q t := by
  have hx' := hx
  obtain ⟨x1, x2, x3, x4, x5, x6, x7, x8, x9, x10, x11, x12, x13, x14, x15⟩ := hx
  have hE' := hE
  obtain ⟨hk, cell, hcell, hst, hfc⟩ := hE
  obtain ⟨c3, c4, w1, w2, w3⟩ := Cond.castable_spec (x13.2.1 k hk)
  have w4 : c3 = cell.cls := Option.some.inj (w1.symm.trans hfc)
  obtain ⟨kk, hkk⟩ := Vm.classAt_of_findClass hfc
  unfold am_hd at hh
  have hnone := List.find?_eq_none.mp (Option.map_eq_none_iff.mp hh)
  obtain ⟨vm', hW', XV, st⟩ := X.outThrough x7 (i a) (g := F0 m pc ls rest) rfl rfl rfl hcell hst ⟨kk, hkk⟩ (fun y hy => by
    have hy2 : (y.startPc, y.endPc, y.handlerPc, y.catchType) ∈ (am_h P).map (fun r => (r.1, r.2.1, r.2.2.1, r.2.2.2.1)) := by
      rw [← x9]; exact List.mem_map.mpr ⟨y, hy, rfl⟩
    obtain ⟨r', hr', he⟩ := List.mem_map.mp hy2
    exact am_passed hx' X hk hfc hr' he.symm (hnone r' hr'))
  obtain ⟨v1, v2, v3, v4, v5, v6, v7, v8⟩ := hV
  obtain ⟨ge1, ge2⟩ := XV.ends (.throwing (i a) :: below)
  have hcur : (T.setVm vm').cur < (T.setVm vm').threads.size := by
    obtain ⟨g₀, hfr⟩ := XV.frames_eq
    exact State.cur_lt_of_frames hfr
  refine ⟨_, by rw [X.pushThrowing_eq]; exact st, .inr (k, a), g, .threw (i a), locs, cells, slots, ?_, State.frames_setFrames _ hcur, ⟨rfl, hE'⟩, ge1, ge2, v3, v1, v2, v8, v4, v5, hQ⟩
  exact XV.here.running
end AMT
