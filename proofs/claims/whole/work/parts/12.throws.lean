/-! Exceptions: made and thrown, passed on, caught. -/
theorem am_reroot {p : Program} {l : Launch} {e : Env} {R : Room} {s : State} {m : MethodId} {args : Array Value} {below : List Frame} {meth : Method} {c : Code} {T : State} {locs : List Loc} {cells slots : Nat} (X : Stand p l e R s m args below meth c T locs cells slots) (hc : cells ≤ R.cells) (hs : slots ≤ R.slots) :
    Stand p l e { R with cells := R.cells - cells, slots := R.slots - slots } { s with heap := T.heap, slotsUsed := T.slotsUsed } m args below meth c T [] 0 0 := by
  have hr := X.room
  have h1 := X.heapSize
  have h2 := X.used
  have h3 := X.book
  refine ⟨X.admits, X.cas, X.clock, X.frames, ?_, X.hears, X.method, X.code, X.here, X.tail, X.warmed, X.limits, X.bytes, ?_⟩
  · simp only [State.hasRoom, Bool.and_eq_true, decide_eq_true_eq] at hr ⊢
    obtain ⟨⟨⟨a1, a2⟩, a3⟩, a4⟩ := hr
    refine ⟨⟨⟨a1, ?_⟩, ?_⟩, h3⟩
    · omega
    · omega
  · refine ⟨X.same.1, Nat.le_refl _, Nat.le_refl _, ?_, ?_, fun a c hc => ⟨c, hc, rfl, rfl, fun _ _ => rfl⟩⟩
    · show T.slotsUsed = T.slotsUsed + _
      have : (T.heap.toList.drop T.heap.size) = [] := List.drop_eq_nil_of_le (by simp)
      show T.slotsUsed = T.slotsUsed + ((T.heap.toList.drop T.heap.size).map (fun c => c.slots.size)).sum
      rw [this]; rfl
    · have : (T.heap.toList.drop T.heap.size) = [] := List.drop_eq_nil_of_le (by simp)
      show ((T.heap.toList.drop T.heap.size).map (fun c => c.slots.size)).sum ≤ 0
      rw [this]; exact Nat.le_refl _
theorem am_frames_eq {s A : State} (k1 : A = { s.setFrames A.frames with heap := A.heap, slotsUsed := A.slotsUsed }) (F : List Frame) (h : Heap) (u : Nat) : ({ A.setFrames F with heap := h, slotsUsed := u } : State) = { s.setFrames F with heap := h, slotsUsed := u } := by
  obtain ⟨fs, hh, uu, rfl⟩ : ∃ (fs : List Frame) (hh : Heap) (uu : Nat), A = { s.setFrames fs with heap := hh, slotsUsed := uu } := ⟨_, _, _, k1⟩
  have e : ({ s.setFrames fs with heap := hh, slotsUsed := uu } : State).setFrames F = { (s.setFrames fs).setFrames F with heap := hh, slotsUsed := uu } := rfl
  rw [e, State.setFrames_setFrames]
def am_ups : List String := ["java/lang/RuntimeException", "java/lang/Exception"]
def am_thSp (k : Nat) : List Cond := [.laysStatic "java/lang/Throwable" "UNASSIGNED_STACK" "[Ljava/lang/StackTraceElement;", .laysStatic "java/lang/Throwable" "SUPPRESSED_SENTINEL" "Ljava/util/List;", .isRef (.static "java/lang/Throwable" "UNASSIGNED_STACK" "[Ljava/lang/StackTraceElement;"), .isRef (.static "java/lang/Throwable" "SUPPRESSED_SENTINEL" "Ljava/util/List;"), .declares ⟨"java/lang/RuntimeException", "<init>", "()V"⟩, .declares ⟨"java/lang/Exception", "<init>", "()V"⟩, .declares ⟨"java/lang/Throwable", "<init>", "()V"⟩, .castable (am_xn k) (am_xn k)]
def am_ckX (o : Nat) (r : Nat × Nat × Nat × Nat) : Bool := decide (r.2.1 < 3) && decide (lw_tbl[r.2.2.2]? = some (Cond.classLink (am_n o) r.1 (am_xn r.2.1))) && decide (Cond.initialized (am_xn r.2.1) ∈ lw_tbl) && decide (Cond.instantiable (am_xn r.2.1) 6 ∈ lw_tbl) && (Bundle.ownAtoms0 (am_n o) r.2.2.1 (am_xn r.2.1) am_ups).all (fun w => (decide (w ∈ lw_tbl) && goodWord w) || decide (w ∈ am_thSp r.2.1))
set_option maxRecDepth 100000 in
theorem am_kX : ((List.range 32).all fun o => (am_tX.getD o []).all (am_ckX o)) = true := by decide +kernel
theorem am_xwF {P k : Nat} {q : Nat × Nat} (hP : P < 318) (h : am_xw P k = some q) : q.1 < 3 ∧ Cond.classLink (am_n (am_o P)) k (am_xn q.1) ∈ am_ws ∧ Cond.initialized (am_xn q.1) ∈ am_ws ∧ Cond.instantiable (am_xn q.1) 6 ∈ am_ws ∧ ∀ w ∈ Bundle.ownAtoms0 (am_n (am_o P)) q.2 (am_xn q.1) am_ups, w ∈ am_ws ∨ w ∈ am_thSp q.1 := by
  unfold am_xw at h
  obtain ⟨r, h1, rfl⟩ := Option.map_eq_some_iff.mp h
  obtain ⟨h2, h3⟩ := am_find h1
  have h4 := List.all_eq_true.mp (List.all_eq_true.mp am_kX (am_o P) (List.mem_range.mpr (am_Mf hP).2.2.2.1)) r h2
  simp only [am_ckX, Bool.and_eq_true, decide_eq_true_eq] at h4
  obtain ⟨⟨⟨⟨g1, g2⟩, g3⟩, g4⟩, g5⟩ := h4
  have h8 : r.1 = k := by simpa using h3
  subst h8
  refine ⟨g1, am_mem _ g2 rfl, List.mem_filter.mpr ⟨g3, rfl⟩, List.mem_filter.mpr ⟨g4, rfl⟩, fun w hw => ?_⟩
  have h5 := List.all_eq_true.mp g5 w hw
  simp only [Bool.or_eq_true, Bool.and_eq_true, decide_eq_true_eq] at h5
  rcases h5 with h5 | h5
  · exact Or.inl (List.mem_filter.mpr h5)
  · exact Or.inr h5
section AMT
variable {i : Nat → Nat} {sz : Nat} {dC : Nat → ClassId} {dI : Nat → Nat → Nat} {cA : FieldType → ClassId} {g g1 : am_G} {B1 B2 : Nat}
variable {p : Program} {l : Launch} {e : Env} {R : Room} {s : State} {m : MethodId} {args : Array Value} {below : List Frame} {meth : Method} {c : Code} {T : State} {H : Heap} {locs : List Loc} {cells slots : Nat} {Q : am_Ou → am_G → Prop}
variable {P d pc : Nat} {ls : Array Slot} {rest : List Value}
theorem am_w_throw (htr : e.platform.stackTraces = false) (hi : am_II i sz) (hx : am_Ctx i sz dC dI cA d P p R s m args meth c) (hV : am_V i sz dC dI cA s R B1 B2 g H locs cells slots) {idx : Nat} {q : Nat × Nat} (hq : am_xw P idx = some q) (hh : am_h P = []) (hsz : ls.size = am_m P) (hrest : rest.length ≤ 4) (hb1 : 1 ≤ g.2.2.1) (hb2 : 6 ≤ g.2.2.2)
    (hd0 : decode (am_b P) pc = .ok (.new idx, 3)) (hd3 : decode (am_b P) (pc + 3) = .ok (.dup, 1)) (hd4 : decode (am_b P) (pc + 4) = .ok (.invokespecial q.2, 3)) (hd7 : decode (am_b P) (pc + 7) = .ok (.athrow, 1))
    (hQ : Q (.inr (q.1, g.2.1)) (g.1, g.2.1 + 1, g.2.2.1 - 1, g.2.2.2 - 6)) : W p l e R s m args below meth c H locs cells slots (am_Z i sz dC dI cA s below B1 B2 Q) (F0 m pc ls rest) := by
  obtain ⟨x1, x2, x3, x4, x5, x6, x7, x8, x9, x10, x11, x12, x13, x14, x15⟩ := hx
  obtain ⟨v1, v2, v3, v4, v5, v6, v7, v8⟩ := hV
  obtain ⟨hk3, hlk, hini, hins, hat⟩ := am_xwF x15 hq
  intro T hT X
  subst hT
  have X' := am_reroot X (by omega) (by omega)
  generalize hs' : ({ s with heap := T.heap, slotsUsed := T.slotsUsed } : State) = s' at X'
  have hvm : s'.vm = s.vm := by rw [← hs']
  have hhp : s'.heap = T.heap := by rw [← hs']
  have hW0 : s.WarmedH s'.vm := by rw [hvm]; exact State.WarmedH.refl s
  have hts : ∀ w ∈ am_ws, w.before args s' = true := am_ws_at hW0 x6
  have hGL : am_GL i sz dC dI s' := x14.moved hW0 (fun a ha => by rw [hhp]; exact v2 a ha)
  have hTX : am_TX s' := x13.moved hW0
  have hown : s'.vm.findClass (am_n (am_o P)) = some m.cls := by rw [hvm]; exact x5
  have hatoms : ∀ w ∈ Bundle.ownAtoms0 (am_n (am_o P)) q.2 (am_xn q.1) am_ups, w.before args s' = true := by
    intro w hw
    rcases hat w hw with h | h
    · exact hts w h
    · simp only [am_thSp, List.mem_cons, List.not_mem_nil, or_false] at h
      rcases h with rfl | rfl | rfl | rfl | rfl | rfl | rfl | rfl
      · exact hGL.1.lays args
      · exact hGL.2.1.lays args
      · exact hGL.1.isRef args
      · exact hGL.2.1.isRef args
      · exact va_Nw.use rfl (hTX.1 _ (by decide))
      · exact va_Nw.use rfl (hTX.1 _ (by decide))
      · exact va_Nw.use rfl (hTX.1 _ (by decide))
      · exact va_Nw.use rfl (hTX.2.1 _ hk3)
  obtain ⟨cX, kX, hfX, hkX, -⟩ := Cond.instantiable_spec (hts _ hins)
  have hout : ∀ x ∈ c.exceptionTable.toList, covers x (pc + 7) = false := by
    rw [hh] at x9
    have h0 : c.exceptionTable.toList = [] := List.map_eq_nil_iff.mp x9
    rw [h0]; intro x hx; cases hx
  have hcat := am_sum_cat rest
  have key : W p l e { R with cells := R.cells - cells, slots := R.slots - slots } s' m args below meth c T.heap [] 0 0 (fun U => U.status = .running ∧ Ended U below (.threw T.heap.size) ∧ s'.WarmedH U.vm ∧ s'.sameButNew ({ U with vm := s'.vm } : State) [] (0 + 1) (0 + 6) ∧ ∃ ce, U.heap[T.heap.size]? = some ce ∧ ce.vm = .none ∧ s'.vm.findClass (am_xn q.1) = some ce.cls) (F0 m pc ls rest) := by
    refine W.newcK x1 x2 hown (hts _ hlk) (hts _ hins) (hts _ hini) rfl hd0 (by show 0 + 1 ≤ R.cells - cells; omega) (by show 0 + 6 ≤ R.slots - slots; omega) hfX rfl fun H1 kC hkC e1 z1 o1 => ?_
    refine lv_dup (pc := pc + 3) x1 x2 hd3 rfl ?_
    intro T2 hT2 X2
    obtain ⟨U, h1, h2, h3, h4, h5, ce, h6, h7⟩ := X2.ctorThrow0 x1 htr (own := am_n (am_o P)) (cls := am_xn q.1) (names := am_ups) (ic := q.2) hown (by
        have : q.1 = 0 ∨ q.1 = 1 ∨ q.1 = 2 := by omega
        rcases this with h | h | h <;> rw [h] <;> decide +kernel) (by decide +kernel) hatoms (fun x hx => by cases hx) hfX hkC (a := T.heap.size) (by rw [hT2]; exact e1) (by rw [hhp]; exact Nat.le_refl _) (g := F0 m (pc + 3 + 1) ls (.ref T.heap.size :: .ref T.heap.size :: rest)) rfl (by rw [x4]; exact hsz) rfl rfl (rest := rest) rfl (by rw [x2]; exact hd4) (by rw [x2]; exact hd7) hout (by show 2 + 3 < R.frames; omega) (by
        show 2 * 0 + ((Value.ref T.heap.size :: rest).map fun v => v.category).sum + (13 * (2 + 1) + 41) ≤ R.locals
        simp only [List.map_cons, List.sum_cons]
        have : (Value.ref T.heap.size).category = 1 := rfl
        omega) (hlocks := x7)
    exact ⟨U, h1, h2, h3, h4, h5, ce, h6, h7.vm, h7.cls⟩
  obtain ⟨U, st, h1, h2, h3, h4, ce, h5, h6, h7⟩ := key T rfl X'
  refine ⟨U, st, ?_⟩
  have hold : ∀ x, x < T.heap.size → U.heap[x]? = T.heap[x]? := by
    intro x hx
    obtain ⟨-, -, -, -, -, h9⟩ := h4
    have hc : T.heap[x]? = some T.heap[x] := Array.getElem?_eq_getElem hx
    obtain ⟨c', g1, g2, g3, g4⟩ := h9 x T.heap[x] (by rw [hhp]; exact hc)
    have g1 : U.heap[x]? = some c' := g1
    rw [g1, hc, g2]
    have : c'.slots = T.heap[x].slots := Array.ext_getElem? fun j => g4 j (by simp)
    rw [this]
  have hUs : U.heap.size = T.heap.size + 1 := by
    have g1 : U.heap.size ≤ T.heap.size + 1 := by
      have := h4.2.2.1
      rw [hhp] at this
      exact this
    have g2 : T.heap.size < U.heap.size := (Array.getElem?_eq_some_iff.mp h5).1
    omega
  have hWU : s.WarmedH U.vm := by
    have : s'.WarmedH U.vm := h3
    rw [← hs'] at this
    exact this
  have hsame : s.sameButNew ({ U with vm := s.vm } : State) locs (cells + 1) (slots + 6) := by
    have hA : (T.setVm s.vm).sameButNew ({ U with vm := s.vm } : State) [] 1 6 := by
      obtain ⟨g1, g2, g3, g4, g5, g6⟩ := h4
      rw [hhp] at g2 g3 g4 g5 g6
      have gu : s'.slotsUsed = T.slotsUsed := by rw [← hs']
      rw [gu] at g4
      refine ⟨?_, g2, g3, g4, g5, g6⟩
      rw [hvm] at g1
      refine g1.trans ?_
      rw [am_frames_eq X.same.1, ← hs']
      rfl
    have hB := X.same.trans hA
    rw [List.append_nil] at hB
    exact hB
  refine ⟨.inr (q.1, g.2.1), _, .threw T.heap.size, locs, cells + 1, slots + 6, h1, h2, ⟨by rw [v1.2.1], hk3, ce, by rw [← v1.2.1]; exact h5, by rw [h6]; rfl, by rw [← hvm]; exact h7⟩, hWU, hsame, v3, ?_, fun x hx => ?_, ?_, by show cells + 1 + (g.2.2.1 - 1) ≤ _; omega, by show slots + 6 + (g.2.2.2 - 6) ≤ _; omega, hQ⟩
  · refine ⟨fun b r hb => ?_, ?_, Nat.le_succ_of_le v1.2.2⟩
    · obtain ⟨k1, k2⟩ := v1.1 b r hb
      exact ⟨Nat.lt_succ_of_lt k1, k2.kept (hold _ (by rw [v1.2.1]; exact hi.lt k1 v1.2.2))⟩
    · show U.heap.size = i (g.2.1 + 1)
      rw [hUs, v1.2.1, hi.succ v1.2.2]
  · rw [hold x (by rw [v1.2.1, hi.2.1 _ v1.2.2]; omega)]; exact v2 x hx
  · intro x cell hx hc
    rcases Nat.lt_or_ge x T.heap.size with h | h
    · rw [hold x h] at hc; exact v8 x cell hx hc
    · have : x < U.heap.size := (Array.getElem?_eq_some_iff.mp hc).1
      obtain rfl : x = T.heap.size := by omega
      cases hc.symm.trans h5
      rw [h6]; rfl
end AMT
