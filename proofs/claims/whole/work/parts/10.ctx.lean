/-! What holds all through a method, at a point of it, and at its end. -/
def am_xn (k : Nat) : String := ["java/util/NoSuchElementException", "java/lang/IllegalArgumentException", "java/lang/IllegalStateException"].getD k ""
/-- a static field of references, its cell below sz -/
def am_Sta (sz : Nat) (o n d : String) (s : State) : Prop := ∃ (c : ClassId) (k : Class) (fi : Nat) (f : Field) (a : Nat) (cell : Cell) (v : Value), s.vm.findClass o = some c ∧ s.fieldFound? o n d = some (c, k, fi, f) ∧ f.isStatic = true ∧ k.statics = some a ∧ s.heap[a]? = some cell ∧ cell.vm.isStatics = true ∧ cell.cls = c ∧ f.slot < cell.slots.size ∧ k.staticTypes[f.slot]? = some f.type ∧ a < sz ∧ cell.slots[f.slot]? = some v ∧ (v = .null ∨ ∃ r, v = .ref r)
theorem am_Sta.moved {sz : Nat} {o n d : String} {u U : State} (hvm : u.vm.Alike U.vm) (hq : ∀ a, a < sz → U.heap[a]? = u.heap[a]?) (h : am_Sta sz o n d u) : am_Sta sz o n d U := by
  obtain ⟨c, k, fi, f, a, cell, v, h1, h2, h3, h4, h5, h6, h7, h8, h9, h10, h11⟩ := h
  obtain ⟨k', hi', he⟩ := State.fieldFound?_setVm hvm h2
  exact ⟨c, k', fi, f, a, cell, v, by rw [hvm.findClass]; exact h1, hi', h3, by rw [he]; exact h4, by rw [hq a h10]; exact h5, h6, h7, h8, by rw [he]; exact h9, h10, h11⟩
theorem am_Sta.lays {sz : Nat} {o n d : String} {s : State} (h : am_Sta sz o n d s) (args : Array Value) : (Cond.laysStatic o n d).before args s = true := by
  obtain ⟨c, k, fi, f, a, cell, v, h1, h2, h3, h4, h5, h6, h7, h8, h9, h10, h11⟩ := h
  simp [Cond.before, Cond.holds, Cond.value, h1, h2, h3, h4, h5, h6, h7, h8, h9]
theorem am_Sta.isRef {sz : Nat} {o n d : String} {s : State} (h : am_Sta sz o n d s) (args : Array Value) : (Cond.isRef (.static o n d)).before args s = true := by
  obtain ⟨c, k, fi, f, a, cell, v, h1, h2, h3, h4, h5, h6, h7, h8, h9, h10, h11, h12⟩ := h
  have he : (Term.static o n d).eval args s none [] s = some v := by simp [Term.eval, State.fieldNamed?, h2, h3, h4, h5, h6, h11]
  rcases h12 with rfl | ⟨r, rfl⟩ <;> simp [Cond.before, Cond.holds, Cond.value, he]
def am_strl : List (String × Nat × String × Nat) := [("ModelSheet$Pad", 13, "0123456789+-*/?:()xyz<>^$", 2), ("ModelSheet$Reader", 78, "xyz", 3), ("ModelSheet$Reader", 90, "012345<>^$", 4), ("ModelSheet$Amount", 63, "empty", 5), ("ModelSheet$Amount", 69, "ring", 6), ("ModelSheet$Amount", 71, "over", 7), ("ModelSheet$Amount", 73, "div", 8)]
/-- the static fields that are read, by their codes -/
def am_stl : List (Nat × String × String × String) := [(1, "ModelSheet", "SPAN", "[I"), (19, "java/lang/Integer", "DigitOnes", "[B"), (20, "java/lang/Integer", "DigitTens", "[B"), (101, "java/lang/String", "COMPACT_STRINGS", "Z"), (102, "jdk/internal/util/Preconditions", "SIOOBE_FORMATTER", "Ljava/util/function/BiFunction;")]
def am_stv (i : Nat → Nat) (dI : Nat → Nat → Nat) (k : Nat) : Value := if k = 101 then .int 1 else if k = 102 then am_zr dI else .ref (i k)
/-- the class of texts -/
def am_KS (dC : Nat → ClassId) (dI : Nat → Nat → Nat) (s : State) : Prop := s.vm.findClass "java/lang/String" = some (dC 13) ∧ am_OA dI s ∧ ∀ k, k < 2 → ∃ (cf : ClassId) (kf : Class) (fi : Nat) (f : Field), s.fieldFound? (am_uT 13 k).1 (am_uT 13 k).2.1 (am_uT 13 k).2.2.1 = some (cf, kf, fi, f) ∧ f.isStatic = false ∧ f.slot = dI 13 k
theorem am_KS.moved {dC : Nat → ClassId} {dI : Nat → Nat → Nat} {u U : State} (hvm : u.vm.Alike U.vm) (h : am_KS dC dI u) : am_KS dC dI U := by
  refine ⟨by rw [hvm.findClass]; exact h.1, h.2.1.moved hvm, fun k hk => ?_⟩
  obtain ⟨cf, kf, fi, f, h1, h2, h3⟩ := h.2.2 k hk
  obtain ⟨kf', hi', -⟩ := State.fieldFound?_setVm (s := u) hvm h1
  exact ⟨cf, kf', fi, f, hi', h2, h3⟩
def am_GL (i : Nat → Nat) (sz : Nat) (dC : Nat → ClassId) (dI : Nat → Nat → Nat) (s : State) : Prop := am_Sta sz "java/lang/Throwable" "UNASSIGNED_STACK" "[Ljava/lang/StackTraceElement;" s ∧ am_Sta sz "java/lang/Throwable" "SUPPRESSED_SENTINEL" "Ljava/util/List;" s ∧ ((∀ q ∈ am_stl, va_Z q.2.1 q.2.2.1 q.2.2.2 (am_stv i dI q.1) (fun q => sz ≤ q) s s.heap) ∧ am_KS dC dI s) ∧ ∀ q ∈ am_strl, vk_R q.1 q.2.1 q.2.2.1 (i q.2.2.2) s
theorem am_Z_keep {C n d : String} {v : Value} {sz : Nat} {U : State} {H H1 : Heap} (h : va_Z C n d v (fun q => sz ≤ q) U H) (hq : ∀ a, a < sz → H1[a]? = H[a]?) : va_Z C n d v (fun q => sz ≤ q) U H1 := h.kept fun a _ ha => hq a (by omega)
theorem am_GL.moved {i : Nat → Nat} {sz : Nat} {dC : Nat → ClassId} {dI : Nat → Nat → Nat} {u U : State} (hW : u.WarmedH U.vm) (hq : ∀ a, a < sz → U.heap[a]? = u.heap[a]?) (h : am_GL i sz dC dI u) : am_GL i sz dC dI U := ⟨h.1.moved hW.alike hq, h.2.1.moved hW.alike hq, ⟨fun q hm => am_Z_keep ((h.2.2.1.1 q hm).moved hW.alike) hq, h.2.2.1.2.moved hW.alike⟩, fun q hm => vk_R.warm hW (h.2.2.2 q hm)⟩
/-- words on the exceptions -/
def am_txw : List Cond := [.declares ⟨"java/lang/RuntimeException", "<init>", "()V"⟩, .declares ⟨"java/lang/Exception", "<init>", "()V"⟩, .declares ⟨"java/lang/Throwable", "<init>", "()V"⟩]
def am_TX (s : State) : Prop := (∀ x ∈ [(⟨"java/lang/RuntimeException", "<init>", "()V"⟩ : MethodName), ⟨"java/lang/Exception", "<init>", "()V"⟩, ⟨"java/lang/Throwable", "<init>", "()V"⟩], va_Nw (.declares x) s) ∧ (∀ k, k < 3 → va_Nw (.castable (am_xn k) (am_xn k)) s) ∧ ∀ j k, j < 3 → k < 3 → j ≠ k → (Cond.not (.castable (am_xn j) (am_xn k))).before #[] s = true
theorem am_TX.moved {u U : State} (hW : u.WarmedH U.vm) (h : am_TX u) : am_TX U := by
  refine ⟨fun x hx => va_Nw.warmD hW (h.1 x hx), fun k hk => va_Nw.warmC hW (h.2.1 k hk), fun j k hj hk hne => ?_⟩
  have h1 := h.2.2 j k hj hk hne
  have e : ∀ V : State, (Cond.not (.castable (am_xn j) (am_xn k))).before #[] V = true ↔ (Cond.castable (am_xn j) (am_xn k)).value #[] V none V [] = some false := fun V => Cond.holds_not_iff
  rw [e] at h1 ⊢
  simp only [Cond.value] at h1 ⊢
  rw [hW.alike.findClass, hW.alike.findClass]
  cases hc1 : u.vm.findClass (am_xn j) with
  | none => rw [hc1] at h1; simp at h1
  | some c1 =>
    cases hc2 : u.vm.findClass (am_xn k) with
    | none => rw [hc1, hc2] at h1; simp at h1
    | some c2 =>
      rw [hc1, hc2] at h1
      simp only at h1 ⊢
      rw [hW.alike.assignable]
      exact h1
def am_NS (sz : Nat) (H : Heap) : Prop := ∀ (q : Nat) (cell : Cell), sz ≤ q → H[q]? = some cell → cell.vm.isStatics = false
def am_Ctx (i : Nat → Nat) (sz : Nat) (dC : Nat → ClassId) (dI : Nat → Nat → Nat) (cA : FieldType → ClassId) (d P : Nat) (p : Program) (R : Room) (s : State) (m : MethodId) (args : Array Value) (meth : Method) (c : Code) : Prop :=
  p.tables.exec = Jvm.exec ∧ c.code = am_b P ∧ meth.sig.returnType = am_t P ∧ c.maxLocals = am_m P ∧ s.vm.findClass (am_n (am_o P)) = some m.cls ∧ (∀ w ∈ am_ws, w.before args s = true) ∧ meth.locks = false ∧ meth.name = (am_y P).name ∧
  c.exceptionTable.toList.map (fun h => (h.startPc, h.endPc, h.handlerPc, h.catchType)) = (am_h P).map (fun r => (r.1, r.2.1, r.2.2.1, r.2.2.2.1)) ∧ (60 * d + 400 ≤ R.locals ∧ d + 20 ≤ R.frames) ∧ am_KK dC dI cA s ∧ am_XW s ∧ am_TX s ∧ am_GL i sz dC dI s ∧ P < 318
def am_V (i : Nat → Nat) (sz : Nat) (dC : Nat → ClassId) (dI : Nat → Nat → Nat) (cA : FieldType → ClassId) (s : State) (R : Room) (B1 B2 : Nat) (g : am_G) (H : Heap) (locs : List Loc) (cells slots : Nat) : Prop :=
  am_R i dC dI cA g H ∧ (∀ q, q < sz → H[q]? = s.heap[q]?) ∧ (∀ q ∈ locs, sz ≤ q.base) ∧ cells + g.2.2.1 ≤ B1 ∧ slots + g.2.2.2 ≤ B2 ∧ B1 ≤ R.cells ∧ B2 ≤ R.slots ∧ am_NS sz H
/-- an exception's cell -/
def am_Ex (k a : Nat) (vm : Vm) (H : Heap) : Prop := k < 3 ∧ ∃ cell : Cell, H[a]? = some cell ∧ cell.vm.isStatics = false ∧ vm.findClass (am_xn k) = some cell.cls
def am_Or (i : Nat → Nat) (s : State) (o : am_Ou) (oc : Outcome) (H : Heap) : Prop := match o with
  | .inl v => oc = .returned (v.map (am_v i))
  | .inr (k, a) => oc = .threw (i a) ∧ am_Ex k (i a) s.vm H
def am_Z (i : Nat → Nat) (sz : Nat) (dC : Nat → ClassId) (dI : Nat → Nat → Nat) (cA : FieldType → ClassId) (s : State) (below : List Frame) (B1 B2 : Nat) (Q : am_Ou → am_G → Prop) (t : State) : Prop :=
  ∃ (o : am_Ou) (g : am_G) (oc : Outcome) (L : List Loc) (k n : Nat), t.status = .running ∧ Ended t below oc ∧ am_Or i s o oc t.heap ∧ s.WarmedH t.vm ∧ s.sameButNew ({ t with vm := s.vm } : State) L k n ∧ (∀ q ∈ L, sz ≤ q.base) ∧ am_R i dC dI cA g t.heap ∧ (∀ q, q < sz → t.heap[q]? = s.heap[q]?) ∧ am_NS sz t.heap ∧ k + g.2.2.1 ≤ B1 ∧ n + g.2.2.2 ≤ B2 ∧ Q o g
def am_SC (i : Nat → Nat) (sz : Nat) (dC : Nat → ClassId) (dI : Nat → Nat → Nat) (cA : FieldType → ClassId) (d M : Nat) (as : List Value) (g : am_G) (Q : am_Ou → am_G → Prop) : Prop :=
  ∀ (p : Program) (l : Launch) (e : Env) (R : Room) (s : State) (m : MethodId) (below : List Frame) (meth : Method) (c : Code) (T : State), e.platform.stackTraces = false → am_Ctx i sz dC dI cA d M p R s m (as.map (am_v i)).toArray meth c → Stand p l e R s m (as.map (am_v i)).toArray below meth c T [] 0 0 → T.heap = s.heap → am_R i dC dI cA g s.heap → am_NS sz s.heap → g.2.2.1 ≤ R.cells → g.2.2.2 ≤ R.slots →
    ∃ t, Steps p.tables e below (T.setTop (entryFrame m (as.map (am_v i)).toArray (am_m M))) t ∧ am_Z i sz dC dI cA s below g.2.2.1 g.2.2.2 Q t
section AMX
variable {i : Nat → Nat} {sz : Nat} {dC : Nat → ClassId} {dI : Nat → Nat → Nat} {cA : FieldType → ClassId} {g g1 : am_G} {H H1 : Heap} {s : State} {R : Room} {B1 B2 cells slots : Nat} {locs : List Loc}
theorem am_at_ns {a : Nat} {q : am_A} (h : am_at i dC dI cA a q H) : ∃ cell : Cell, H[i a]? = some cell ∧ cell.vm.isStatics = false := by
  have hs : ∀ cell : Cell, (∀ k, cell.vm ≠ .statics k) → cell.vm.isStatics = false := by
    intro cell h1
    cases e : cell.vm <;> simp [VmData.isStatics]
    exact absurd e (h1 _)
  unfold am_at at h
  rcases q with ⟨ty, n, x⟩ | ⟨ci, V⟩
  · obtain ⟨-, ⟨-, h2⟩ | ⟨-, -, cell, h4, f', -, -, h7, -⟩⟩ := h
    · refine ⟨_, h2, ?_⟩
      unfold vp_cell
      dsimp only
      split <;> rfl
    · exact ⟨cell, h4, hs cell h7.1⟩
  · obtain ⟨-, cell, h1, h2, ⟨h3, -⟩, -⟩ := h
    exact ⟨cell, h1, hs cell h3.1⟩
theorem am_NS.grow (hi : am_II i sz) (h : am_NS sz H) (hR : am_R i dC dI cA g H) (hR1 : am_R i dC dI cA g1 H1) (hold : ∀ x, x < H.size → H1[x]? = H[x]?) (hle : g.2.1 ≤ g1.2.1) (htr : ∀ b, g.2.1 ≤ b → b < g1.2.1 → ∃ q, g1.1 b = some q) : am_NS sz H1 := by
  intro q cell hq hc
  rcases Nat.lt_or_ge q H.size with h1 | h1
  · rw [hold q h1] at hc
    exact h q cell hq hc
  · have h2 : q < H1.size := (Array.getElem?_eq_some_iff.mp hc).1
    rw [hR.2.1, hi.2.1 _ hR.2.2] at h1
    rw [hR1.2.1, hi.2.1 _ hR1.2.2] at h2
    have e : i (q - sz + 32) = q := by rw [hi.2.1 _ (by omega)]; omega
    have := hR.2.2
    obtain ⟨z, hz⟩ := htr (q - sz + 32) (by omega) (by omega)
    obtain ⟨cell2, h3, h4⟩ := am_at_ns (hR1.1 _ _ hz).2
    rw [e] at h3
    cases hc.symm.trans h3
    exact h4
theorem am_NS.set (h : am_NS sz H) {a : Nat} {q : am_A} (ha : am_at i dC dI cA a q H1) (ho : ∀ x, x ≠ i a → H1[x]? = H[x]?) : am_NS sz H1 := by
  intro x cell hx hc
  by_cases e : x = i a
  · subst e
    obtain ⟨cell2, h3, h4⟩ := am_at_ns ha
    cases hc.symm.trans h3
    exact h4
  · rw [ho x e] at hc
    exact h x cell hx hc
/-- behind a write to a cell that is its own -/
theorem am_V.put (hi : am_II i sz) (h : am_V i sz dC dI cA s R B1 B2 g H locs cells slots) {a z : Nat} (ha : 32 ≤ a) (hR : am_R i dC dI cA g1 H1) (hg : g1.2 = g.2) (htr : ∃ q, g1.1 a = some q) (ho : ∀ q, q ≠ i a → H1[q]? = H[q]?) : am_V i sz dC dI cA s R B1 B2 g1 H1 (locs ++ [⟨i a, z⟩]) cells slots := by
  obtain ⟨h1, h2, h3, h4, h5, h6, h7, h8⟩ := h
  obtain ⟨q, hq⟩ := htr
  refine ⟨hR, fun q hq => ?_, fun q hq => ?_, by rw [hg]; exact h4, by rw [hg]; exact h5, h6, h7, h8.set (hR.1 _ _ hq).2 ho⟩
  · rw [ho q (fun e => by have := hi.ge ha; omega)]; exact h2 q hq
  · rcases List.mem_append.mp hq with h9 | h9
    · exact h3 q h9
    · rw [List.mem_singleton.mp h9]; exact hi.ge ha
/-- behind an instruction that makes cells -/
theorem am_V.new (hi : am_II i sz) (h : am_V i sz dC dI cA s R B1 B2 g H locs cells slots) {k n : Nat} (hR : am_R i dC dI cA g1 H1) (hold : ∀ x, x < H.size → H1[x]? = H[x]?) (hle : g.2.1 ≤ g1.2.1) (htr : ∀ b, g.2.1 ≤ b → b < g1.2.1 → ∃ q, g1.1 b = some q) (hk : k ≤ g.2.2.1) (hn : n ≤ g.2.2.2) (e1 : g1.2.2.1 = g.2.2.1 - k) (e2 : g1.2.2.2 = g.2.2.2 - n) : am_V i sz dC dI cA s R B1 B2 g1 H1 locs (cells + k) (slots + n) := by
  obtain ⟨h1, h2, h3, h4, h5, h6, h7, h8⟩ := h
  refine ⟨hR, fun q hq => ?_, h3, by omega, by omega, h6, h7, h8.grow hi h1 hR hold hle htr⟩
  rw [hold q (by rw [h1.2.1, hi.2.1 _ h1.2.2]; omega)]; exact h2 q hq
end AMX
