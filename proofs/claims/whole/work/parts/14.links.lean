/-! The links of calls; a call of a method of ours, whole; natives and the object's own beginning; statics and constants. -/
theorem am_ivF {P k : Nat} {q : Nat × Nat × Nat} (hP : P < 318) (h : am_iv P k = some q) : ∃ w, am_ckI (am_o P) (k, q.1, q.2.1, q.2.2, w) = true := by
  unfold am_iv at h
  obtain ⟨r, h1, rfl⟩ := Option.map_eq_some_iff.mp h
  obtain ⟨h2, h3⟩ := am_find h1
  have h4 := am_kI (am_o P) (am_Mf hP).2.2.2.1 r h2
  have h8 : r.1 = k := by simpa using h3
  subst h8
  exact ⟨r.2.2.2.2, h4⟩
theorem am_iv0 {P k M n : Nat} (hP : P < 318) (h : am_iv P k = some (0, M, n)) : Cond.methodLink (am_n (am_o P)) k (am_y M) ∈ am_ws ∧ Cond.static (am_y M) ∈ am_ws ∧ am_NP.getD M 0 = n ∧ M < 318 ∧ 1 ≤ M ∧ am_o M ≠ 21 := by
  obtain ⟨w, h⟩ := am_ivF hP h
  simp only [am_ckI, Bool.and_eq_true, decide_eq_true_eq] at h
  obtain ⟨⟨⟨⟨⟨h1, h2⟩, h3⟩, h4⟩, h5⟩, h6⟩ := h
  exact ⟨am_mem _ h1 rfl, am_mem _ h2 rfl, h3, h4, h5, h6⟩
theorem am_iv1 {P k M n : Nat} (hP : P < 318) (h : am_iv P k = some (1, M, n)) : Cond.methodLink (am_n (am_o P)) k (am_y M) ∈ am_ws ∧ Cond.instanceMethod (am_y M) ∈ am_ws ∧ Cond.selects (am_y M).cls (am_y M) (am_y M) ∈ am_ws ∧ am_NP.getD M 0 + 1 = n ∧ M < 318 ∧ 1 ≤ M ∧ am_o M ≠ 21 := by
  obtain ⟨w, h⟩ := am_ivF hP h
  simp only [am_ckI, Bool.and_eq_true, decide_eq_true_eq] at h
  obtain ⟨⟨⟨⟨⟨⟨h1, h2⟩, h0⟩, h3⟩, h4⟩, h5⟩, h6⟩ := h
  exact ⟨am_mem _ h1 rfl, am_mem _ h2 rfl, am_mem _ h0 rfl, h3, h4, h5, h6⟩
theorem am_iv2 {P k M n : Nat} (hP : P < 318) (h : am_iv P k = some (2, M, n)) : Cond.methodLink (am_n (am_o P)) k (am_y M) ∈ am_ws ∧ Cond.instanceMethod (am_y M) ∈ am_ws ∧ (am_y M).name = "<init>" ∧ am_NP.getD M 0 + 1 = n ∧ M < 318 ∧ 1 ≤ M ∧ am_o M ≠ 21 := by
  obtain ⟨w, h⟩ := am_ivF hP h
  simp only [am_ckI, Bool.and_eq_true, decide_eq_true_eq] at h
  obtain ⟨⟨⟨⟨⟨⟨h1, h2⟩, h0⟩, h3⟩, h4⟩, h5⟩, h6⟩ := h
  exact ⟨am_mem _ h1 rfl, am_mem _ h2 rfl, h0, h3, h4, h5, h6⟩
theorem am_iv5 {P k M n : Nat} (hP : P < 318) (h : am_iv P k = some (5, M, n)) : Cond.methodLinkNest (am_n (am_o P)) k (am_y M) "ModelSheet" ∈ lw_tbl ∧ Cond.instanceMethod (am_y M) ∈ am_ws ∧ (am_y M).name = "<init>" ∧ am_NP.getD M 0 + 1 = n ∧ M < 318 ∧ 1 ≤ M ∧ am_o M ≠ 21 := by
  obtain ⟨w, h⟩ := am_ivF hP h
  simp only [am_ckI, Bool.and_eq_true, decide_eq_true_eq] at h
  obtain ⟨⟨⟨⟨⟨⟨h1, h2⟩, h0⟩, h3⟩, h4⟩, h5⟩, h6⟩ := h
  exact ⟨List.mem_of_getElem? h1, am_mem _ h2 rfl, h0, h3, h4, h5, h6⟩
theorem am_iv3 {P k M n : Nat} (hP : P < 318) (h : am_iv P k = some (3, M, n)) : Cond.methodLink (am_n (am_o P)) k objectInit ∈ am_ws ∧ Cond.instanceMethod objectInit ∈ am_ws := by
  obtain ⟨w, h⟩ := am_ivF hP h
  simp only [am_ckI, Bool.and_eq_true, decide_eq_true_eq] at h
  obtain ⟨h1, h2⟩ := h
  exact ⟨am_mem _ h1 rfl, am_mem _ h2 rfl⟩
theorem am_iv4 {P k M n : Nat} (hP : P < 318) (h : am_iv P k = some (4, M, n)) : Cond.methodLink (am_n (am_o P)) k arraycopyName ∈ am_ws ∧ Cond.static arraycopyName ∈ am_ws := by
  obtain ⟨w, h⟩ := am_ivF hP h
  simp only [am_ckI, Bool.and_eq_true, decide_eq_true_eq] at h
  obtain ⟨h1, h2⟩ := h
  exact ⟨am_mem _ h1 rfl, am_mem _ h2 rfl⟩
theorem am_iv6 {P k M n : Nat} (hP : P < 318) (h : am_iv P k = some (6, M, n)) : Cond.methodLink (am_n (am_o P)) k (am_y M) ∈ am_ws ∧ Cond.instanceMethod (am_y M) ∈ am_ws ∧ Cond.selects "java/lang/StringBuilder" (am_y M) (am_y M) ∈ am_ws ∧ am_NP.getD M 0 + 1 = n ∧ M < 318 ∧ 1 ≤ M ∧ am_o M ≠ 21 := by
  obtain ⟨w, h⟩ := am_ivF hP h
  simp only [am_ckI, Bool.and_eq_true, decide_eq_true_eq] at h
  obtain ⟨⟨⟨⟨⟨⟨h1, h2⟩, h0⟩, h3⟩, h4⟩, h5⟩, h6⟩ := h
  exact ⟨am_mem _ h1 rfl, am_mem _ h2 rfl, am_mem _ h0 rfl, h3, h4, h5, h6⟩
theorem am_iv7 {P k M n : Nat} (hP : P < 318) (h : am_iv P k = some (7, M, n)) : Cond.methodLink (am_n (am_o P)) k (am_y M) ∈ am_ws ∧ Cond.instanceMethod (am_y M) ∈ am_ws ∧ am_NP.getD M 0 + 1 = n ∧ M < 318 ∧ 1 ≤ M ∧ am_o M ≠ 21 := by
  obtain ⟨w, h⟩ := am_ivF hP h
  simp only [am_ckI, Bool.and_eq_true, decide_eq_true_eq] at h
  obtain ⟨⟨⟨⟨⟨⟨⟨h1, h2⟩, h0⟩, h3⟩, h4⟩, h5⟩, h6⟩, -⟩ := h
  exact ⟨am_mem _ h1 rfl, am_mem _ h2 rfl, h3, h4, h5, h6⟩
set_option maxRecDepth 100000 in
theorem am_kPv : ((List.range 32).all fun o => (am_tI.getD o []).all fun r => r.2.1 != 7 || decide (r.2.2.1 ∈ am_pvt)) = true := by decide +kernel
theorem am_iv7c {P k M n : Nat} (hP : P < 318) (h : am_iv P k = some (7, M, n)) : M ∈ am_pvt := by
  unfold am_iv at h
  obtain ⟨r, h1, h0⟩ := Option.map_eq_some_iff.mp h
  obtain ⟨h2, h3⟩ := am_find h1
  have h4 := List.all_eq_true.mp (List.all_eq_true.mp am_kPv (am_o P) (List.mem_range.mpr (am_Mf hP).2.2.2.1)) r h2
  simp only [Prod.mk.injEq] at h0
  obtain ⟨g1, g2, g3⟩ := h0
  rw [g1, g2] at h4
  simpa using h4
theorem am_iv8 {P k M n : Nat} (hP : P < 318) (h : am_iv P k = some (8, M, n)) : Cond.methodLink (am_n (am_o P)) k (am_y M) ∈ am_ws ∧ Cond.instanceMethod (am_y M) ∈ am_ws ∧ Cond.sameMethod (am_y M).cls (am_y M).cls (am_y M).name (am_y M).desc ∈ am_ws ∧ am_NP.getD M 0 + 1 = n ∧ M < 318 ∧ 1 ≤ M ∧ am_o M ≠ 21 ∧ (am_y M).cls = "java/lang/AbstractStringBuilder" ∧ (am_y M).name ≠ "<init>" ∧ am_n (am_o P) = "java/lang/StringBuilder" := by
  obtain ⟨w, h⟩ := am_ivF hP h
  simp only [am_ckI, Bool.and_eq_true, decide_eq_true_eq] at h
  obtain ⟨⟨⟨⟨⟨⟨⟨⟨⟨h1, h2⟩, h0⟩, h3⟩, h4⟩, h5⟩, h6⟩, h7⟩, h8⟩, h9⟩ := h
  exact ⟨am_mem _ h1 rfl, am_mem _ h2 rfl, am_mem _ h0 rfl, h3, h4, h5, h6, h7, h8, h9⟩
set_option maxRecDepth 100000 in
theorem am_supw : Cond.superclass "java/lang/StringBuilder" "java/lang/AbstractStringBuilder" ∈ lw_tbl := by decide +kernel
theorem am_named {M : Nat} (h1 : 1 ≤ M) (h2 : M < 318) {args : Array Value} {s : State} (hts : ∀ w ∈ am_ws, w.before args s = true) : ∃ mk, s.methodNamed? (am_y M) = some mk := by
  have hw := hts _ (am_kD M h1 h2)
  unfold am_cw at hw
  by_cases e : am_h M = []
  · rw [if_pos e] at hw
    exact Cond.code_named hw
  · rw [if_neg e] at hw
    obtain ⟨m9, meth, c, hn9, -⟩ := Cond.codeWith_spec hw
    exact ⟨m9, hn9⟩
set_option maxRecDepth 100000 in
theorem am_ini_h : (am_Ini.all fun M => decide (am_h M = []) && decide (am_t M = none)) = true := by decide +kernel
theorem am_ini_c {M : Nat} (h1 : 1 ≤ M) (h2 : M < 318) (hn : (am_y M).name = "<init>") : Cond.code (am_y M) (am_b M) (am_m M) none ∈ am_ws := by
  have h3 : am_ini M = true := by rw [(am_Mf h2).2.2.2.2.2.2]; exact decide_eq_true hn
  have h4 := List.all_eq_true.mp am_ini_h M (by unfold am_ini at h3; exact List.contains_iff_mem.mp h3)
  simp only [Bool.and_eq_true, decide_eq_true_eq] at h4
  have h5 := am_kD M h1 h2
  unfold am_cw at h5
  rw [if_pos h4.1, h4.2] at h5
  exact h5
section AMK
variable {i : Nat → Nat} {sz : Nat} {dC : Nat → ClassId} {dI : Nat → Nat → Nat} {cA : FieldType → ClassId} {g : am_G} {B1 B2 : Nat}
variable {p : Program} {l : Launch} {e : Env} {R : Room} {s : State} {m : MethodId} {args : Array Value} {below : List Frame} {meth : Method} {c : Code} {T : State} {H : Heap} {locs : List Loc} {cells slots : Nat} {Q : am_Ou → am_G → Prop}
variable {P d pc : Nat} {ls : Array Slot} {rest : List Value}
def am_LK (p : Program) (l : Launch) (e : Env) (R : Room) (s : State) (m : MethodId) (args : Array Value) (below : List Frame) (meth : Method) (c : Code) (T : State) (locs : List Loc) (cells slots pc : Nat) (ls : Array Slot) (st rest : List Value) (M : Nat) (vs : List Value) : Prop :=
  ∃ (mk : MethodId) (vm' : Vm), s.methodNamed? (am_y M) = some mk ∧ Stand p l e R s m args below meth c (T.setVm vm') locs cells slots ∧ ∀ target, (∀ acts, Steps p.tables e below (doInvoke e ((T.setVm vm').setTop (F0 m pc ls rest)) acts mk vs.toArray).1 target) → Steps p.tables e below (T.setTop (F0 m pc ls st)) target
theorem am_sigN {M : Nat} (h2 : M < 318) {sig : MethodDescriptor} (h : parseMethodDescriptor (am_y M).desc = some sig) : sig.parameters.length = am_NP.getD M 0 := by
  have h3 := (am_Mf h2).2.2.1
  rw [h] at h3
  exact Option.some.inj h3
theorem am_lkS (hx : am_Ctx i sz dC dI cA d P p R s m args meth c) (X : Stand p l e R s m args below meth c T locs cells slots) {idx M n : Nat} (hiv : am_iv P idx = some (0, M, n)) {vs : List Value} (hl : vs.length = n) (hdg : decode (am_b P) pc = .ok (.invokestatic idx, 3)) : am_LK p l e R s m args below meth c T locs cells slots pc ls (vs.reverse ++ rest) rest M vs := by
  obtain ⟨x1, x2, x3, x4, x5, x6, x7, x8, x9, x10, x11, x12, x13, x14, x15⟩ := hx
  obtain ⟨hlink, hstat, hN, h2, h1, h3⟩ := am_iv0 x15 hiv
  obtain ⟨mk, hnamed⟩ := am_named h1 h2 x6
  obtain ⟨methM, cM, hmethM, -, -, -, -, -, -, hsigM⟩ := am_code h1 h2 x6 hnamed
  have hstatic : methM.isStatic = true := Cond.static_spec hnamed hmethM (x6 _ hstat)
  obtain ⟨kP, hkP, -⟩ := className_of_methodNamed hnamed
  have hini := x6 _ (am_kN (am_o M) (am_Mf h2).2.2.2.1 h3)
  rw [(am_Mf h2).1] at hini
  have hinitP : kP.init = .initialized := Cond.initialized_spec (findClass_of_methodNamed hnamed) hkP hini
  obtain ⟨vm₁, X₁, hstep₁⟩ := X.invokestatic x1 x5 (x6 _ hlink) hnamed hmethM hstatic hkP hinitP (am_Mf h2).2.2.2.2.1 (g := F0 m pc ls (vs.reverse ++ rest)) rfl (argsL := vs) (rest := rest) (by rw [am_sigN h2 hsigM, hN]; exact hl) rfl (by rw [x2]; exact hdg)
  exact ⟨mk, vm₁, hnamed, X₁, hstep₁⟩
theorem am_lkV (hx : am_Ctx i sz dC dI cA d P p R s m args meth c) (X : Stand p l e R s m args below meth c T locs cells slots) {idx M n : Nat} (hiv : am_iv P idx = some (1, M, n)) {vs : List Value} {b : Nat} (hl : vs.length + 1 = n) {cell : Cell} (hcell : T.heap[b]? = some cell) (hvm : am_vm cell) (hcls : s.vm.findClass (am_y M).cls = some cell.cls) (hdg : decode (am_b P) pc = .ok (.invokevirtual idx, 3)) : am_LK p l e R s m args below meth c T locs cells slots pc ls (vs.reverse ++ .ref b :: rest) rest M (.ref b :: vs) := by
  obtain ⟨x1, x2, x3, x4, x5, x6, x7, x8, x9, x10, x11, x12, x13, x14, x15⟩ := hx
  obtain ⟨hlink, hinst, hsel, hN, h2, h1, h3⟩ := am_iv1 x15 hiv
  obtain ⟨mk, methM, hnamed, hmethM, hstM, habM⟩ := Cond.instanceMethod_spec (x6 _ hinst)
  obtain ⟨methM', cM, hmethM', -, -, -, -, -, -, hsigM⟩ := am_code h1 h2 x6 hnamed
  cases hmethM.symm.trans hmethM'
  obtain ⟨c2, r2, m2, q1, q2, q3, q4, kP, hkP, hkPi⟩ := Cond.selects_spec (x6 _ hsel)
  cases hcls.symm.trans q1
  cases (State.methodFound?_of_named hnamed (am_Mf h2).2.2.2.2.1).symm.trans q2
  cases hnamed.symm.trans q3
  have hselP : selectMethod e.platform s.vm cell.cls mk = .method mk := by rw [Launch.admits_selectMethod X.admits]; exact q4
  obtain ⟨vm₁, X₁, hstep₁⟩ := X.invokevirtual x1 x5 (x6 _ hlink) hnamed hmethM hstM hkP hkPi (am_Mf h2).2.2.2.2.1 (a := b) (cell := cell) hcell
    hvm.1 hselP hmethM habM hkP hkPi (g := F0 m pc ls (vs.reverse ++ .ref b :: rest)) rfl (argsL := vs) (rest := rest) (by rw [am_sigN h2 hsigM]; omega) rfl (by rw [x2]; exact hdg)
  exact ⟨mk, vm₁, hnamed, X₁, hstep₁⟩
theorem am_lkI (hx : am_Ctx i sz dC dI cA d P p R s m args meth c) (X : Stand p l e R s m args below meth c T locs cells slots) {idx M n : Nat} (hiv : am_iv P idx = some (2, M, n)) {vs : List Value} {b : Nat} (hl : vs.length + 1 = n) (hdg : decode (am_b P) pc = .ok (.invokespecial idx, 3)) : am_LK p l e R s m args below meth c T locs cells slots pc ls (vs.reverse ++ .ref b :: rest) rest M (.ref b :: vs) := by
  obtain ⟨x1, x2, x3, x4, x5, x6, x7, x8, x9, x10, x11, x12, x13, x14, x15⟩ := hx
  obtain ⟨hlink, hinst, hnm, hN, h2, h1, h3⟩ := am_iv2 x15 hiv
  have hpl : e.platform.magicAccessors = ({} : Platform).magicAccessors := by rw [X.admits.platform]
  obtain ⟨mk, methM, cM, kP, vm₁, hnamed, hmethM, hcodeM, -, hlocalsM, -, hkP, -, hW₁, hstep₁⟩ := Steps.initColdArgs (e := e) X.here x1 X.warmed hpl x5 hnm (am_Mf h2).2.2.2.2.1 (x6 _ hlink) (x6 _ hinst) (x6 _ (am_ini_c h1 h2 hnm)) (f := F0 m pc ls (vs.reverse ++ .ref b :: rest)) rfl (a := b) (argsL := vs) (rest := rest) (fun sig h => by rw [am_sigN h2 h]; omega) rfl (by rw [x2]; exact hdg)
  exact ⟨mk, vm₁, hnamed, X.noted hW₁, hstep₁⟩
theorem am_lkN (hx : am_Ctx i sz dC dI cA d P p R s m args meth c) (X : Stand p l e R s m args below meth c T locs cells slots) {idx M n : Nat} (hiv : am_iv P idx = some (5, M, n)) {vs : List Value} {b : Nat} (hl : vs.length + 1 = n) (hin : (am_n (am_o P), idx, am_y M) ∈ am_nests) (hdg : decode (am_b P) pc = .ok (.invokespecial idx, 3)) : am_LK p l e R s m args below meth c T locs cells slots pc ls (vs.reverse ++ .ref b :: rest) rest M (.ref b :: vs) := by
  obtain ⟨x1, x2, x3, x4, x5, x6, x7, x8, x9, x10, x11, x12, x13, x14, x15⟩ := hx
  obtain ⟨-, hinst, hnm, hN, h2, h1, h3⟩ := am_iv5 x15 hiv
  have hlink : (Cond.methodLinkNest (am_n (am_o P)) idx (am_y M) "ModelSheet").before args s = true := va_Nw.use rfl (x12.2.2.2.1 _ hin)
  have hpl : e.platform.magicAccessors = ({} : Platform).magicAccessors := by rw [X.admits.platform]
  obtain ⟨mk, methM, cM, kP, vm₁, hnamed, hmethM, hcodeM, -, hlocalsM, -, hkP, -, hW₁, hstep₁⟩ := Steps.initColdArgsNest (e := e) X.here x1 X.warmed hpl x5 hnm (am_Mf h2).2.2.2.2.1 hlink (x6 _ hinst) (x6 _ (am_ini_c h1 h2 hnm)) (f := F0 m pc ls (vs.reverse ++ .ref b :: rest)) rfl (a := b) (argsL := vs) (rest := rest) (fun sig h => by rw [am_sigN h2 h]; omega) rfl (by rw [x2]; exact hdg)
  exact ⟨mk, vm₁, hnamed, X.noted hW₁, hstep₁⟩
theorem am_lkW (hx : am_Ctx i sz dC dI cA d P p R s m args meth c) (X : Stand p l e R s m args below meth c T locs cells slots) {idx M n kd : Nat} (hkd : kd = 6 ∨ kd = 7) (hiv : am_iv P idx = some (kd, M, n)) {vs : List Value} {b : Nat} (hl : vs.length + 1 = n) {cell : Cell} (hcell : T.heap[b]? = some cell) (hvm : am_vm cell) (hcls : s.vm.findClass "java/lang/StringBuilder" = some cell.cls) (hdg : decode (am_b P) pc = .ok (.invokevirtual idx, 3)) : am_LK p l e R s m args below meth c T locs cells slots pc ls (vs.reverse ++ .ref b :: rest) rest M (.ref b :: vs) := by
  obtain ⟨x1, x2, x3, x4, x5, x6, x7, x8, x9, x10, x11, x12, x13, x14, x15⟩ := hx
  have key : Cond.methodLink (am_n (am_o P)) idx (am_y M) ∈ am_ws ∧ Cond.instanceMethod (am_y M) ∈ am_ws ∧ (Cond.selects "java/lang/StringBuilder" (am_y M) (am_y M)).before #[] s = true ∧ am_NP.getD M 0 + 1 = n ∧ M < 318 ∧ 1 ≤ M ∧ am_o M ≠ 21 := by
    rcases hkd with rfl | rfl
    · obtain ⟨g1, g2, g3, g4⟩ := am_iv6 x15 hiv
      exact ⟨g1, g2, word_at (State.WarmedH.refl s) (good_of_word rfl) (x6 _ g3), g4⟩
    · obtain ⟨g1, g2, g4⟩ := am_iv7 x15 hiv
      exact ⟨g1, g2, x12.2.2.2.2.2 M (am_iv7c x15 hiv), g4⟩
  obtain ⟨hlink, hinst, hsel, hN, h2, h1, h3⟩ := key
  obtain ⟨mk, methM, hnamed, hmethM, hstM, habM⟩ := Cond.instanceMethod_spec (x6 _ hinst)
  obtain ⟨methM', cM, hmethM', -, -, -, -, -, -, hsigM⟩ := am_code h1 h2 x6 hnamed
  cases hmethM.symm.trans hmethM'
  obtain ⟨c2, r2, m2, q1, q2, q3, q4, kP, hkP, hkPi⟩ := Cond.selects_spec hsel
  cases hcls.symm.trans q1
  cases (State.methodFound?_of_named hnamed (am_Mf h2).2.2.2.2.1).symm.trans q2
  cases hnamed.symm.trans q3
  have hselP : selectMethod e.platform s.vm cell.cls mk = .method mk := by rw [Launch.admits_selectMethod X.admits]; exact q4
  obtain ⟨vm₁, X₁, hstep₁⟩ := X.invokevirtual x1 x5 (x6 _ hlink) hnamed hmethM hstM hkP hkPi (am_Mf h2).2.2.2.2.1 (a := b) (cell := cell) hcell
    hvm.1 hselP hmethM habM hkP hkPi (g := F0 m pc ls (vs.reverse ++ .ref b :: rest)) rfl (argsL := vs) (rest := rest) (by rw [am_sigN h2 hsigM]; omega) rfl (by rw [x2]; exact hdg)
  exact ⟨mk, vm₁, hnamed, X₁, hstep₁⟩
theorem am_lkU (hx : am_Ctx i sz dC dI cA d P p R s m args meth c) (X : Stand p l e R s m args below meth c T locs cells slots) {idx M n : Nat} (hiv : am_iv P idx = some (8, M, n)) {vs : List Value} {b : Nat} (hl : vs.length + 1 = n) {cell : Cell} (hcell : T.heap[b]? = some cell) (hvm : am_vm cell) (hcls : s.vm.findClass "java/lang/StringBuilder" = some cell.cls) (hdg : decode (am_b P) pc = .ok (.invokespecial idx, 3)) : am_LK p l e R s m args below meth c T locs cells slots pc ls (vs.reverse ++ .ref b :: rest) rest M (.ref b :: vs) := by
  obtain ⟨x1, x2, x3, x4, x5, x6, x7, x8, x9, x10, x11, x12, x13, x14, x15⟩ := hx
  obtain ⟨hlink, hinst, hsame, hN, h2, h1, h3, hc1, hni, ho⟩ := am_iv8 x15 hiv
  obtain ⟨mk, methM, hnamed, hmethM, hstM, habM⟩ := Cond.instanceMethod_spec (x6 _ hinst)
  obtain ⟨methM', cM, hmethM', -, -, -, -, -, -, hsigM⟩ := am_code h1 h2 x6 hnamed
  cases hmethM.symm.trans hmethM'
  obtain ⟨pc9, k9, kp9, f1, f2, f3, f4, f5, f6, f7⟩ := Cond.superclass_spec hcls (x6 _ (List.mem_filter.mpr ⟨am_supw, rfl⟩))
  have hmc : m.cls = cell.cls := by
    rw [ho] at x5
    exact Option.some.inj (x5.symm.trans hcls)
  have hA := findClass_of_methodNamed hnamed
  rw [hc1] at hA
  cases hA.symm.trans f1
  obtain ⟨vm₁, X₁, hstep₁⟩ := X.invokespecialUp x1 x5 (x6 _ hlink) (x6 _ hsame) (owner := (am_y M).cls) hnamed hmethM hstM habM hni (dk := k9) (cn := mk.cls) (by rw [hmc]; exact f2) f7 (by rw [hc1]; exact f1) f4 (by simp [Vm.isSubclass, Vm.isSubclassAux]) (a := b) (cell := cell) (kcell := k9) hcell hvm.1 f2 (g := F0 m pc ls (vs.reverse ++ .ref b :: rest)) rfl (argsL := vs) (rest := rest) (by rw [am_sigN h2 hsigM]; omega) rfl (by rw [x2]; exact hdg)
  exact ⟨mk, vm₁, hnamed, X₁, fun target h => hstep₁ target (h [])⟩
/-- a call, whole -/
theorem am_w_call (htr : e.platform.stackTraces = false) (hi : am_II i sz) (hx : am_Ctx i sz dC dI cA (d + 1) P p R s m args meth c) (hV : am_V i sz dC dI cA s R B1 B2 g H locs cells slots) {M : Nat} {as st rest : List Value} {L : am_Lo} {W' : am_Fr → Prop} (h1 : 1 ≤ M) (h2 : M < 318) (h3 : am_o M ≠ 21)
    (hC : am_SC i sz dC dI cA d M as g (am_bk P pc L rest W' Q)) (hsz : ls.size = am_m P) {ig : Instr} (hdg : decode (am_b P) pc = .ok (ig, 3)) (hrest : rest.length ≤ 4)
    (hlk : ∀ T : State, T.heap = H → Stand p l e R s m args below meth c T locs cells slots → am_LK p l e R s m args below meth c T locs cells slots pc ls (st.map (am_v i)) (rest.map (am_v i)) M (as.map (am_v i)))
    (kk : ∀ (pc' : Nat) (st' : List Value) (g' : am_G) (H' : Heap) (locs' : List Loc) (cells' slots' : Nat), W' (pc', L, st', g') → am_V i sz dC dI cA s R B1 B2 g' H' locs' cells' slots' → W p l e R s m args below meth c H' locs' cells' slots' (am_Z i sz dC dI cA s below B1 B2 Q) (F0 m pc' ls (st'.map (am_v i)))) :
    W p l e R s m args below meth c H locs cells slots (am_Z i sz dC dI cA s below B1 B2 Q) (F0 m pc ls (st.map (am_v i))) := by
  intro T hT X
  subst hT
  obtain ⟨mk, vm', hn, X', hst⟩ := hlk T rfl X
  obtain ⟨o, g', T', L', k, n, hq, X2, hV2, hmo⟩ := am_into (T := T.setVm vm') (pc := pc) (ls := ls) (rest := rest.map (am_v i)) htr hx X' (g := g) hV h1 h2 h3 hn hC hsz hdg (by rw [List.length_map]; exact hrest)
  unfold am_bk at hq
  rcases o with v | ⟨k', a⟩
  · dsimp only at hmo hq
    obtain ⟨t, a1, b1⟩ := kk _ _ g' T'.heap _ _ _ hq hV2 T' rfl X2
    refine ⟨t, hst _ fun acts => (hmo acts).trans ?_, b1⟩
    rw [List.map_append] at a1
    have e9 : v.toList.map (am_v i) = (v.map (am_v i)).toList := by cases v <;> rfl
    rw [e9] at a1
    exact a1
  · dsimp only at hmo hq
    obtain ⟨hE, hmo⟩ := hmo
    split at hq <;> rename_i e9
    · obtain ⟨vm2, X3, hst3⟩ := am_caught (pc := pc) (ls := ls) (rest := rest.map (am_v i)) hx X2 hE e9
      obtain ⟨t, a1, b1⟩ := kk _ _ g' T'.heap _ _ _ hq hV2 (T'.setVm vm2) rfl X3
      exact ⟨t, hst _ fun acts => (hmo acts).trans (hst3 _ a1), b1⟩
    · obtain ⟨t, a1, b1⟩ := am_outOf (pc := pc) (ls := ls) (rest := rest.map (am_v i)) hi hx X2 hV2 hE e9 hq
      exact ⟨t, hst _ fun acts => (hmo acts).trans a1, b1⟩
end AMK
