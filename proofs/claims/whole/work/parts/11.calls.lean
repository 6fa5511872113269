/-! The ends of a method, and the way into a call and back. -/
section AMC
variable {i : Nat → Nat} {sz : Nat} {dC : Nat → ClassId} {dI : Nat → Nat → Nat} {cA : FieldType → ClassId} {g g1 : am_G} {B1 B2 : Nat}
variable {p : Program} {l : Launch} {e : Env} {R : Room} {s : State} {m : MethodId} {args : Array Value} {below : List Frame} {meth : Method} {c : Code} {T : State} {H : Heap} {locs : List Loc} {cells slots : Nat} {Q : am_Ou → am_G → Prop}
variable {P d pc : Nat} {ls : Array Slot} {rest : List Value}
theorem am_W_imp {Q1 Q2 : State → Prop} {f : JFrame} (h : ∀ t, Q1 t → Q2 t) (w : W p l e R s m args below meth c H locs cells slots Q1 f) : W p l e R s m args below meth c H locs cells slots Q2 f := by
  intro T hT X
  obtain ⟨t, a, b⟩ := w T hT X
  exact ⟨t, a, h t b⟩
theorem am_MQ_Z {v : Option Value} (hV : am_V i sz dC dI cA s R B1 B2 g H locs cells slots) (hQ : Q (.inl v) g) {t : State} (h : MQ below (fun _ _ o t => o = .returned (v.map (am_v i)) ∧ t.heap = H) args s cells slots (fun q => sz ≤ q) t) : am_Z i sz dC dI cA s below B1 B2 Q t := by
  obtain ⟨oc, h1, h2, ⟨h3, h4⟩, L, ⟨-, h5, h6⟩, h7⟩ := h
  obtain ⟨v1, v2, v3, v4, v5, v6, v7, v8⟩ := hV
  exact ⟨.inl v, g, oc, L, cells, slots, h1, h2, h3, h5, h6, h7, by rw [h4]; exact v1, by rw [h4]; exact v2, by rw [h4]; exact v8, v4, v5, hQ⟩
theorem am_w_iret (hx : am_Ctx i sz dC dI cA d P p R s m args meth c) (hV : am_V i sz dC dI cA s R B1 B2 g H locs cells slots) {v : Int32} (hk : am_rk (am_t P) (.int v) = true) (hdg : decode (am_b P) pc = .ok (.ireturn, 1)) (hQ : Q (.inl (some (.int v))) g) : W p l e R s m args below meth c H locs cells slots (am_Z i sz dC dI cA s below B1 B2 Q) (F0 m pc ls [.int v]) := by
  obtain ⟨x1, x2, x3, -, -, -, x7, -⟩ := hx
  refine am_W_imp (fun t ht => am_MQ_Z (args := args) hV hQ ht) ?_
  unfold am_rk at hk
  split at hk <;> rename_i e1
  · have e2 : am_t P = some _ := e1
    exact W.zret x1 x2 (x3.trans e2) (am_ok_fit (i := i) hk).1 (fun t ht _ => ⟨rfl, ht⟩) hV.2.2.1 hdg (hlocks := x7)
  · cases hk
theorem am_w_lret (hx : am_Ctx i sz dC dI cA d P p R s m args meth c) (hV : am_V i sz dC dI cA s R B1 B2 g H locs cells slots) {v : Int64} (hk : am_t P = some .long) (hdg : decode (am_b P) pc = .ok (.lreturn, 1)) (hQ : Q (.inl (some (.long v))) g) : W p l e R s m args below meth c H locs cells slots (am_Z i sz dC dI cA s below B1 B2 Q) (F0 m pc ls [.long v]) := by
  obtain ⟨x1, x2, x3, -, -, -, x7, -⟩ := hx
  exact am_W_imp (fun t ht => am_MQ_Z (args := args) hV hQ ht) (W.lret x1 x2 (x3.trans hk) (fun t ht _ => ⟨rfl, ht⟩) hV.2.2.1 hdg (hlocks := x7))
theorem am_w_fret (hx : am_Ctx i sz dC dI cA d P p R s m args meth c) (hV : am_V i sz dC dI cA s R B1 B2 g H locs cells slots) {v : UInt32} (hk : am_t P = some .float) (hdg : decode (am_b P) pc = .ok (.freturn, 1)) (hQ : Q (.inl (some (.float v))) g) : W p l e R s m args below meth c H locs cells slots (am_Z i sz dC dI cA s below B1 B2 Q) (F0 m pc ls [.float v]) := by
  obtain ⟨x1, x2, x3, -, -, -, x7, -⟩ := hx
  exact am_W_imp (fun t ht => am_MQ_Z (args := args) hV hQ ht) (W.fret x1 x2 (x3.trans hk) (fun t ht _ => ⟨rfl, ht⟩) hV.2.2.1 hdg (hlocks := x7))
theorem am_w_vret (hx : am_Ctx i sz dC dI cA d P p R s m args meth c) (hV : am_V i sz dC dI cA s R B1 B2 g H locs cells slots) (hk : am_t P = none) (hdg : decode (am_b P) pc = .ok (.return_, 1)) (hQ : Q (.inl none) g) : W p l e R s m args below meth c H locs cells slots (am_Z i sz dC dI cA s below B1 B2 Q) (F0 m pc ls []) := by
  obtain ⟨x1, x2, x3, -, -, -, x7, -⟩ := hx
  exact am_W_imp (fun t ht => am_MQ_Z (args := args) hV hQ ht) (W.vret x1 x2 (x3.trans hk) (fun t ht _ => ⟨rfl, ht⟩) hV.2.2.1 hdg (hlocks := x7))
theorem am_w_aret (hx : am_Ctx i sz dC dI cA d P p R s m args meth c) (hV : am_V i sz dC dI cA s R B1 B2 g H locs cells slots) {v : Nat} (hk : am_rk (am_t P) (.ref v) = true) (hdg : decode (am_b P) pc = .ok (.areturn, 1)) (hQ : Q (.inl (some (.ref v))) g) : W p l e R s m args below meth c H locs cells slots (am_Z i sz dC dI cA s below B1 B2 Q) (F0 m pc ls [.ref (i v)]) := by
  obtain ⟨x1, x2, x3, -, -, -, x7, -⟩ := hx
  refine am_W_imp (fun t ht => am_MQ_Z (args := args) hV hQ ht) ?_
  cases e1 : am_t P with
  | none => rw [e1] at hk; cases hk
  | some t0 =>
    rw [e1] at hk
    have hk : am_ok t0 (.ref v) = true := hk
    refine W.aret x1 x2 (x3.trans e1) ?_ (Or.inr ⟨_, rfl⟩) (fun t ht _ => ⟨rfl, ht⟩) hV.2.2.1 hdg (hlocks := x7)
    cases t0 <;> simp [am_ok] at hk
    · exact Or.inl ⟨_, rfl⟩
    · exact Or.inr ⟨_, rfl⟩
theorem am_sum_cat (st : List Value) : (st.map fun v => v.category).sum ≤ 2 * st.length := by
  induction st with
  | nil => exact Nat.le_refl _
  | cons v r ih =>
    simp only [List.map_cons, List.sum_cons, List.length_cons]
    have : v.category ≤ 2 := by cases v <;> simp [Value.category]
    omega
/-- the words of a method give its code at a state -/
theorem am_code {M : Nat} (h1 : 1 ≤ M) (h2 : M < 318) {args : Array Value} {s : State} (hts : ∀ w ∈ am_ws, w.before args s = true) {mk : MethodId} (hn : s.methodNamed? (am_y M) = some mk) :
    ∃ meth c, s.vm.method? mk = some meth ∧ meth.code = some c ∧ c.code = am_b M ∧ c.maxLocals = am_m M ∧ meth.sig.returnType = am_t M ∧ meth.locks = false ∧ c.exceptionTable.toList.map (fun h => (h.startPc, h.endPc, h.handlerPc, h.catchType)) = (am_h M).map (fun r => (r.1, r.2.1, r.2.2.1, r.2.2.2.1)) ∧ parseMethodDescriptor (am_y M).desc = some meth.sig := by
  have hw := hts _ (am_kD M h1 h2)
  unfold am_cw at hw
  by_cases e : am_h M = []
  · rw [if_pos e] at hw
    obtain ⟨meth, c, q1, q2, q3, q4, q5, q6, q7, q8⟩ := Cond.code_spec hn hw
    refine ⟨meth, c, q1, q2, q3, q4, q5, q6, ?_, q8⟩
    have h0 : c.exceptionTable.toList = [] := by
      have h0 : c.exceptionTable.size = 0 := by simpa [Array.isEmpty] using q7
      exact List.eq_nil_of_length_eq_zero (by simpa using h0)
    rw [h0, e]; rfl
  · rw [if_neg e] at hw
    obtain ⟨m9, meth, c, hn9, q1, q2, q3, q4, q5, q6, q7, q8⟩ := Cond.codeWith_spec hw
    cases hn.symm.trans hn9
    exact ⟨meth, c, q1, q2, q3, q4, q6, q7, q5, q8⟩
theorem am_ws_at {args a' : Array Value} {s U : State} (hW : s.WarmedH U.vm) (hts : ∀ w ∈ am_ws, w.before args s = true) : ∀ w ∈ am_ws, w.before a' U = true := fun w hw => word_at hW (good_of_word (List.mem_filter.mp hw).2) (hts w hw)
theorem am_into (htr : e.platform.stackTraces = false) (hx : am_Ctx i sz dC dI cA (d + 1) P p R s m args meth c) (X : Stand p l e R s m args below meth c T locs cells slots) (hV : am_V i sz dC dI cA s R B1 B2 g T.heap locs cells slots)
    {M : Nat} {as : List Value} (h1 : 1 ≤ M) (h2 : M < 318) (h3 : am_o M ≠ 21) {mk : MethodId} (hn : s.methodNamed? (am_y M) = some mk) (hC : am_SC i sz dC dI cA d M as g Q) {ig : Instr} (hsz : ls.size = am_m P) (hdg : decode (am_b P) pc = .ok (ig, 3)) (hrest : rest.length ≤ 4) :
    ∃ (o : am_Ou) (g' : am_G) (T' : State) (L : List Loc) (k n : Nat), Q o g' ∧ Stand p l e R s m args below meth c T' (locs ++ L) (cells + k) (slots + n) ∧ am_V i sz dC dI cA s R B1 B2 g' T'.heap (locs ++ L) (cells + k) (slots + n) ∧ (match o with
      | .inl v => ∀ acts, Steps p.tables e below (doInvoke e (T.setTop (F0 m pc ls rest)) acts mk (as.map (am_v i)).toArray).1 (T'.setTop (F0 m (pc + 3) ls ((v.map (am_v i)).toList ++ rest)))
      | .inr (k', a) => am_Ex k' (i a) s.vm T'.heap ∧ ∀ acts, Steps p.tables e below (doInvoke e (T.setTop (F0 m pc ls rest)) acts mk (as.map (am_v i)).toArray).1 ((T'.setTop (F0 m pc ls rest)).pushFrame (.throwing (i a)))) := by
  obtain ⟨x1, x2, x3, x4, x5, x6, x7, x8, x9, x10, x11, x12, x13, x14, x15⟩ := hx
  obtain ⟨v1, v2, v3, v4, v5, v6, v7, v8⟩ := hV
  obtain ⟨f1, f2, f3, f4, f5, f6, f7⟩ := am_Mf h2
  have hW : s.WarmedH T.vm := X.warmed
  have hnT : T.methodNamed? (am_y M) = some mk := X.named hn
  have htsT : ∀ w ∈ am_ws, w.before (as.map (am_v i)).toArray T = true := am_ws_at hW x6
  obtain ⟨methk, ck, q1, q2, q3, q4, q5, q6, q7, q8⟩ := am_code h1 h2 htsT hnT
  have hpl : plainFor (am_y M) = true := by
    rcases f6 with h | h
    · exact h
    · subst h; exact absurd rfl h3
  have hpk : T.plainMethod mk := State.plainMethod.of_named hpl hnT q1
  have hdg' : decode c.code (F0 m pc ls rest).pc = .ok (ig, 3) := by rw [x2]; exact hdg
  have hsz' : (F0 m pc ls rest).locals.size = c.maxLocals := by rw [x4]; exact hsz
  have hcat := am_sum_cat rest
  obtain ⟨X2, hst⟩ := X.into (g := F0 m pc ls rest) rfl hsz' hdg' (mk := mk) (methk := methk) (ck := ck) (as.map (am_v i)).toArray (R' := { frames := d + 20, cells := g.2.2.1, slots := g.2.2.2, locals := 60 * d + 400 }) q1 q2 q6 hpk
    (by show d + 20 + 1 ≤ _; omega) (by show 2 * 0 + _ + (ck.maxLocals + 11) + (60 * d + 400) ≤ _; rw [q4]; show 2 * 0 + (rest.map fun v => v.category).sum + _ + _ ≤ _; omega) (by show cells + g.2.2.1 ≤ _; omega) (by show slots + g.2.2.2 ≤ _; omega)
  have hvm : (T.calling (F0 m pc ls rest) mk (as.map (am_v i)).toArray).vm = T.vm := by simp [State.calling, State.pushFrame, State.setFrames, State.setTop, State.modifyTopJava]
  have hhp : (T.calling (F0 m pc ls rest) mk (as.map (am_v i)).toArray).heap = T.heap := by simp [State.calling, State.pushFrame, State.setFrames, State.setTop, State.modifyTopJava]
  have hh2 : ((T.setTop (F0 m pc ls rest)).pushFrame (.java (entryFrame mk (as.map (am_v i)).toArray ck.maxLocals))).heap = T.heap := by simp [State.pushFrame, State.setFrames, State.setTop, State.modifyTopJava]
  generalize hU : T.calling (F0 m pc ls rest) mk (as.map (am_v i)).toArray = U at hvm hhp X2
  have hWU : s.WarmedH U.vm := by rw [hvm]; exact hW
  have hnU : U.methodNamed? (am_y M) = some mk := by
    have h9 := State.methodNamed?_setVm (s := s) hWU.alike (am_y M)
    have h8 : U.methodNamed? (am_y M) = (s.setVm U.vm).methodNamed? (am_y M) := rfl
    rw [h8, h9]; exact hn
  have hctx : am_Ctx i sz dC dI cA d M p { frames := d + 20, cells := g.2.2.1, slots := g.2.2.2, locals := 60 * d + 400 } U mk (as.map (am_v i)).toArray methk ck := by
    refine ⟨x1, q3, q5, q4, ?_, am_ws_at hWU x6, q6, ?_, q7, ⟨Nat.le_refl _, Nat.le_refl _⟩, x11.moved hWU.alike, x12.moved hWU, x13.moved hWU, x14.moved hWU (fun a ha => by rw [hhp]; exact v2 a ha), h2⟩
    · rw [f1]; exact findClass_of_methodNamed hnU
    · exact (name_of_methodNamed hnT q1).1
  obtain ⟨t, hsteps, o, g', oc, L, k, n, z1, z2, z3, z4, z5, z6, z7, z8, z9, z10, z11, z12⟩ := hC p l e _ U mk (.java (F0 m pc ls rest) :: below) methk ck _ htr hctx X2 (by rw [hhp]; exact hh2) (by rw [hhp]; exact v1) (by rw [hhp]; exact v8) (Nat.le_refl _) (Nat.le_refl _)
  have hsteps' : ∀ acts, Steps p.tables e below (doInvoke e (T.setTop (F0 m pc ls rest)) acts mk (as.map (am_v i)).toArray).1 t := by
    intro acts
    rw [hst acts, q4]
    rw [q4] at hsteps
    exact Steps.weaken (mid := [.java (F0 m pc ls rest)]) hsteps
  have hvs : ∀ (T' : State), T'.heap = t.heap → am_V i sz dC dI cA s R B1 B2 g' T'.heap (locs ++ L) (cells + k) (slots + n) := by
    intro T' hT'
    refine ⟨by rw [hT']; exact z7, fun q hq => ?_, fun q hq => ?_, by omega, by omega, v6, v7, by rw [hT']; exact z9⟩
    · rw [hT', z8 q hq, hhp]; exact v2 q hq
    · rcases List.mem_append.mp hq with h | h
      · exact v3 q h
      · exact z6 q h
  subst hU
  unfold am_Or at z3
  rcases o with v | ⟨k', a⟩
  · dsimp only at z3
    subst z3
    obtain ⟨T', X', -, -, ht⟩ := X.outOf (g := F0 m pc ls rest) rfl hdg' z2 z4 z5
    refine ⟨.inl v, g', T', L, k, n, z12, X', hvs T' (by rw [ht]; simp [State.setTop, State.modifyTopJava]), fun acts => ?_⟩
    have h9 := hsteps' acts
    rw [ht] at h9
    exact h9
  · obtain ⟨z3a, z3b, cell, z3c, z3d, z3e⟩ := z3
    subst z3a
    obtain ⟨T', X', -, -, ht⟩ := X.outOfThrown (g := F0 m pc ls rest) rfl z2 z4 z5
    have hth : T'.heap = t.heap := by rw [ht]; simp [State.pushFrame, State.setFrames, State.setTop, State.modifyTopJava]
    refine ⟨.inr (k', a), g', T', L, k, n, z12, X', hvs T' hth, ⟨z3b, cell, by rw [hth]; exact z3c, z3d, ?_⟩, fun acts => ?_⟩
    · rw [hvm] at z3e
      rw [← hW.alike.findClass]; exact z3e
    · have h9 := hsteps' acts
      rw [ht] at h9
      exact h9
end AMC
