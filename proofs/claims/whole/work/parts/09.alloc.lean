/-! Instructions that make cells. -/
def am_AO (U : State) : Prop := (Cond.arrayOver (.array .int)).before #[] U = true
theorem am_AO.moved {u U : State} (hW : u.WarmedH U.vm) (h : am_AO u) : am_AO U := by
  obtain ⟨comp, c, k, h1, h2, h3, h4, h5⟩ := arrayOverA_spec h
  have hvm := hW.alike
  obtain ⟨k', hk', he⟩ := hvm.2.2 _ _ h3
  have hi := h2
  rw [← hvm.findIdx?_eq _ (fun _ => rfl)] at hi
  have hkind : k'.kind = .array comp (.array .int) := by rw [he]; exact h4
  have f1 : U.vm.findClass (FieldType.array .int).toString = some comp := by rw [hvm.findClass]; exact h1
  have f2 : U.vm.findClass ("[" ++ (FieldType.array .int).toString) = some c := by rw [hvm.findClass]; exact h5
  unfold am_AO Cond.before Cond.holds
  simp only [Cond.value]
  rw [f1, Option.bind_some]
  refine (congrArg (fun o : Option Nat => (o.bind (fun c => (U.vm.classes[c]?).map fun (k : Class) => match k.kind with | .array _ ty => decide (ty = FieldType.array .int) && decide (U.vm.findClass ("[" ++ (FieldType.array .int).toString) = some c) | _ => false) == some true)) hi).trans ?_
  simp [hk', hkind, f2]
def am_nests : List (String × Nat × MethodName) := [("ModelSheet$RuleBook", 17, ⟨"ModelSheet$Rule", "<init>", "()V"⟩), ("ModelSheet", 18, ⟨"ModelSheet$Pad", "<init>", "()V"⟩), ("ModelSheet", 21, ⟨"ModelSheet$Rule", "<init>", "()V"⟩)]
def am_spn : List (String × Nat) := [("ModelSheet$Space", 18), ("ModelSheet$Spreader", 83)]
def am_pvt : List Nat := [250, 252, 253, 254, 257, 258]
def am_XW (s : State) : Prop := va_AO "ModelSheet$Tree" s ∧ va_AO "ModelSheet$Rule" s ∧ am_AO s ∧ (∀ q ∈ am_nests, va_Nw (.methodLinkNest q.1 q.2.1 q.2.2 "ModelSheet") s) ∧ (∀ q ∈ am_spn, va_Nw (.fieldLinkNest q.1 q.2 "ModelSheet" "SPAN" "[I" "ModelSheet") s) ∧ ∀ M ∈ am_pvt, (Cond.selects "java/lang/StringBuilder" (am_y M) (am_y M)).before #[] s = true
theorem am_XW.moved {u U : State} (hW : u.WarmedH U.vm) (h : am_XW u) : am_XW U := ⟨h.1.moved hW.alike, h.2.1.moved hW.alike, h.2.2.1.moved hW, fun q hq => va_Nw.warmM hW (h.2.2.2.1 q hq), fun q hq => va_Nw.warmF hW (h.2.2.2.2.1 q hq), fun M hM => word_at hW (good_of_word (rfl : goodWord (Cond.selects "java/lang/StringBuilder" (am_y M) (am_y M)) = true)) (h.2.2.2.2.2 M hM)⟩
theorem am_kA_int : Cond.arrayClass .int ∈ am_ws := am_mem 189 (by decide +kernel) rfl
theorem am_kA_char : Cond.arrayClass .char ∈ am_ws := am_mem 278 (by decide +kernel) rfl
theorem am_kA_long : Cond.arrayClass .long ∈ am_ws := am_mem 348 (by decide +kernel) rfl
theorem am_kA_byte : Cond.arrayClass .byte ∈ am_ws := am_mem 517 (by decide +kernel) rfl
theorem am_kA_bool : Cond.arrayClass .boolean ∈ am_ws := am_mem 1591 (by decide +kernel) rfl
theorem am_kA_dbl : Cond.arrayClass .double ∈ am_ws := am_mem 1931 (by decide +kernel) rfl
def am_ckAn (o : Nat) (r : Nat × String × Nat) : Bool := decide (lw_tbl[r.2.2]? = some (Cond.classLink (am_n o) r.1 r.2.1)) && (r.2.1 == "ModelSheet$Tree" || r.2.1 == "ModelSheet$Rule")
set_option maxRecDepth 100000 in
theorem am_kAn0 : ((List.range 32).all fun o => (am_An.getD o []).all (am_ckAn o)) = true := by decide +kernel
def am_ckMu (o : Nat) (r : Nat × Nat) : Bool := decide (lw_tbl[r.2]? = some (Cond.classLink (am_n o) r.1 ("[" ++ (FieldType.array .int).toString)))
set_option maxRecDepth 100000 in
theorem am_kMu0 : ((List.range 32).all fun o => (am_Mu.getD o []).all (am_ckMu o)) = true := by decide +kernel
theorem am_anF {P k : Nat} {C : String} (hP : P < 318) (h : am_an P k = some C) : Cond.classLink (am_n (am_o P)) k C ∈ am_ws ∧ (C = "ModelSheet$Tree" ∨ C = "ModelSheet$Rule") := by
  unfold am_an at h
  obtain ⟨r, h1, rfl⟩ := Option.map_eq_some_iff.mp h
  obtain ⟨h2, h3⟩ := am_find h1
  have h4 := List.all_eq_true.mp (List.all_eq_true.mp am_kAn0 (am_o P) (List.mem_range.mpr (am_Mf hP).2.2.2.1)) r h2
  simp only [am_ckAn, Bool.and_eq_true, Bool.or_eq_true, decide_eq_true_eq, beq_iff_eq] at h4
  have h8 : r.1 = k := by simpa using h3
  subst h8
  exact ⟨am_mem _ h4.1 rfl, h4.2⟩
theorem am_muF {P k : Nat} (hP : P < 318) (h : am_mu P k = true) : Cond.classLink (am_n (am_o P)) k ("[" ++ (FieldType.array .int).toString) ∈ am_ws := by
  unfold am_mu at h
  obtain ⟨r, h1⟩ := Option.isSome_iff_exists.mp h
  obtain ⟨h2, h3⟩ := am_find h1
  have h4 := List.all_eq_true.mp (List.all_eq_true.mp am_kMu0 (am_o P) (List.mem_range.mpr (am_Mf hP).2.2.2.1)) r h2
  simp only [am_ckMu, decide_eq_true_eq] at h4
  have h8 : r.1 = k := by simpa using h3
  subst h8
  exact am_mem _ h4 rfl
theorem am_nwF {P k ci : Nat} (hP : P < 318) (h : am_nw P k = some ci) : ci < 13 ∧ Cond.classLink (am_n (am_o P)) k (am_cn ci) ∈ am_ws ∧ Cond.instantiable (am_cn ci) (am_uN ci) ∈ am_ws ∧ Cond.initialized (am_cn ci) ∈ am_ws := by
  unfold am_nw at h
  obtain ⟨r, h1, rfl⟩ := Option.map_eq_some_iff.mp h
  obtain ⟨h2, h3⟩ := am_find h1
  have h4 := am_kW (am_o P) (am_Mf hP).2.2.2.1 r h2
  simp only [am_ckW, Bool.and_eq_true, decide_eq_true_eq] at h4
  have h8 : r.1 = k := by simpa using h3
  subst h8
  exact ⟨h4.1.1.2, am_mem _ h4.1.1.1 rfl, List.mem_filter.mpr ⟨h4.1.2, rfl⟩, List.mem_filter.mpr ⟨h4.2, rfl⟩⟩
theorem am_v_def (i : Nat → Nat) (t : FieldType) : am_v i (defaultValue t) = defaultValue t := by cases t <;> rfl
section AMN
variable {i : Nat → Nat} {sz : Nat} {dC : Nat → ClassId} {dI : Nat → Nat → Nat} {cA : FieldType → ClassId}
variable {p : Program} {l : Launch} {e : Env} {R : Room} {s : State} {m : MethodId} {args : Array Value} {below : List Frame} {meth : Method} {c : Code} {H : Heap} {locs : List Loc} {cells slots : Nat} {Q : State → Prop}
variable {cc : ByteArray} {pc : Nat} {ls : Array Slot} {rest : List Value} {g g' : am_G}
theorem am_w_newa (hexec : p.tables.exec = Jvm.exec) (hb : c.code = cc) (hts : ∀ w ∈ am_ws, w.before args s = true) (hK : am_KK dC dI cA s) (hi : am_II i sz) (hR : am_R i dC dI cA g H) {t : ArrayType} {n : Int32} {q : am_A} (ha : am_arr t n.toNatClampNeg = some q) (hn : ¬ n < 0) (hN : n.toNatClampNeg ≤ 10000) (hcells : cells + 1 ≤ R.cells) (hslots : slots + n.toNatClampNeg ≤ R.slots) (hdg : decode cc pc = .ok (.newarray t, 2))
    (kk : ∀ H1 : Heap, am_R i dC dI cA (am_psh g q n.toNatClampNeg) H1 → (∀ x, x < H.size → H1[x]? = H[x]?) → W p l e R s m args below meth c H1 locs (cells + 1) (slots + n.toNatClampNeg) Q (F0 m (pc + 2) ls (.ref (i g.2.1) :: rest))) : W p l e R s m args below meth c H locs cells slots Q (F0 m pc ls (.int n :: rest)) := by
  have key : ∀ (ty : FieldType), newarray.typeOf t = ty → Cond.arrayClass ty ∈ am_ws → ty ∈ am_tys → componentBytes ty ≤ 8 → (va_RA s (cA ty) ty → s.vm.findClass ("[" ++ ty.toString) = some (cA ty)) → (∀ c0 : ClassId, arrV c0 n.toNatClampNeg (fun _ => defaultValue ty) = vp_cell c0 (n.toNatClampNeg, am_xc i (match q with | .inl (_, _, x) => x | .inr _ => .inl fun _ => 0))) → (∃ x, q = .inl (ty, n.toNatClampNeg, x)) →
      W p l e R s m args below meth c H locs cells slots Q (F0 m pc ls (.int n :: rest)) := by
    rintro ty hty hw hm hcb hra hcell ⟨x, rfl⟩
    refine va_newaK hexec hb (by rw [hty]; exact hts _ hw) rfl hdg rfl hn rfl ?_ hcells hslots rfl fun H1 cA0 e1 z1 o1 hAr hNm => ?_
    · rw [hty]
      exact Nat.le_trans (Nat.mul_le_mul hN hcb) (by decide)
    · rw [hty] at e1 hNm
      have hc0 : cA0 = cA ty := Option.some.inj (hNm.symm.trans (hra (hK.2 ty hm).2))
      subst hc0
      rw [hR.2.1]
      refine kk H1 (hR.psh hi ⟨hm, Or.inl ⟨hR.2.2, ?_⟩⟩ z1 o1) o1
      rw [← hR.2.1, e1, hcell]
  unfold am_arr at ha
  cases t <;> simp only [Option.some.injEq, reduceCtorEq] at ha <;> subst ha
  · exact key .boolean rfl am_kA_bool (by decide) (by decide) (fun h => h) (fun _ => rfl) ⟨_, rfl⟩
  · exact key .char rfl am_kA_char (by decide) (by decide) (fun h => h) (fun _ => rfl) ⟨_, rfl⟩
  · exact key .double rfl am_kA_dbl (by decide) (by decide) (fun h => h) (fun _ => rfl) ⟨_, rfl⟩
  · exact key .byte rfl am_kA_byte (by decide) (by decide) (fun h => h) (fun _ => rfl) ⟨_, rfl⟩
  · exact key .int rfl am_kA_int (by decide) (by decide) (fun h => h) (fun _ => rfl) ⟨_, rfl⟩
  · exact key .long rfl am_kA_long (by decide) (by decide) (fun h => h) (fun _ => rfl) ⟨_, rfl⟩
theorem am_w_anew (hexec : p.tables.exec = Jvm.exec) (hb : c.code = cc) (hts : ∀ w ∈ am_ws, w.before args s = true) (hK : am_KK dC dI cA s) (hX : am_XW s) (hi : am_II i sz) (hR : am_R i dC dI cA g H) {P idx : Nat} (hP : P < 318) (hown : s.vm.findClass (am_n (am_o P)) = some m.cls) {n : Int32} {C : String} (ha : am_an P idx = some C) (hn : ¬ n < 0) (hN : n.toNatClampNeg ≤ 10000) (hcells : cells + 1 ≤ R.cells) (hslots : slots + n.toNatClampNeg ≤ R.slots) (hdg : decode cc pc = .ok (.anewarray idx, 3))
    (kk : ∀ H1 : Heap, am_R i dC dI cA (am_psh g (.inl (.object C, n.toNatClampNeg, .inr (.inr (.inr (.inr fun _ => none))))) n.toNatClampNeg) H1 → (∀ x, x < H.size → H1[x]? = H[x]?) → W p l e R s m args below meth c H1 locs (cells + 1) (slots + n.toNatClampNeg) Q (F0 m (pc + 3) ls (.ref (i g.2.1) :: rest))) : W p l e R s m args below meth c H locs cells slots Q (F0 m pc ls (.int n :: rest)) := by
  obtain ⟨hlk, hC⟩ := am_anF hP ha
  have hao : va_AO C s := hC.elim (fun q => by rw [q]; exact hX.1) (fun q => by rw [q]; exact hX.2.1)
  have hty : FieldType.object C ∈ am_tys := hC.elim (fun q => by rw [q]; decide) (fun q => by rw [q]; decide)
  refine W.anew hexec hb hown (hts _ hlk) (va_AO.use hao) rfl hdg rfl hn (by omega) hcells hslots fun cA0 kA comp f1 f2 f3 f4 => ?_
  obtain ⟨kA', comp', g1, g2, g3, g4⟩ := (hK.2 _ hty).2
  have hc0 : cA0 = cA (.object C) := Option.some.inj (f1.symm.trans g4)
  subst hc0
  have hs : ∀ x, x < H.size → (H.push ({ cls := cA (.object C), slots := Array.replicate n.toNatClampNeg .null, vm := .none } : Cell))[x]? = H[x]? := fun x hx => by rw [Array.getElem?_push, if_neg (Nat.ne_of_lt hx)]
  rw [hR.2.1]
  refine kk _ (hR.psh hi ⟨hty, Or.inl ⟨hR.2.2, ?_⟩⟩ (Array.size_push _) hs) hs
  rw [← hR.2.1, Array.getElem?_push_size, arrV_new]
  rfl
theorem am_w_new (hexec : p.tables.exec = Jvm.exec) (hb : c.code = cc) (hts : ∀ w ∈ am_ws, w.before args s = true) (hK : am_KK dC dI cA s) (hi : am_II i sz) (hR : am_R i dC dI cA g H) {P idx ci : Nat} (hP : P < 318) (hown : s.vm.findClass (am_n (am_o P)) = some m.cls) (ha : am_nw P idx = some ci) (hcells : cells + 1 ≤ R.cells) (hslots : slots + am_nf ci ≤ R.slots) (hdg : decode cc pc = .ok (.new idx, 3))
    (kk : ∀ H1 : Heap, am_R i dC dI cA (am_psh g (.inr (ci, fun k => defaultValue (am_ft ci k).1)) (am_nf ci)) H1 → (∀ x, x < H.size → H1[x]? = H[x]?) → W p l e R s m args below meth c H1 locs (cells + 1) (slots + am_nf ci) Q (F0 m (pc + 3) ls (.ref (i g.2.1) :: rest))) : W p l e R s m args below meth c H locs cells slots Q (F0 m pc ls rest) := by
  obtain ⟨hc, hlk, hin, hini⟩ := am_nwF hP ha
  have hKn := hK.1 ci hc
  rw [← (am_Cf hc).1] at hin
  refine W.newcK hexec hb hown (hts _ hlk) (hts _ hin) (hts _ hini) rfl hdg hcells hslots hKn.2.1 rfl fun H1 kC hkC e1 z1 o1 => ?_
  rw [hR.2.1]
  refine kk H1 (hR.psh hi (am_at.mk hR.2.2 hc ?_) z1 o1) o1
  rw [hR.2.1] at e1
  exact (u_born (fun k => (am_ft ci k).1) hts (am_Cin hc) hKn hkC e1 (fun k hk => ((am_Cf hc).2.2 k hk).1)).to (fun k _ => (am_v_def i _).symm)
theorem am_outer (c : ClassId) (N h0 : Nat) : ∀ k : Nat, Jvm.Free.Multi.outerC c N h0 k = arrV c N (fun j => va_rf (if j < k then some (h0 + 1 + j) else none))
  | 0 => by
    show ({ cls := c, slots := Array.replicate N .null, vm := .none } : Cell) = _
    rw [arrV_new]
    refine congrArg (arrV c N) (funext fun j => ?_)
    simp [va_rf]
  | k + 1 => by
    show (Jvm.Free.Multi.outerC c N h0 k).setSlot k (.ref (h0 + 1 + k)) = _
    rw [am_outer c N h0 k, arrV_store]
    refine congrArg (arrV c N) (funext fun j => ?_)
    by_cases e : j = k
    · subst e
      simp [updV, va_rf]
    · by_cases h : j < k
      · simp [updV, e, h, Nat.lt_succ_of_lt h]
      · simp [updV, e, h, show ¬ j < k + 1 by omega]
theorem am_w_mul (hexec : p.tables.exec = Jvm.exec) (hb : c.code = cc) (hts : ∀ w ∈ am_ws, w.before args s = true) (hK : am_KK dC dI cA s) (hX : am_XW s) (hi : am_II i sz) (hR : am_R i dC dI cA g H) {P idx : Nat} (hP : P < 318) (hown : s.vm.findClass (am_n (am_o P)) = some m.cls) {n k : Int32} (ha : am_mu P idx = true) (hn : ¬ n < 0) (hk : ¬ k < 0) (hN : n.toNatClampNeg ≤ 10000) (hM : k.toNatClampNeg ≤ 10000) (hcells : cells + (1 + n.toNatClampNeg) ≤ R.cells) (hslots : slots + (n.toNatClampNeg + n.toNatClampNeg * k.toNatClampNeg) ≤ R.slots) (hdg : decode cc pc = .ok (.multianewarray idx 2, 4))
    (kk : ∀ H1 : Heap, am_R i dC dI cA (am_mul g n.toNatClampNeg k.toNatClampNeg) H1 → (∀ x, x < H.size → H1[x]? = H[x]?) → W p l e R s m args below meth c H1 locs (cells + 1 + n.toNatClampNeg) (slots + n.toNatClampNeg + n.toNatClampNeg * k.toNatClampNeg) Q (F0 m (pc + 4) ls (.ref (i g.2.1) :: rest))) : W p l e R s m args below meth c H locs cells slots Q (F0 m pc ls (.int k :: .int n :: rest)) := by
  intro T hT Xs
  obtain ⟨vm₁, cA0, comp, -, fA, fC, hO, -, X', step⟩ := Xs.multianewarray2F hexec hown (hts _ (am_muF hP ha)) hX.2.2.1 (hts _ am_kA_int) (g := F0 m pc ls (.int k :: .int n :: rest)) rfl (by rw [hb]; exact hdg) rfl hn hk (by omega) (by show _ * 4 ≤ _; omega) (by omega) rfl rfl hcells hslots
  have hc0 : cA0 = cA (.array .int) := Option.some.inj (fA.symm.trans (hK.2 (.array .int) (by decide)).2)
  have hc1 : comp = cA .int := Option.some.inj (fC.symm.trans (hK.2 .int (by decide)).2)
  subst hc0 hc1
  generalize hF : Jvm.Free.Multi.fill (T.setVm vm₁) (cA (.array .int)) (cA .int) n.toNatClampNeg k.toNatClampNeg (defaultValue .int) n.toNatClampNeg = F at X' step
  have hTh : (T.setVm vm₁).heap = H := hT
  obtain ⟨f1, f2, -, -⟩ := Jvm.Free.Multi.fill_facts (T.setVm vm₁) (cA (.array .int)) (cA .int) n.toNatClampNeg k.toNatClampNeg (defaultValue .int) n.toNatClampNeg
  rw [hF, hTh] at f1 f2
  have hold : ∀ x : Nat, x < H.size → F.heap[x]? = H[x]? := fun x hx => by
    have := Jvm.Free.Multi.fill_old (T.setVm vm₁) (cA (.array .int)) (cA .int) n.toNatClampNeg k.toNatClampNeg (defaultValue .int) (a := x) (by rw [hTh]; exact hx) n.toNatClampNeg
    rw [hF, hTh] at this
    exact this
  have hrow : ∀ j : Nat, j < n.toNatClampNeg → F.heap[H.size + 1 + j]? = some (Jvm.Free.Multi.innerC (cA .int) k.toNatClampNeg (defaultValue .int)) := fun j hj => by
    have := Jvm.Free.Multi.fill_inner (T.setVm vm₁) (cA (.array .int)) (cA .int) n.toNatClampNeg k.toNatClampNeg (defaultValue .int) n.toNatClampNeg j hj
    rw [hF, hTh] at this
    exact this
  rw [am_outer] at f2
  have hsz : H.size = i g.2.1 := hR.2.1
  have hRn : am_R i dC dI cA (am_mul g n.toNatClampNeg k.toNatClampNeg) F.heap := by
    refine ⟨fun b q hb => ?_, ?_, ?_⟩
    · have hb' : (if b = g.2.1 then some (.inl (.array .int, n.toNatClampNeg, .inr (.inr (.inr (.inr fun j => if j < n.toNatClampNeg then some (g.2.1 + 1 + j) else none))))) else if g.2.1 < b ∧ b < g.2.1 + 1 + n.toNatClampNeg then some (.inl (.int, k.toNatClampNeg, .inl fun _ => 0)) else g.1 b) = some q := hb
      by_cases e1 : b = g.2.1
      · rw [if_pos e1] at hb'
        cases hb'
        refine ⟨by show b < g.2.1 + 1 + _; omega, by decide, Or.inl ⟨by have := hR.2.2; omega, ?_⟩⟩
        rw [e1, ← hsz, f2]
        refine congrArg some (show _ = arrV _ _ (fun j => va_rf (Option.map i (if j < n.toNatClampNeg then some (g.2.1 + 1 + j) else none))) from congrArg (arrV _ _) (funext fun j => ?_))
        by_cases hj : j < n.toNatClampNeg
        · rw [if_pos hj, if_pos hj]
          show va_rf (some (H.size + 1 + j)) = va_rf (some (i (g.2.1 + 1 + j)))
          rw [show g.2.1 + 1 + j = g.2.1 + (1 + j) by omega, hi.succ hR.2.2, hsz, Nat.add_assoc]
        · rw [if_neg hj, if_neg hj]; rfl
      · rw [if_neg e1] at hb'
        by_cases e2 : g.2.1 < b ∧ b < g.2.1 + 1 + n.toNatClampNeg
        · rw [if_pos e2] at hb'
          cases hb'
          refine ⟨e2.2, by decide, Or.inl ⟨by have := hR.2.2; omega, ?_⟩⟩
          have h9 := hrow (b - g.2.1 - 1) (by omega)
          have h8 : i b = H.size + 1 + (b - g.2.1 - 1) := by
            have := hi.succ hR.2.2 (b - g.2.1)
            rw [show g.2.1 + (b - g.2.1) = b by omega] at this
            omega
          rw [h8, h9]
          show some ({ cls := cA .int, slots := Array.replicate k.toNatClampNeg (.int 0), vm := .none } : Cell) = _
          rw [arrV_new]
          rfl
        · rw [if_neg e2] at hb'
          obtain ⟨h1, h2⟩ := hR.1 _ _ hb'
          exact ⟨by show b < g.2.1 + 1 + _; omega, h2.kept (hold _ (by rw [hsz]; exact hi.lt h1 hR.2.2))⟩
    · show F.heap.size = i (g.2.1 + 1 + n.toNatClampNeg)
      rw [f1, show g.2.1 + 1 + n.toNatClampNeg = g.2.1 + (1 + n.toNatClampNeg) by omega, hi.succ hR.2.2, hsz]; omega
    · exact Nat.le_trans hR.2.2 (by show g.2.1 ≤ g.2.1 + 1 + _; omega)
  obtain ⟨t, a1, b1⟩ := kk F.heap hRn hold F rfl X'
  refine ⟨t, step t ?_, b1⟩
  rw [hT, hsz]
  exact a1
end AMN
