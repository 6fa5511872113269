/-! The world at the law's entry: the context and the abstract heap that stands for it. -/
def am_g0m (L : Nat) (xs : Nat → Int32) (z : Value) (a : Nat) : Option am_A :=
  if a = 0 then some (.inl (.int, L, .inl xs))
  else if 2 ≤ a ∧ a ≤ 8 then some (.inr (13, fun k => if k = 0 then .ref (a + 10) else if k = 1 then .int 0 else z))
  else if a ∈ am_old1 then some (.inl (am_oty a, (am_oll a).length, .inl fun j => (am_oll a).getD j 0))
  else none
def am_g0 (L : Nat) (xs : Nat → Int32) (z : Value) : am_G := (am_g0m L xs z, 32, 601024, 7293034)
def am_TL : List Nat := [2, 3, 4, 5, 6, 7, 8]
section AMS
variable {s : State} {b : Nat}
theorem am_given (hgv : (Jvm.Cond.and given_1 narrow_1).before #[Value.ref b] s = true) : ∀ w ∈ am_fl0, w.before #[Value.ref b] s = true := flat_of_before _ hgv
theorem am_oldx (hfl : ∀ w ∈ am_fl0, w.before #[Value.ref b] s = true) : ∀ a ∈ am_old1, ∃ t : Nat, (am_olt a).eval #[Value.ref b] s none [] s = some (.ref t) ∧ va_T (am_oty a) t (am_oll a).length (fun j => .int ((am_oll a).getD j 0)) (fun q => s.heap.size ≤ q) s s.heap := by
  intro a ha
  have h1 := am_kO a ha
  have h2 := am_kE a ha
  simp only [am_ckO, Bool.and_eq_true, decide_eq_true_eq] at h1
  have hlen : ∀ a ∈ am_old1, (am_oll a).length < 2 ^ 31 := by decide +kernel
  refine va_Tof (hlen a ha) (hfl _ (List.mem_of_getElem? h1.1)) (va_eqt (hfl _ (List.mem_of_getElem? h1.2))) (fun j hj => ?_) (fun q hq h => absurd hq (by omega))
  have h3 := h2 j hj
  simp only [am_ckE, decide_eq_true_eq] at h3
  exact va_eqt (hfl _ (List.mem_of_getElem? h3))
theorem am_txx (hfl : ∀ w ∈ am_fl0, w.before #[Value.ref b] s = true) : ∀ k ∈ am_TL, ∃ t : Nat, (am_tst k).eval #[Value.ref b] s none [] s = some (.ref t) ∧ va_O "java/lang/String" t (fun q => s.heap.size ≤ q) s s.heap ∧ va_OF "java/lang/String" "coder" "B" (.int 0) t (fun q => s.heap.size ≤ q) s s.heap := by
  intro k hk
  have h1 := am_kT k hk
  simp only [am_ckT, Bool.and_eq_true, decide_eq_true_eq] at h1
  obtain ⟨a, c, cA, kA, q1, q2, q3, q4, q5, q6, -⟩ := Cond.exactly_spec (args := #[Value.ref b]) (first := s) (o := none) (s := s) (idx := []) (hfl _ h1.1.1)
  have hA : ∀ a : Nat, a < s.heap.size → ¬ s.heap.size ≤ a := fun q hq h => absurd hq (by omega)
  exact ⟨a, q1, ⟨cA, q3, q5, by rw [q6]; exact q2, hA a (Array.getElem?_eq_some_iff.mp q3).1⟩, vk_OFof q1 (va_eqt (hfl _ h1.1.2)) hA⟩
theorem am_tyx (hts : ∀ w ∈ lw_tbl, w.before #[Value.ref b] s = true) : ∀ ty ∈ am_tys, ∃ c : ClassId, ArrOfT s c ty ∧ va_RA s c ty := by
  have hws : ∀ w ∈ am_ws, w.before #[Value.ref b] s = true := fun w hw => hts w (List.mem_filter.mp hw).1
  have prim : ∀ ty, Cond.arrayClass ty ∈ am_ws → (∀ c, s.vm.findClass ("[" ++ ty.toString) = some c → va_RA s c ty) → ∃ c : ClassId, ArrOfT s c ty ∧ va_RA s c ty := by
    intro ty hw hr
    obtain ⟨cA, kA, comp, h1, h2, h3⟩ := Cond.arrayClass_spec (hws _ hw)
    exact ⟨cA, fun n z => ⟨(fun k h => by cases h), kA, h2, comp, h3⟩, hr _ h1⟩
  have obj : ∀ C, Cond.arrayOver (.object C) ∈ lw_tbl → ∃ c : ClassId, ArrOfT s c (.object C) ∧ va_RA s c (.object C) := by
    intro C hw
    obtain ⟨comp, c, k, h1, h2, h3, h4, h5⟩ := Cond.arrayOver_spec (hts _ hw)
    exact ⟨c, fun n z => ⟨(fun k h => by cases h), k, h3, comp, h4⟩, k, comp, h3, h4, h1, h5⟩
  intro ty ht
  simp only [am_tys, List.mem_cons, List.not_mem_nil, or_false] at ht
  rcases ht with rfl | rfl | rfl | rfl | rfl | rfl | rfl | rfl | rfl
  · exact prim _ am_kA_int fun c h => h
  · exact prim _ am_kA_long fun c h => h
  · exact prim _ am_kA_bool fun c h => h
  · exact prim _ am_kA_char fun c h => h
  · exact prim _ am_kA_byte fun c h => h
  · exact prim _ am_kA_dbl fun c h => h
  · exact obj _ am_kW1.1
  · exact obj _ am_kW1.2.1
  · obtain ⟨comp, c, k, h1, h2, h3, h4, h5⟩ := arrayOverA_spec (hts _ am_kW1.2.2.1)
    exact ⟨c, fun n z => ⟨(fun k h => by cases h), k, h3, comp, h4⟩, h5⟩
theorem am_clx (hts : ∀ w ∈ lw_tbl, w.before #[Value.ref b] s = true) : ∀ q : Nat, q < 13 → ∃ x : ClassId × (Nat → Nat), u_Kn s (am_cn q) (am_uT q) (am_uN q) x.1 x.2 := by
  intro q hq
  have hws : ∀ w ∈ am_ws, w.before #[Value.ref b] s = true := fun w hw => hts w (List.mem_filter.mp hw).1
  obtain ⟨cC, iS, h⟩ := u_known hws (am_Cin hq) (hts _ (am_kW4 q hq))
  exact ⟨(cC, iS), h⟩
theorem am_pvx (hts : ∀ w ∈ lw_tbl, w.before #[Value.ref b] s = true) : ∀ M ∈ am_pvt, (Cond.selects "java/lang/StringBuilder" (am_y M) (am_y M)).before #[] s = true := by
  intro M hM
  have hlt : M < 318 := (by decide : ∀ M ∈ am_pvt, M < 318) M hM
  obtain ⟨h1, h2, h3⟩ := am_kW2 M hM
  obtain ⟨mk, methM, hnamed, hmethM, -, -⟩ := Cond.instanceMethod_spec (hts _ h2)
  have hfound : s.methodFound? (am_y M).cls (am_y M).name (am_y M).desc = some mk := State.methodFound?_of_named hnamed (am_Mf hlt).2.2.2.2.1
  obtain ⟨c2, r2, m2, q1, q2, q3, q4, k9, hk9, hi9⟩ := Cond.selects_spec (hts _ am_kW3)
  have hA := findClass_of_methodNamed hnamed
  have hB := findClass_of_methodNamed q3
  rw [h3] at hA
  have hcls : mk.cls = m2.cls := Option.some.inj (hA.symm.trans hB)
  have hsel : selectMethod {} s.vm c2 mk = .method mk := selectMethod_private hmethM (Cond.privateMethod_at (hts _ h1) mk methM hnamed hmethM)
  simp only [Cond.before, Cond.holds, Cond.value, q1, hfound, hnamed, hsel, hcls, hk9]
  simp; exact hi9
theorem am_xwx (hts : ∀ w ∈ lw_tbl, w.before #[Value.ref b] s = true) : am_XW s :=
  ⟨va_AO.of (hts _ am_kW1.1), va_AO.of (hts _ am_kW1.2.1), hts _ am_kW1.2.2.1, fun q hq => va_Nw.of rfl (hts _ (am_kW1.2.2.2.1 q hq)), fun q hq => va_Nw.of rfl (hts _ (am_kW1.2.2.2.2 q hq)), am_pvx hts⟩
theorem am_txf (hts : ∀ w ∈ lw_tbl, w.before #[Value.ref b] s = true) (hfl : ∀ w ∈ am_fl0, w.before #[Value.ref b] s = true) : am_TX s :=
  ⟨fun x hx => va_Nw.of rfl (hts _ (am_kX1.1 x hx)), fun k hk => va_Nw.of rfl (hts _ (am_kX1.2 k hk)), fun j k hj hk hne => hfl _ (am_kX2 j hj k hk hne)⟩
theorem am_stx {C n d : String} (hl : (Cond.laysStatic C n d).before #[Value.ref b] s = true) (hr : (Cond.isRef (.static C n d)).before #[Value.ref b] s = true) : am_Sta s.heap.size C n d s := by
  obtain ⟨c, k, i, f, a, cell, hc, hi, hst, ha, hcell, hs, hcls, hlt, hty⟩ := Cond.laysStatic_spec hl
  obtain ⟨v, hv, hvr⟩ := Cond.isRef_spec hr
  obtain ⟨hst', a', cell', ha', hcell', -, hslot⟩ := Term.static_spec hi hv
  cases ha.symm.trans ha'
  cases hcell.symm.trans hcell'
  refine ⟨c, k, i, f, a, cell, v, hc, hi, hst, ha, hcell, hs, hcls, hlt, hty, (Array.getElem?_eq_some_iff.mp hcell).1, hslot, ?_⟩
  cases v <;> simp [Value.isRef] at hvr
  · exact Or.inl rfl
  · exact Or.inr ⟨_, rfl⟩
end AMS
