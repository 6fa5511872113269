/-! Object's own beginning, a copy of ints, the static table, constants. -/
theorem am_objc : Cond.code objectInit ⟨#[0xb1]⟩ 1 none ∈ am_ws := am_kD 270 (by decide) (by decide)
theorem am_cpn : Cond.native arraycopyName ∈ lw_tbl ∧ Cond.initialized "java/lang/System" ∈ lw_tbl := by decide +kernel
set_option maxRecDepth 100000 in
theorem am_kGs : ((List.range 32).all fun o => (am_St.getD o []).all fun r => am_stl.any fun q => q.1 == r.2 && (decide (Cond.fieldLink (am_n o) r.1 q.2.1 q.2.2.1 q.2.2.2 ∈ lw_tbl) || (r.2 == 1 && decide ((am_n o, r.1) ∈ am_spn)))) = true := by decide +kernel
set_option maxRecDepth 100000 in
theorem am_kSr : ((List.range 32).all fun o => (am_Sr.getD o []).all fun r => am_strl.any fun q => q.1 == am_n o && q.2.1 == r.1 && q.2.2.2 == r.2) = true := by decide +kernel
theorem am_gsF {P k a : Nat} (hP : P < 318) (h : am_gs P k = some a) : ∃ q ∈ am_stl, q.1 = a ∧ (Cond.fieldLink (am_n (am_o P)) k q.2.1 q.2.2.1 q.2.2.2 ∈ lw_tbl ∨ (a = 1 ∧ (am_n (am_o P), k) ∈ am_spn)) := by
  unfold am_gs at h
  obtain ⟨r, h1, rfl⟩ := Option.map_eq_some_iff.mp h
  obtain ⟨h2, h3⟩ := am_find h1
  have h4 := List.all_eq_true.mp (List.all_eq_true.mp am_kGs (am_o P) (List.mem_range.mpr (am_Mf hP).2.2.2.1)) r h2
  obtain ⟨q, hq, h5⟩ := List.any_eq_true.mp h4
  simp only [Bool.and_eq_true, Bool.or_eq_true, decide_eq_true_eq, beq_iff_eq] at h5
  have h8 : r.1 = k := by simpa using h3
  subst h8
  exact ⟨q, hq, h5.1, h5.2⟩
theorem am_csF {P k a : Nat} (hP : P < 318) (h : am_cs P k = some a) : ∃ q ∈ am_strl, q.1 = am_n (am_o P) ∧ q.2.1 = k ∧ q.2.2.2 = a := by
  unfold am_cs at h
  obtain ⟨r, h1, rfl⟩ := Option.map_eq_some_iff.mp h
  obtain ⟨h2, h3⟩ := am_find h1
  have h4 := List.all_eq_true.mp (List.all_eq_true.mp am_kSr (am_o P) (List.mem_range.mpr (am_Mf hP).2.2.2.1)) r h2
  obtain ⟨q, hq, h5⟩ := List.any_eq_true.mp h4
  simp only [Bool.and_eq_true, beq_iff_eq] at h5
  have h8 : r.1 = k := by simpa using h3
  subst h8
  exact ⟨q, hq, h5.1.1, h5.1.2, h5.2⟩
theorem am_ciF {P k : Nat} {x : Int32} (hP : P < 318) (h : am_ci P k = some x) : Cond.constant (am_n (am_o P)) k x ∈ am_ws := by
  unfold am_ci at h
  obtain ⟨r, h1, rfl⟩ := Option.map_eq_some_iff.mp h
  obtain ⟨h2, h3⟩ := am_find h1
  have h4 := am_kK (am_o P) (am_Mf hP).2.2.2.1 r h2
  simp only [am_ckK, decide_eq_true_eq] at h4
  have h8 : r.1 = k := by simpa using h3
  subst h8
  exact am_mem _ h4 rfl
theorem am_cl8F {P k : Nat} {x : Int64} (hP : P < 318) (h : am_cl8 P k = some x) : Cond.constantLong (am_n (am_o P)) k x ∈ am_ws := by
  unfold am_cl8 at h
  obtain ⟨r, h1, rfl⟩ := Option.map_eq_some_iff.mp h
  obtain ⟨h2, h3⟩ := am_find h1
  have h4 := am_kL (am_o P) (am_Mf hP).2.2.2.1 r h2
  simp only [am_ckL, decide_eq_true_eq] at h4
  have h8 : r.1 = k := by simpa using h3
  subst h8
  exact am_mem _ h4 rfl
section AMK
variable {i : Nat → Nat} {sz : Nat} {dC : Nat → ClassId} {dI : Nat → Nat → Nat} {cA : FieldType → ClassId} {g : am_G} {B1 B2 : Nat}
variable {p : Program} {l : Launch} {e : Env} {R : Room} {s : State} {m : MethodId} {args : Array Value} {below : List Frame} {meth : Method} {c : Code} {T : State} {H : Heap} {locs : List Loc} {cells slots : Nat} {Q : State → Prop}
variable {P d pc : Nat} {ls : Array Slot} {rest : List Value}
theorem am_w_oini (hx : am_Ctx i sz dC dI cA d P p R s m args meth c) {idx M n : Nat} (hiv : am_iv P idx = some (3, M, n)) (hsz : ls.size = am_m P) (hrest : rest.length ≤ 4) {a : Nat} (hdg : decode (am_b P) pc = .ok (.invokespecial idx, 3))
    (kk : W p l e R s m args below meth c H locs cells slots Q (F0 m (pc + 3) ls rest)) : W p l e R s m args below meth c H locs cells slots Q (F0 m pc ls (.ref a :: rest)) := by
  obtain ⟨x1, x2, x3, x4, x5, x6, x7, x8, x9, x10, x11, x12, x13, x14, x15⟩ := hx
  obtain ⟨h1, h2⟩ := am_iv3 x15 hiv
  have hcat := am_sum_cat rest
  exact W.objInit x1 x2 x5 (x6 _ h1) (x6 _ h2) (x6 _ am_objc) (g := F0 m pc ls (.ref a :: rest)) rfl (by rw [x4]; exact hsz) rfl hdg (by omega) (by show 2 * 0 + _ + 12 ≤ _; omega) kk
theorem am_w_ldc (hx : am_Ctx i sz dC dI cA d P p R s m args meth c) {idx : Nat} {x : Int32} (hci : am_ci P idx = some x) (hdg : decode (am_b P) pc = .ok (.ldc idx, 2))
    (kk : W p l e R s m args below meth c H locs cells slots Q (F0 m (pc + 2) ls (.int x :: rest))) : W p l e R s m args below meth c H locs cells slots Q (F0 m pc ls rest) := by
  obtain ⟨x1, x2, x3, x4, x5, x6, x7, x8, x9, x10, x11, x12, x13, x14, x15⟩ := hx
  exact lv_ldc x1 x2 x5 (x6 _ (am_ciF x15 hci)) hdg kk
theorem am_w_ldc2 (hx : am_Ctx i sz dC dI cA d P p R s m args meth c) {idx : Nat} {x : Int64} (hci : am_cl8 P idx = some x) (hdg : decode (am_b P) pc = .ok (.ldc2_w idx, 3))
    (kk : W p l e R s m args below meth c H locs cells slots Q (F0 m (pc + 3) ls (.long x :: rest))) : W p l e R s m args below meth c H locs cells slots Q (F0 m pc ls rest) := by
  obtain ⟨x1, x2, x3, x4, x5, x6, x7, x8, x9, x10, x11, x12, x13, x14, x15⟩ := hx
  exact lv_ldc2 x1 x2 x5 (x6 _ (am_cl8F x15 hci)) hdg kk
theorem am_w_ldcS (hx : am_Ctx i sz dC dI cA d P p R s m args meth c) {idx a : Nat} (hci : am_cs P idx = some a) (hdg : decode (am_b P) pc = .ok (.ldc idx, 2))
    (kk : W p l e R s m args below meth c H locs cells slots Q (F0 m (pc + 2) ls (.ref (i a) :: rest))) : W p l e R s m args below meth c H locs cells slots Q (F0 m pc ls rest) := by
  obtain ⟨x1, x2, x3, x4, x5, x6, x7, x8, x9, x10, x11, x12, x13, x14, x15⟩ := hx
  obtain ⟨q, hq, h1, h2, h3⟩ := am_csF x15 hci
  have h4 := x14.2.2.2 q hq
  rw [h1, h2, h3] at h4
  exact va_ldcS x1 x2 x5 h4 hdg kk
theorem am_w_gets (hx : am_Ctx i sz dC dI cA d P p R s m args meth c) (hV : am_V i sz dC dI cA s R B1 B2 g H locs cells slots) {idx a : Nat} (hci : am_gs P idx = some a) (hdg : decode (am_b P) pc = .ok (.getstatic idx, 3))
    (kk : W p l e R s m args below meth c H locs cells slots Q (F0 m (pc + 3) ls (am_stv i dI a :: rest))) : W p l e R s m args below meth c H locs cells slots Q (F0 m pc ls rest) := by
  obtain ⟨x1, x2, x3, x4, x5, x6, x7, x8, x9, x10, x11, x12, x13, x14, x15⟩ := hx
  obtain ⟨q, hq, rfl, h⟩ := am_gsF x15 hci
  have hz := x14.2.2.1.1 q hq
  obtain ⟨cf, kf, fi, f, a, cell, h1, h2, h3, h4, h5, h6, h7, h8⟩ := hz
  have h9 : H[a]? = some cell := by rw [hV.2.1 a (Nat.not_le.mp h8)]; exact h5
  rcases h with e1 | ⟨e0, hm⟩
  · exact W.gets x1 x2 x5 (x6 _ (List.mem_filter.mpr ⟨e1, rfl⟩)) h1 h2 h3 h4 h9 (fun e => by rw [e] at h6; cases h6) h7 rfl hdg kk
  · have hq1 : q = (1, "ModelSheet", "SPAN", "[I") := by
      simp only [am_stl, List.mem_cons, List.not_mem_nil, or_false] at hq
      rcases hq with rfl | rfl | rfl | rfl | rfl
      · rfl
      · cases e0
      · cases e0
      · cases e0
      · cases e0
    subst hq1
    have hlink := x12.2.2.2.2.1 _ hm
    exact va_WgetsN x1 x2 x5 (va_Nw.use rfl hlink) h1 h2 h3 h4 h9 (fun e => by rw [e] at h6; cases h6) h7 rfl hdg kk
theorem am_w_getS (hx : am_Ctx i sz dC dI cA d P p R s m args meth c) {k idx a : Nat} {V : Nat → Value} (hk : k < 2) (hlink : Cond.fieldLink (am_n (am_o P)) idx (am_uT 13 k).1 (am_uT 13 k).2.1 (am_uT 13 k).2.2.1 ∈ am_ws) (hat : am_at i dC dI cA a (.inr (13, V)) H) (hdg : decode (am_b P) pc = .ok (.getfield idx, 3))
    (kk : W p l e R s m args below meth c H locs cells slots Q (F0 m (pc + 3) ls (am_v i (V k) :: rest))) : W p l e R s m args below meth c H locs cells slots Q (F0 m pc ls (.ref (i a) :: rest)) := by
  obtain ⟨x1, x2, x3, x4, x5, x6, x7, x8, x9, x10, x11, x12, x13, x14, x15⟩ := hx
  obtain ⟨-, cell, q1, q2, ⟨q3, -⟩, q4⟩ := hat
  obtain ⟨cf, kf, fi, f, hi, hst, hsl⟩ := x14.2.2.1.2.2.2 k hk
  refine W.getf x1 x2 x5 (x6 _ hlink) hi hst q1 q3.2 (v := am_v i (V k)) ?_ rfl rfl hdg kk
  rw [hsl]; exact q4 k hk
theorem am_w_copy (hi : am_II i sz) (hx : am_Ctx i sz dC dI cA d P p R s m args meth c) (hV : am_V i sz dC dI cA s R B1 B2 g H locs cells slots) {idx M n0 a0 a : Nat} (hiv : am_iv P idx = some (4, M, n0)) (hsz : ls.size = am_m P) (hrest : rest.length ≤ 4) {ty : FieldType} (hty0 : ty ∈ [FieldType.int, FieldType.byte]) {x z : Nat × (Nat → Int32)} (ha0 : am_ai g a0 ty = some x) (ha1 : am_ai g a ty = some z) {sp dp n : Int32}
    (h1 : ¬ sp < 0) (h2 : ¬ dp < 0) (h3 : ¬ n < 0) (h4 : sp.toNatClampNeg + n.toNatClampNeg ≤ x.1) (h5 : dp.toNatClampNeg + n.toNatClampNeg ≤ z.1) (h32 : 32 ≤ a) (hfit : ∀ j, j < n.toNatClampNeg → fits ty (.int (x.2 (sp.toNatClampNeg + j))) = true) (hdg : decode (am_b P) pc = .ok (.invokestatic idx, 3))
    (kk : ∀ (H1 : Heap) (locs1 : List Loc), am_V i sz dC dI cA s R B1 B2 (am_set g a (.inl (ty, z.1, .inl (va_cpy x.2 z.2 sp.toNatClampNeg dp.toNatClampNeg n.toNatClampNeg)))) H1 locs1 cells slots → W p l e R s m args below meth c H1 locs1 cells slots Q (F0 m (pc + 3) ls rest)) :
    W p l e R s m args below meth c H locs cells slots Q (F0 m pc ls (.int n :: .int dp :: .ref (i a) :: .int sp :: .ref (i a0) :: rest)) := by
  have hV0 := hV
  obtain ⟨x1, x2, x3, x4, x5, x6, x7, x8, x9, x10, x11, x12, x13, x14, x15⟩ := hx
  obtain ⟨v1, v2, v3, v4, v5, v6, v7, v8⟩ := hV
  obtain ⟨n0, f⟩ := x
  obtain ⟨n1, f1⟩ := z
  have nn : ∀ z : Int32, ¬ z < 0 → z.toInt = (z.toNatClampNeg : Int) := by
    intro z hz
    have hz0 : (0 : Int) ≤ z.toInt := by
      have := Int32.not_lt.mp hz
      simpa using Int32.le_iff_toInt_le.mp this
    show z.toInt = ((z.toInt.toNat : Nat) : Int)
    omega
  have g0 := am_ai_eq ha0
  have g1 := am_ai_eq ha1
  have hO : am_OA dI s := x14.2.2.1.2.2.1
  obtain ⟨cs, hc0, hA0, hkn0, hsz0, hrd0⟩ := (v1.1 _ _ g0).2.rd x11 hO
  obtain ⟨hty, hc1⟩ := (v1.1 _ _ g1).2.new (Or.inl h32)
  have hA := (x11.2 ty hty).1
  have hprim : refKind ty = false := by
    simp only [List.mem_cons, List.not_mem_nil, or_false] at hty0
    rcases hty0 with rfl | rfl <;> rfl
  have hc1 : H[i a]? = some (vp_cell (cA ty) (n1, .inl f1)) := hc1
  intro T hT X
  obtain ⟨hk1, hk2⟩ := am_iv4 x15 hiv
  obtain ⟨hns, k0, hk0, cm0, hkk0⟩ := hA0
  obtain ⟨-, k1, hk1', cm1, hkk1⟩ := hA n1 (fun j => .int (f1 j))
  have hcat := am_sum_cat rest
  dsimp only at hsz0 hrd0 h4 h5
  obtain ⟨vm', X', step⟩ := X.arraycopy x1 x5 (x6 _ hk1) (x6 _ (List.mem_filter.mpr ⟨am_cpn.1, rfl⟩)) (x6 _ hk2) (x6 _ (List.mem_filter.mpr ⟨am_cpn.2, rfl⟩)) (src := i a0) (dst := i a) (cs := cs) (cd := vp_cell (cA ty) (n1, .inl f1)) (srcPos := sp) (destPos := dp) (n := n) (by rw [hT]; exact hc0) (by rw [hT]; exact hc1)
    hns (fun _ h => by cases h) hkn0 (fun h => by cases h) hk0 hk1' hkk0 hkk1 (by simp [hprim]) h1 h2 h3
    (by rw [nn sp h1, nn n h3]; have := hsz0.1; omega)
    (by rw [nn dp h2, nn n h3]; show ¬ _ > ((arrV (cA ty) n1 (fun j => .int (f1 j))).slots.size : Int); rw [arrV_size]; omega)
    (fun vm₁ _ j hj => by
      have e : cs.slots.getD (sp.toNatClampNeg + j) .null = .int (f (sp.toNatClampNeg + j)) := by
        rw [Array.getD_eq_getD_getElem?, hrd0 _ (by omega)]
        rfl
      rw [e]
      exact ⟨hfit j hj, trivial⟩)
    (g := F0 m pc ls (.int n :: .int dp :: .ref (i a) :: .int sp :: .ref (i a0) :: rest)) rfl (by rw [x4]; exact hsz) (rest := rest) rfl (by rw [x2]; exact hdg) (by omega) (by
      show 2 * 0 + _ + (nativeFrameWords "java/lang/System" "arraycopy" 5 + 11) ≤ _
      have : nativeFrameWords "java/lang/System" "arraycopy" 5 ≤ 300 := by decide +kernel
      omega)
  have e1 : copied cs (vp_cell (cA ty) (n1, .inl f1)) sp dp n = vp_cell (cA ty) (n1, .inl (va_cpy f f1 sp.toNatClampNeg dp.toNatClampNeg n.toNatClampNeg)) := va_copiedX (fun z => .int z) cs _ f f1 hrd0 h4
  rw [e1] at X' step
  have hl : i a < H.size := (Array.getElem?_eq_some_iff.mp hc1).1
  generalize hH1 : H.setIfInBounds (i a) (vp_cell (cA ty) (n1, .inl (va_cpy f f1 sp.toNatClampNeg dp.toNatClampNeg n.toNatClampNeg))) = H1
  have hheap : ((T.setVm vm').setCell (i a) (vp_cell (cA ty) (n1, .inl (va_cpy f f1 sp.toNatClampNeg dp.toNatClampNeg n.toNatClampNeg)))).heap = H1 := by rw [← hH1, ← hT]; rfl
  have oq : ∀ q : Nat, q ≠ i a → H1[q]? = H[q]? := fun q hq => by rw [← hH1]; simp [Array.getElem?_setIfInBounds, Ne.symm hq]
  have hat : am_at i dC dI cA a (.inl (ty, n1, .inl (va_cpy f f1 sp.toNatClampNeg dp.toNatClampNeg n.toNatClampNeg))) H1 := ⟨hty, Or.inl ⟨h32, by rw [← hH1]; show (H.setIfInBounds (i a) _)[i a]? = some _; simp [Array.getElem?_setIfInBounds, hl]; rfl⟩⟩
  obtain ⟨t, a1, b1⟩ := kk H1 _ (by
    have hR1 : am_R i dC dI cA (am_set g a (.inl (ty, n1, .inl (va_cpy f f1 sp.toNatClampNeg dp.toNatClampNeg n.toNatClampNeg)))) H1 := v1.set hi h32 g1 hat (by rw [← hH1]; simp) oq
    refine ⟨hR1, fun q hq => ?_, ?_, v4, v5, v6, v7, v8.set hat oq⟩
    · rw [oq q (fun e => by have := hi.ge h32; omega)]; exact v2 q hq
    · intro q hq
      rcases List.mem_append.mp hq with h | h
      · exact v3 q h
      · obtain ⟨w, -, hw⟩ := List.mem_map.mp h
        rw [← hw]
        exact hi.ge h32) _ hheap X'
  exact ⟨t, step t a1, b1⟩
end AMK
