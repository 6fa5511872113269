/-! The map of addresses at the entry, and all that holds there. -/
section AMS
variable {s : State} {b : Nat}
theorem am_vmx {cell : Cell} (h : cell.vm.isStatics = false) : ∀ k, cell.vm ≠ .statics k := by
  intro k e
  rw [e] at h
  simp [VmData.isStatics] at h
theorem am_arrx {cell : Cell} {ty : FieldType} (h : s.isArrayOf cell ty) : ArrOfT s cell.cls ty := fun n z => ⟨(fun k h => by cases h), h.2⟩
theorem am_world (hts : ∀ w ∈ lw_tbl, w.before #[Value.ref b] s = true) (hfl : ∀ w ∈ am_fl0, w.before #[Value.ref b] s = true) {L : Nat} {xs : Nat → Int32} (hX : va_X b L xs s s.heap) (hb : b < s.heap.size) :
    ∃ (i : Nat → Nat) (dC : Nat → ClassId) (dI : Nat → Nat → Nat) (cA : FieldType → ClassId) (z : Value), i 0 = b ∧ am_II i s.heap.size ∧ am_KK dC dI cA s ∧ am_GL i s.heap.size dC dI s ∧ am_R i dC dI cA (am_g0 L xs z) s.heap := by
  have h1 : ∀ a : Nat, ∃ t : Nat, a ∈ am_old1 → (am_olt a).eval #[Value.ref b] s none [] s = some (.ref t) ∧ va_T (am_oty a) t (am_oll a).length (fun j => .int ((am_oll a).getD j 0)) (fun q => s.heap.size ≤ q) s s.heap := by
    intro a
    by_cases h : a ∈ am_old1
    · obtain ⟨t, ht⟩ := am_oldx hfl a h
      exact ⟨t, fun _ => ht⟩
    · exact ⟨0, fun q => absurd q h⟩
  obtain ⟨jo, hjo⟩ := Classical.axiomOfChoice h1
  have h2 : ∀ k : Nat, ∃ t : Nat, k ∈ am_TL → (am_tst k).eval #[Value.ref b] s none [] s = some (.ref t) ∧ va_O "java/lang/String" t (fun q => s.heap.size ≤ q) s s.heap ∧ va_OF "java/lang/String" "coder" "B" (.int 0) t (fun q => s.heap.size ≤ q) s s.heap := by
    intro k
    by_cases h : k ∈ am_TL
    · obtain ⟨t, ht⟩ := am_txx hfl k h
      exact ⟨t, fun _ => ht⟩
    · exact ⟨0, fun q => absurd q h⟩
  obtain ⟨jt, hjt⟩ := Classical.axiomOfChoice h2
  have h3 : ∀ q : Nat, ∃ x : ClassId × (Nat → Nat), q < 13 → u_Kn s (am_cn q) (am_uT q) (am_uN q) x.1 x.2 := by
    intro q
    by_cases h : q < 13
    · obtain ⟨x, hx⟩ := am_clx hts q h
      exact ⟨x, fun _ => hx⟩
    · exact ⟨(0, fun _ => 0), fun q => absurd q h⟩
  obtain ⟨cl, hcl⟩ := Classical.axiomOfChoice h3
  have h4 : ∀ ty : FieldType, ∃ c : ClassId, ty ∈ am_tys → ArrOfT s c ty ∧ va_RA s c ty := by
    intro ty
    by_cases h : ty ∈ am_tys
    · obtain ⟨c, hc⟩ := am_tyx hts ty h
      exact ⟨c, fun _ => hc⟩
    · exact ⟨0, fun q => absurd q h⟩
  obtain ⟨ca, hca⟩ := Classical.axiomOfChoice h4
  have hA : ∀ a : Nat, a < s.heap.size → ¬ s.heap.size ≤ a := fun q hq h => absurd hq (by omega)
  obtain ⟨zf, zr, hz⟩ : ∃ zf zr : Nat, va_Z "jdk/internal/util/Preconditions" "SIOOBE_FORMATTER" "Ljava/util/function/BiFunction;" (if zf = 0 then .null else .ref zr) (fun q => s.heap.size ≤ q) s s.heap := by
    have hq := am_kS1 (102, "jdk/internal/util/Preconditions", "SIOOBE_FORMATTER", "Ljava/util/function/BiFunction;") (by simp [am_stl])
    rcases va_Zqof (hts _ hq.1) (hts _ hq.2) (hfl _ am_kS2.2.1) hA with h | ⟨t, h⟩
    · exact ⟨0, 0, h⟩
    · exact ⟨1, t, h⟩
  -- the two fields of a text
  have hval : ∀ k ∈ am_TL, va_OF "java/lang/String" "value" "[B" (.ref (jo (k + 10))) (jt k) (fun q => s.heap.size ≤ q) s s.heap := by
    intro k hk
    have hk1 : k + 10 ∈ am_old1 ∧ am_olt (k + 10) = .field (am_tst k) "java/lang/String" "value" "[B" := by
      simp only [am_TL, List.mem_cons, List.not_mem_nil, or_false] at hk
      rcases hk with rfl | rfl | rfl | rfl | rfl | rfl | rfl <;> exact ⟨by decide, rfl⟩
    have h5 := (hjo _ hk1.1).1
    rw [hk1.2] at h5
    exact vk_OFof (hjt k hk).1 h5 hA
  obtain ⟨cfv, kfv, fiv, fv, -, hfv, hsv, -⟩ := hval 2 (by decide)
  obtain ⟨cfc, kfc, fic, fc, -, hfc, hsc, -⟩ := (hjt 2 (by decide)).2.2
  obtain ⟨cs0, -, -, hsc0, -⟩ := (hjt 2 (by decide)).2.1
  generalize hi : (fun a : Nat => if 32 ≤ a then s.heap.size + (a - 32) else if a = 0 then b else if a ∈ am_old1 then jo a else if a ∈ am_TL then jt a else if zr < s.heap.size ∧ a = 10 then zr else b) = i
  have i32 : ∀ a, 32 ≤ a → i a = s.heap.size + (a - 32) := fun a ha => by rw [← hi]; exact if_pos ha
  have i0 : i 0 = b := by rw [← hi]; rfl
  have iold : ∀ a ∈ am_old1, i a = jo a := by
    intro a ha
    have h5 : ¬ 32 ≤ a ∧ ¬ a = 0 := (by decide : ∀ a ∈ am_old1, ¬ 32 ≤ a ∧ ¬ a = 0) a ha
    rw [← hi]
    show (if 32 ≤ a then _ else if a = 0 then b else if a ∈ am_old1 then jo a else _) = jo a
    rw [if_neg h5.1, if_neg h5.2, if_pos ha]
  have itx : ∀ a ∈ am_TL, i a = jt a := by
    intro a ha
    have h5 : ¬ 32 ≤ a ∧ ¬ a = 0 ∧ ¬ a ∈ am_old1 := (by decide : ∀ a ∈ am_TL, ¬ 32 ≤ a ∧ ¬ a = 0 ∧ ¬ a ∈ am_old1) a ha
    rw [← hi]
    show (if 32 ≤ a then _ else if a = 0 then b else if a ∈ am_old1 then jo a else if a ∈ am_TL then jt a else _) = jt a
    rw [if_neg h5.1, if_neg h5.2.1, if_neg h5.2.2, if_pos ha]
  have jolt : ∀ a ∈ am_old1, jo a < s.heap.size := by
    intro a ha
    obtain ⟨-, cell, hc, -⟩ := hjo a ha
    exact (Array.getElem?_eq_some_iff.mp hc).1
  have jtlt : ∀ a ∈ am_TL, jt a < s.heap.size := by
    intro a ha
    obtain ⟨-, ⟨cell, hc, -⟩, -⟩ := hjt a ha
    exact (Array.getElem?_eq_some_iff.mp hc).1
  have ilt : ∀ a, a < 32 → i a < s.heap.size := by
    intro a ha
    rw [← hi]
    show (if 32 ≤ a then _ else if a = 0 then b else if a ∈ am_old1 then jo a else if a ∈ am_TL then jt a else if zr < s.heap.size ∧ a = 10 then zr else b) < _
    rw [if_neg (by omega)]
    split
    · exact hb
    · split <;> rename_i h5
      · exact jolt a h5
      · split <;> rename_i h6
        · exact jtlt a h6
        · split <;> rename_i h7
          · exact h7.1
          · exact hb
  have i10 : zr < s.heap.size → i 10 = zr := by
    intro h5
    rw [← hi]
    show (if 32 ≤ 10 then _ else if 10 = 0 then b else if 10 ∈ am_old1 then jo 10 else if 10 ∈ am_TL then jt 10 else if zr < s.heap.size ∧ 10 = 10 then zr else b) = _
    rw [if_neg (by decide), if_neg (by decide), if_neg (by decide), if_neg (by decide), if_pos ⟨h5, rfl⟩]
  generalize hdI : (fun q k : Nat => if q = 21 then ((s.heap[i k]?).map (fun c : Cell => c.cls)).getD 0 else if q = 20 then (if k = 0 then zf else zr) else if q = 13 then (if k = 0 then fv.slot else fc.slot) else (cl q).2 k) = dI
  generalize hdC : (fun q : Nat => if q = 13 then cs0.cls else (cl q).1) = dC
  have hzr : am_zr dI = (if zf = 0 then .null else .ref zr) := by rw [← hdI]; rfl
  have d21 : ∀ a (cell : Cell), s.heap[i a]? = some cell → dI 21 a = cell.cls := by
    intro a cell hc
    rw [← hdI]
    show ((s.heap[i a]?).map (fun c : Cell => c.cls)).getD 0 = _
    rw [hc]; rfl
  have d13 : ∀ k, dI 13 k = (if k = 0 then fv.slot else fc.slot) := fun k => by rw [← hdI]; rfl
  have c13 : dC 13 = cs0.cls := by rw [← hdC]; rfl
  obtain ⟨z, hzv⟩ : ∃ z : Value, am_v i z = am_zr dI := by
    rw [hzr]
    by_cases h5 : zf = 0
    · exact ⟨.null, by rw [if_pos h5]; rfl⟩
    · rw [if_neg h5]
      by_cases h6 : zr < s.heap.size
      · exact ⟨.ref 10, by show Value.ref (i 10) = _; rw [i10 h6]⟩
      · exact ⟨.ref (zr - s.heap.size + 32), by show Value.ref (i _) = _; rw [i32 _ (by omega), show s.heap.size + (zr - s.heap.size + 32 - 32) = zr by omega]⟩
  obtain ⟨scr, x1, x2, x3, x4, x5⟩ := hX
  have hII : am_II i s.heap.size := by
    refine ⟨fun a c ha e => ?_, i32, ilt⟩
    rw [i32 a ha] at e
    rcases Nat.lt_or_ge c 32 with h5 | h5
    · have := ilt c h5; omega
    · rw [i32 c h5] at e; omega
  have hOA : am_OA dI s := by
    intro a ha
    by_cases h5 : a = 0
    · subst h5
      rw [d21 0 scr (by rw [i0]; exact x1)]
      exact am_arrx x2
    · have h6 : a ∈ am_old1 := (by decide : ∀ a ∈ am_olds, ¬ a = 0 → a ∈ am_old1) a ha h5
      obtain ⟨-, cell, hc, hof, -⟩ := hjo a h6
      rw [d21 a cell (by rw [iold a h6]; exact hc)]
      exact am_arrx hof
  refine ⟨i, dC, dI, ca, z, i0, hII, ⟨fun q hq => ?_, fun ty ht => hca ty ht⟩, ⟨am_stx (hts _ am_kS3.1) (hfl _ am_kS2.2.2.1), am_stx (hts _ am_kS3.2) (hfl _ am_kS2.2.2.2), ⟨fun q hq => ?_, ?_, hOA, fun k hk => ?_⟩, fun q hq => ?_⟩, fun a q ha => ?_, ?_, Nat.le_refl _⟩
  · have e1 : dC q = (cl q).1 := by rw [← hdC]; exact if_neg (by omega)
    have e2 : dI q = (cl q).2 := by
      rw [← hdI]
      funext k
      show (if q = 21 then _ else if q = 20 then _ else if q = 13 then _ else (cl q).2 k) = _
      rw [if_neg (by omega), if_neg (by omega), if_neg (by omega)]
    rw [e1, e2]
    exact hcl q hq
  · obtain ⟨k1, k2⟩ := am_kS1 q hq
    simp only [am_stl, List.mem_cons, List.not_mem_nil, or_false] at hq
    rcases hq with rfl | rfl | rfl | rfl | rfl
    · refine va_Zof (hts _ k1) (hts _ k2) ?_ hA
      show _ = some (Value.ref (i 1))
      rw [iold 1 (by decide)]
      exact (hjo 1 (by decide)).1
    · refine va_Zof (hts _ k1) (hts _ k2) ?_ hA
      show _ = some (Value.ref (i 19))
      rw [iold 19 (by decide)]
      exact (hjo 19 (by decide)).1
    · refine va_Zof (hts _ k1) (hts _ k2) ?_ hA
      show _ = some (Value.ref (i 20))
      rw [iold 20 (by decide)]
      exact (hjo 20 (by decide)).1
    · exact va_Zof (hts _ k1) (hts _ k2) (va_eqt (hfl _ am_kS2.1)) hA
    · show va_Z _ _ _ (am_zr dI) _ _ _
      rw [hzr]; exact hz
  · rw [c13]; exact hsc0
  · rcases (by omega : k = 0 ∨ k = 1) with rfl | rfl
    · exact ⟨cfv, kfv, fiv, fv, hfv, hsv, by rw [d13]; rfl⟩
    · exact ⟨cfc, kfc, fic, fc, hfc, hsc, by rw [d13]; rfl⟩
  · obtain ⟨k1, k2, k3⟩ := am_kT2 q hq
    have h5 := (hjt _ k1).1
    rw [k2] at h5
    rw [itx _ k1]
    exact vk_R.of (hts _ k3) h5
  · have ha : am_g0m L xs z a = some q := ha
    unfold am_g0m at ha
    by_cases e0 : a = 0
    · rw [if_pos e0] at ha
      cases ha
      subst e0
      have hc : s.heap[i 0]? = some scr := by rw [i0]; exact x1
      exact ⟨by show 0 < 32; decide, by decide, Or.inr ⟨by decide, rfl, scr, hc, xs, rfl, (d21 0 scr hc).symm, ⟨x2.1, x3⟩, ⟨by omega, by rw [x4] <;> rfl⟩, x5⟩⟩
    · rw [if_neg e0] at ha
      by_cases e1 : 2 ≤ a ∧ a ≤ 8
      · rw [if_pos e1] at ha
        cases ha
        have hk : a ∈ am_TL := by
          have : a = 2 ∨ a = 3 ∨ a = 4 ∨ a = 5 ∨ a = 6 ∨ a = 7 ∨ a = 8 := by omega
          simp only [am_TL, List.mem_cons, List.not_mem_nil, or_false]
          exact this
        have hk1 : a + 10 ∈ am_old1 := (by decide : ∀ a ∈ am_TL, a + 10 ∈ am_old1) a hk
        obtain ⟨-, ⟨cell, g1, g2, g3, -⟩, ⟨cf1, kf1, fi1, f1, cell1, g4, g5, g6, g7, g8, -⟩⟩ := hjt a hk
        obtain ⟨cf2, kf2, fi2, f2, cell2, g9, g10, g11, g12, g13, -⟩ := hval a hk
        cases g1.symm.trans g6
        cases g1.symm.trans g11
        cases hfc.symm.trans g4
        cases hfv.symm.trans g9
        refine ⟨by show a < 32; omega, ⟨by decide, fun _ => hzv⟩, cell, by rw [itx a hk]; exact g1, ?_, ⟨⟨am_vmx g2, g7⟩, fun q => absurd rfl q⟩, fun k hk2 => ?_⟩
        · rw [c13]
          exact Option.some.inj (g3.symm.trans hsc0)
        · have hk2 : k < 2 := hk2
          rcases (by omega : k = 0 ∨ k = 1) with rfl | rfl
          · rw [d13]
            show cell.slots[fv.slot]? = some (.ref (i (a + 10)))
            rw [iold _ hk1]
            exact g13
          · rw [d13]
            exact g8
      · rw [if_neg e1] at ha
        by_cases e2 : a ∈ am_old1
        · rw [if_pos e2] at ha
          cases ha
          obtain ⟨-, cell, g1, g2, g3, g4, g5, g6, -⟩ := hjo a e2
          have hc : s.heap[i a]? = some cell := by rw [iold a e2]; exact g1
          have e3 : a < 32 ∧ am_oty a ∈ am_tys ∧ a ∈ am_olds := (by decide : ∀ a ∈ am_old1, a < 32 ∧ am_oty a ∈ am_tys ∧ a ∈ am_olds) a e2
          exact ⟨e3.1, e3.2.1, Or.inr ⟨e3.2.2, rfl, cell, hc, _, rfl, (d21 a cell hc).symm, ⟨g2.1, g3⟩, ⟨g4, g5⟩, g6⟩⟩
        · rw [if_neg e2] at ha
          cases ha
  · show s.heap.size = i 32
    rw [i32 32 (Nat.le_refl _)]
    omega
end AMS
