/-! Arrays: reads and writes. -/
theorem am_ai_eq {g : am_G} {a : Nat} {ty : FieldType} {q : Nat × (Nat → Int32)} (h : am_ai g a ty = some q) : g.1 a = some (.inl (ty, q.1, .inl q.2)) := by
  unfold am_ai at h
  split at h <;> rename_i e
  · split at h <;> rename_i e2
    · cases h; subst e2; exact e
    · cases h
  · cases h
theorem am_al_eq {g : am_G} {a : Nat} {q : Nat × (Nat → Int64)} (h : am_al g a = some q) : g.1 a = some (.inl (.long, q.1, .inr (.inl q.2))) := by
  unfold am_al at h
  split at h <;> rename_i e
  · split at h <;> rename_i e2
    · cases h; subst e2; exact e
    · cases h
  · cases h
theorem am_ad_eq {g : am_G} {a : Nat} {q : Nat × (Nat → UInt64)} (h : am_ad g a = some q) : g.1 a = some (.inl (.double, q.1, .inr (.inr (.inr (.inl q.2))))) := by
  unfold am_ad at h
  split at h <;> rename_i e
  · split at h <;> rename_i e2
    · cases h; subst e2; exact e
    · cases h
  · cases h
theorem am_ar_eq {g : am_G} {a : Nat} {q : FieldType × Nat × (Nat → Option Nat)} (h : am_ar g a = some q) : g.1 a = some (.inl (q.1, q.2.1, .inr (.inr (.inr (.inr q.2.2))))) ∧ q.1.isReference = true := by
  unfold am_ar at h
  split at h <;> rename_i e
  · split at h <;> rename_i e2
    · cases h; exact ⟨e, e2⟩
    · cases h
  · cases h
theorem am_oc_eq {g : am_G} {a ci : Nat} (h : am_oc g a = some ci) : ∃ V, g.1 a = some (.inr (ci, V)) := by
  unfold am_oc at h
  split at h <;> rename_i e
  · cases h; exact ⟨_, e⟩
  · cases h
theorem am_gf_eq {g : am_G} {a ci k : Nat} {v : Value} (h : am_gf g a ci k = some v) : ∃ V, g.1 a = some (.inr (ci, V)) ∧ V k = v := by
  unfold am_gf at h
  split at h <;> rename_i e
  · split at h <;> rename_i e2
    · cases h; subst e2; exact ⟨_, e, rfl⟩
    · cases h
  · cases h
theorem am_pf_eq {g g' : am_G} {a ci k : Nat} {v : Value} (h : am_pf g a ci k v = some g') : ∃ V, g.1 a = some (.inr (ci, V)) ∧ 32 ≤ a ∧ g' = am_set g a (.inr (ci, updV V k v)) := by
  unfold am_pf at h
  split at h <;> rename_i e
  · split at h <;> rename_i e2
    · cases h; obtain ⟨rfl, e3⟩ := e2; exact ⟨_, e, e3, rfl⟩
    · cases h
  · cases h
theorem am_in {x : Int32} {n : Nat} (h : ¬ am_out x n = true) : ¬ (x < 0 ∨ n ≤ x.toNatClampNeg) := by
  intro q
  apply h
  unfold am_out
  simp only [Bool.or_eq_true, decide_eq_true_eq]
  exact q
section AMA
variable {i : Nat → Nat} {sz : Nat} {dC : Nat → ClassId} {dI : Nat → Nat → Nat} {cA : FieldType → ClassId}
variable {p : Program} {l : Launch} {e : Env} {R : Room} {s : State} {m : MethodId} {args : Array Value} {below : List Frame} {meth : Method} {c : Code} {H : Heap} {locs : List Loc} {cells slots : Nat} {Q : State → Prop}
variable {cc : ByteArray} {pc : Nat} {ls : Array Slot} {rest : List Value} {g g' : am_G}
def am_OA (dI : Nat → Nat → Nat) (s : State) : Prop := ∀ a ∈ am_olds, ArrOfT s (dI 21 a) (am_oty a)
theorem am_OA.moved {dI : Nat → Nat → Nat} {u U : State} (hvm : u.vm.Alike U.vm) (h : am_OA dI u) : am_OA dI U := fun a ha => arrOfT_moved hvm (h a ha)
theorem am_at.rd (hK : am_KK dC dI cA s) (hO : am_OA dI s) {a n : Nat} {ty : FieldType} {f : Nat → Int32} (h : am_at i dC dI cA a (.inl (ty, n, .inl f)) H) : ∃ cell : Cell, H[i a]? = some cell ∧ s.isArrayOf cell ty ∧ cell.vm ≠ .unknown ∧ (n ≤ cell.slots.size ∧ cell.slots.size.toInt32 = Int32.ofNat n) ∧ ∀ j, j < n → cell.slots[j]? = some (.int (f j)) := by
  obtain ⟨h1, ⟨-, h2⟩ | ⟨h2, h3, cell, h4, f', h5, h6, h7, h8, h9⟩⟩ := h
  · refine ⟨_, h2, (hK.2 _ h1).1 n (fun j => .int (f j)), fun q => (by cases q), ?_, fun j hj => ?_⟩
    · show n ≤ (arrV _ _ _).slots.size ∧ (arrV _ _ _).slots.size.toInt32 = _
      rw [arrV_size] <;> exact ⟨Nat.le_refl _, rfl⟩
    · exact arrV_read _ _ hj
  · cases h5
    subst h3
    obtain ⟨-, k, hk, hkk⟩ := hO a h2 0 (fun _ => .null)
    have hk : s.vm.classes[dI 21 a]? = some k := hk
    exact ⟨cell, h4, ⟨h7.1, k, by rw [h6]; exact hk, hkk⟩, h7.2, h8, h9⟩
theorem am_isr {ty : FieldType} (h : ty.isReference = true) : ty ≠ .int ∧ ty ≠ .byte := ⟨fun e => (by rw [e] at h; cases h), fun e => (by rw [e] at h; cases h)⟩
theorem am_w_load (hexec : p.tables.exec = Jvm.exec) (hb : c.code = cc) (hK : am_KK dC dI cA s) (hO : am_OA dI s) (hR : am_R i dC dI cA g H) {ins : Instr} {a : Nat} {x : Int32} {v : Value} (h : am_iat ins g a x = some v) (hdg : decode cc pc = .ok (ins, 1))
    (kk : W p l e R s m args below meth c H locs cells slots Q (F0 m (pc + 1) ls (am_v i v :: rest))) : W p l e R s m args below meth c H locs cells slots Q (F0 m pc ls (.int x :: .ref (i a) :: rest)) := by
  have rd : ∀ {n : Nat} {f : Nat → Value} {cA0 : ClassId}, ¬ am_out x n = true → (arrV cA0 n f).slots[x.toNatClampNeg]? = some (f x.toNatClampNeg) ∧ ¬ (x < 0 ∨ (arrV cA0 n f).slots.size ≤ x.toNatClampNeg) := by
    intro n f cA0 hi
    have h1 := am_in hi
    exact ⟨arrV_read _ _ (Nat.not_le.mp fun q => h1 (Or.inr q)), by rw [arrV_size]; exact h1⟩
  have go : ∀ {ty : FieldType} {n : Nat} {f : Nat → Int32}, am_ai g a ty = some (n, f) → ¬ am_out x n = true → ∃ cell : Cell, H[i a]? = some cell ∧ s.isArrayOf cell ty ∧ cell.vm ≠ .unknown ∧ ¬ (x < 0 ∨ cell.slots.size ≤ x.toNatClampNeg) ∧ cell.slots[x.toNatClampNeg]? = some (.int (f x.toNatClampNeg)) := by
    intro ty n f e hi
    obtain ⟨cell, h1, h2, h3, h4, h5⟩ := (hR.1 _ _ (am_ai_eq e)).2.rd hK hO
    have h6 := am_in hi
    exact ⟨cell, h1, h2, h3, fun q => h6 (q.elim Or.inl fun z => Or.inr (Nat.le_trans h4.1 z)), h5 _ (Nat.not_le.mp fun q => h6 (Or.inr q))⟩
  have ky : ∀ {ty : FieldType}, ty ∈ am_tys → ArrOfT s (cA ty) ty := fun ht => (hK.2 _ ht).1
  unfold am_iat at h
  split at h
  · obtain ⟨⟨n, f⟩, e1, e2⟩ := Option.bind_eq_some_iff.mp h
    split at e2
    · cases e2
    · rename_i hi
      cases e2
      obtain ⟨cell, g1, g2, g3, g4, g5⟩ := go e1 hi
      exact W.iald hexec hb g1 g2 g3 g4 g5 rfl rfl hdg kk
  · rcases Option.or_eq_some_iff.mp (show Option.or _ _ = some v by rw [← Option.orElse_eq_or]; exact h) with h | ⟨-, h⟩
    · obtain ⟨⟨n, f⟩, e1, e2⟩ := Option.bind_eq_some_iff.mp h
      split at e2
      · cases e2
      · rename_i hi
        cases e2
        obtain ⟨cell, g1, g2, g3, g4, g5⟩ := go e1 hi
        exact W.zald hexec hb g1 g2 g3 g4 g5 rfl rfl hdg kk
    · obtain ⟨⟨n, f⟩, e1, e2⟩ := Option.bind_eq_some_iff.mp h
      split at e2
      · cases e2
      · rename_i hi
        cases e2
        obtain ⟨cell, g1, g2, g3, g4, g5⟩ := go e1 hi
        exact W.bald hexec hb g1 g2 g3 g4 g5 rfl rfl hdg kk
  · obtain ⟨⟨n, f⟩, e1, e2⟩ := Option.bind_eq_some_iff.mp h
    split at e2
    · cases e2
    · rename_i hi
      cases e2
      obtain ⟨cell, g1, g2, g3, g4, g5⟩ := go e1 hi
      exact W.cald hexec hb g1 g2 g3 g4 g5 rfl rfl hdg kk
  · obtain ⟨⟨n, f⟩, e1, e2⟩ := Option.bind_eq_some_iff.mp h
    split at e2
    · cases e2
    · rename_i hi
      cases e2
      obtain ⟨ht, hc⟩ := (hR.1 _ _ (am_al_eq e1)).2.new (Or.inr (by decide))
      exact W.lald hexec hb hc (ky ht n _) (fun q => by cases q) (rd (f := fun j => .long (f j)) hi).2 (rd (f := fun j => .long (f j)) hi).1 rfl rfl hdg kk
  · obtain ⟨⟨n, f⟩, e1, e2⟩ := Option.bind_eq_some_iff.mp h
    split at e2
    · cases e2
    · rename_i hi
      cases e2
      obtain ⟨ht, hc⟩ := (hR.1 _ _ (am_ad_eq e1)).2.new (Or.inr (by decide))
      exact W.dald hexec hb hc (ky ht n _) (fun q => by cases q) (rd (f := fun j => .double (f j)) hi).2 (rd (f := fun j => .double (f j)) hi).1 rfl rfl hdg kk
  · obtain ⟨⟨ty, n, f⟩, e1, e2⟩ := Option.bind_eq_some_iff.mp h
    split at e2
    · cases e2
    · rename_i hi
      obtain ⟨b, e3, rfl⟩ := Option.map_eq_some_iff.mp e2
      obtain ⟨ht, hc⟩ := (hR.1 _ _ (am_ar_eq e1).1).2.new (Or.inr (am_isr (am_ar_eq e1).2))
      have hrd := (rd (cA0 := cA ty) (f := fun j => va_rf ((f j).map i)) hi)
      dsimp only at hrd hi e3
      rw [e3] at hrd
      exact W.aald hexec hb hc (ky ht n _) (am_ar_eq e1).2 (fun q => by cases q) hrd.2 hrd.1 rfl rfl hdg kk
  · cases h
theorem am_upd_arr (c : ClassId) (n : Nat) (f : Nat → Int32) (k : Nat) (x : Int32) : (vp_cell c (n, .inl f)).setSlot k (.int x) = vp_cell c (n, .inl (upd f k x)) := by
  rw [vp_cell_i, vp_cell_i, arrV_store]
  congr 2
  funext q
  by_cases hq : q = k
  · subst hq; simp [updV, upd]
  · simp [updV, upd, hq]
theorem am_w_store (hexec : p.tables.exec = Jvm.exec) (hb : c.code = cc) (hK : am_KK dC dI cA s) (hi : am_II i sz) (hR : am_R i dC dI cA g H) {ins : Instr} {a : Nat} {x : Int32} {v : Value} (h : am_sat ins g a x v = some g') (hdg : decode cc pc = .ok (ins, 1))
    (kk : ∀ (H1 : Heap) (z : Nat), 32 ≤ a → am_R i dC dI cA g' H1 → g'.2 = g.2 → (∀ q, q ≠ i a → H1[q]? = H[q]?) → W p l e R s m args below meth c H1 (locs ++ [⟨i a, z⟩]) cells slots Q (F0 m (pc + 1) ls rest)) : W p l e R s m args below meth c H locs cells slots Q (F0 m pc ls (am_v i v :: .int x :: .ref (i a) :: rest)) := by
  have sz_ : ∀ {n : Nat} {f : Nat → Value} {cA0 : ClassId}, ¬ am_out x n = true → ¬ (x < 0 ∨ (arrV cA0 n f).slots.size ≤ x.toNatClampNeg) := by
    intro n f cA0 hi
    rw [arrV_size]; exact am_in hi
  have ky : ∀ {ty : FieldType}, ty ∈ am_tys → ArrOfT s (cA ty) ty := fun ht => (hK.2 _ ht).1
  unfold am_sat at h
  split at h
  · cases h
  rename_i ha
  have ha : 32 ≤ a := by omega
  have go : ∀ {ty : FieldType} {n : Nat} {f : Nat → Int32}, am_ai g a ty = some (n, f) → ty ∈ am_tys ∧ H[i a]? = some (arrV (cA ty) n (fun j => .int (f j))) := by
    intro ty n f e
    exact (hR.1 _ _ (am_ai_eq e)).2.new (Or.inl ha)
  split at h
  · obtain ⟨⟨n, f⟩, e1, e2⟩ := Option.bind_eq_some_iff.mp h
    split at e2
    · cases e2
    · rename_i hi2
      cases e2
      obtain ⟨ht, hc⟩ := go e1
      refine W.iast hexec hb hc (ky ht n _) (fun q => by cases q) (sz_ hi2) rfl rfl hdg fun H1 e z oq => ?_
      exact kk H1 _ ha (hR.set hi ha (am_ai_eq e1) ⟨ht, Or.inl ⟨ha, by rw [e]; exact congrArg some (am_upd_arr _ _ _ _ _)⟩⟩ z oq) rfl oq
  · rcases Option.or_eq_some_iff.mp (show Option.or _ _ = some g' by rw [← Option.orElse_eq_or]; exact h) with h | ⟨-, h⟩
    · obtain ⟨⟨n, f⟩, e1, e2⟩ := Option.bind_eq_some_iff.mp h
      split at e2
      · cases e2
      · rename_i hi2
        cases e2
        obtain ⟨ht, hc⟩ := go e1
        refine W.zast hexec hb hc (ky ht n _) (fun q => by cases q) (sz_ hi2) rfl rfl hdg fun H1 e z oq => ?_
        exact kk H1 _ ha (hR.set hi ha (am_ai_eq e1) ⟨ht, Or.inl ⟨ha, by rw [e]; exact congrArg some (am_upd_arr _ _ _ _ _)⟩⟩ z oq) rfl oq
    · obtain ⟨⟨n, f⟩, e1, e2⟩ := Option.bind_eq_some_iff.mp h
      split at e2
      · cases e2
      · rename_i hi2
        cases e2
        obtain ⟨ht, hc⟩ := go e1
        refine W.bast hexec hb hc (ky ht n _) (fun q => by cases q) (sz_ hi2) rfl rfl hdg fun H1 e z oq => ?_
        exact kk H1 _ ha (hR.set hi ha (am_ai_eq e1) ⟨ht, Or.inl ⟨ha, by rw [e]; exact congrArg some (am_upd_arr _ _ _ _ _)⟩⟩ z oq) rfl oq
  · obtain ⟨⟨n, f⟩, e1, e2⟩ := Option.bind_eq_some_iff.mp h
    split at e2
    · cases e2
    · rename_i hi2
      cases e2
      obtain ⟨ht, hc⟩ := go e1
      refine W.cast hexec hb hc (ky ht n _) (fun q => by cases q) (sz_ hi2) rfl rfl hdg fun H1 e z oq => ?_
      exact kk H1 _ ha (hR.set hi ha (am_ai_eq e1) ⟨ht, Or.inl ⟨ha, by rw [e]; exact congrArg some (am_upd_arr _ _ _ _ _)⟩⟩ z oq) rfl oq
  · obtain ⟨⟨n, f⟩, e1, e2⟩ := Option.bind_eq_some_iff.mp h
    split at e2
    · cases e2
    · rename_i hi2
      cases e2
      obtain ⟨ht, hc⟩ := (hR.1 _ _ (am_al_eq e1)).2.new (Or.inl ha)
      refine W.last hexec hb hc (ky ht n _) (fun q => by cases q) (sz_ (f := fun j => .long (f j)) hi2) rfl rfl hdg fun H1 e z oq => ?_
      refine kk H1 _ ha (hR.set hi ha (am_al_eq e1) ⟨ht, Or.inl ⟨ha, ?_⟩⟩ z oq) rfl oq
      rw [e]
      show some ((vp_cell (cA .long) (n, .inr (.inl f))).setSlot _ _) = some (vp_cell _ (n, .inr (.inl _)))
      rw [vp_cell_l, vp_cell_l, arrV_store]
      congr 2
      funext q
      by_cases hq : q = x.toNatClampNeg
      · subst hq; simp [updV, vp_updL]
      · simp [updV, vp_updL, hq]
  · obtain ⟨⟨n, f⟩, e1, e2⟩ := Option.bind_eq_some_iff.mp h
    split at e2
    · cases e2
    · rename_i hi2
      cases e2
      obtain ⟨ht, hc⟩ := (hR.1 _ _ (am_ad_eq e1)).2.new (Or.inl ha)
      refine W.dast hexec hb hc (ky ht n _) (fun q => by cases q) (sz_ (f := fun j => .double (f j)) hi2) rfl rfl hdg fun H1 e z oq => ?_
      refine kk H1 _ ha (hR.set hi ha (am_ad_eq e1) ⟨ht, Or.inl ⟨ha, ?_⟩⟩ z oq) rfl oq
      rw [e]
      show some ((vp_cell (cA .double) (n, .inr (.inr (.inr (.inl f))))).setSlot _ _) = some (vp_cell _ (n, .inr (.inr (.inr (.inl _)))))
      rw [vp_cell_d, vp_cell_d, arrV_store]
      congr 2
      funext q
      by_cases hq : q = x.toNatClampNeg
      · subst hq; simp [updV, vf_upd]
      · simp [updV, vf_upd, hq]
  · rename_i b
    obtain ⟨⟨ty, n, f⟩, e1, e2⟩ := Option.bind_eq_some_iff.mp h
    obtain ⟨ci, e3, e4⟩ := Option.bind_eq_some_iff.mp e2
    dsimp only at e4
    split at e4
    · cases e4
    · rename_i hi2
      cases e4
      have hi3 : ¬ am_out x n = true := fun q => hi2 (Or.inl q)
      have hc13 : ci < 13 := Nat.not_le.mp fun q => hi2 (Or.inr (Or.inr q))
      have hty : ty = .object (am_n (am_co ci)) := Decidable.byContradiction fun q => hi2 (Or.inr (Or.inl q))
      obtain ⟨ht, hc⟩ := (hR.1 _ _ (am_ar_eq e1).1).2.new (Or.inl ha)
      obtain ⟨V, e5⟩ := am_oc_eq e3
      obtain ⟨-, cellV, g1, g2, g3, -⟩ := (hR.1 _ _ e5).2.obj (by omega)
      rw [(am_Cf hc13).2.1] at hty
      dsimp only at ht hc
      subst hty
      have hcls := (hK.1 ci hc13).2
      obtain ⟨kA, comp, k1, k2, k3, -⟩ := (hK.2 _ ht).2
      have hcomp : comp = dC ci := Option.some.inj (k3.symm.trans hcls.1)
      subst hcomp
      obtain ⟨kC, hkC, -⟩ := id hcls.2
      have h1 := am_in hi3
      refine W.aast hexec hb hc (fun q h => by cases h) (fun h => by cases h) k1 k2 rfl hkC ⟨fun q => h1 (Or.inl q), ?_⟩ g1 (fun q h => by rw [g3] at h; cases h) (by rw [g2]; exact hkC) (by rw [g2]; exact va_assign hcls) rfl rfl hdg fun H1 e z oq => ?_
      · show _ < (arrV _ _ _).slots.size
        rw [arrV_size]; exact Nat.not_le.mp fun q => h1 (Or.inr q)
      · refine kk H1 _ ha (hR.set hi ha (am_ar_eq e1).1 ⟨ht, Or.inl ⟨ha, ?_⟩⟩ z oq) rfl oq
        rw [e]
        show some ((vp_cell _ (n, .inr (.inr (.inr (.inr _))))).setSlot _ _) = some (vp_cell _ (n, .inr (.inr (.inr (.inr _)))))
        rw [vp_cell_q, vp_cell_q, arrV_store]
        congr 2
        funext q
        by_cases hq : q = x.toNatClampNeg
        · subst hq; simp [updV, va_up, va_rf]
        · simp [updV, va_up, hq]
  · cases h
end AMA
