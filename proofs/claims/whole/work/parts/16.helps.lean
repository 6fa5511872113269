/-! Small facts on the abstract heap that the steps want. -/
theorem am_set_at {g : am_G} {a : Nat} {q : am_A} : (am_set g a q).1 a = some q := by simp [am_set]
theorem am_updV {i : Nat → Nat} {V : Nat → Value} {k : Nat} {v : Value} : updV (fun k => am_v i (V k)) k (am_v i v) = fun j => am_v i (updV V k v j) := by
  funext j
  unfold updV
  split <;> rfl
theorem am_sat_tr {ins : Instr} {g g' : am_G} {a : Nat} {x : Int32} {v : Value} (h : am_sat ins g a x v = some g') : ∃ q, g'.1 a = some q := by
  have key : ∀ {α : Type} {o : Option α} {b : α → Bool} {f : α → am_A}, (o.bind fun q => if b q = true then none else some (am_set g a (f q))) = some g' → ∃ q, g'.1 a = some q := by
    intro α o b f h
    obtain ⟨q, -, h⟩ := Option.bind_eq_some_iff.mp h
    split at h <;> cases h
    exact ⟨_, am_set_at⟩
  unfold am_sat at h
  split at h
  · cases h
  · split at h
    · exact key h
    · rename_i y
      cases e1 : (am_ai g a .boolean).bind fun q => if am_out x q.1 then none else some (am_set g a (.inl (.boolean, q.1, .inl (upd q.2 x.toNatClampNeg (vp_nar .boolean y))))) with
      | none =>
        rw [e1] at h
        exact key h
      | some g2 =>
        rw [e1] at h
        cases h
        exact key e1
    · exact key h
    · exact key h
    · exact key h
    · obtain ⟨q, -, h⟩ := Option.bind_eq_some_iff.mp h
      obtain ⟨c, -, h⟩ := Option.bind_eq_some_iff.mp h
      split at h <;> cases h
      exact ⟨_, am_set_at⟩
    · cases h
theorem am_psh_tr {g : am_G} {q : am_A} {n : Nat} : ∀ b, g.2.1 ≤ b → b < (am_psh g q n).2.1 → ∃ z, (am_psh g q n).1 b = some z := by
  intro b h1 h2
  have h2 : b < g.2.1 + 1 := h2
  obtain rfl : b = g.2.1 := by omega
  exact ⟨q, by simp [am_psh]⟩
theorem am_mul_tr {g : am_G} {n k : Nat} : ∀ b, g.2.1 ≤ b → b < (am_mul g n k).2.1 → ∃ z, (am_mul g n k).1 b = some z := by
  intro b h1 h2
  have h2 : b < g.2.1 + 1 + n := h2
  unfold am_mul
  dsimp only
  by_cases e : b = g.2.1
  · rw [if_pos e]; exact ⟨_, rfl⟩
  · rw [if_neg e, if_pos ⟨by omega, h2⟩]; exact ⟨_, rfl⟩
section AMH
variable {i : Nat → Nat} {sz : Nat} {dC : Nat → ClassId} {dI : Nat → Nat → Nat} {cA : FieldType → ClassId}
variable {p : Program} {l : Launch} {e : Env} {R : Room} {s : State} {m : MethodId} {args : Array Value} {below : List Frame} {meth : Method} {c : Code} {H : Heap} {locs : List Loc} {cells slots : Nat} {Q : State → Prop}
variable {cc : ByteArray} {pc : Nat} {ls : Array Slot} {rest : List Value} {g g' : am_G}
theorem am_w_alen (hexec : p.tables.exec = Jvm.exec) (hb : c.code = cc) (hK : am_KK dC dI cA s) (hO : am_OA dI s) (hR : am_R i dC dI cA g H) {a n : Nat} (h : am_sz g a = some n) (hdg : decode cc pc = .ok (.arraylength, 1))
    (kk : W p l e R s m args below meth c H locs cells slots Q (F0 m (pc + 1) ls (.int (Int32.ofNat n) :: rest))) : W p l e R s m args below meth c H locs cells slots Q (F0 m pc ls (.ref (i a) :: rest)) := by
  unfold am_sz at h
  split at h <;> rename_i e
  · rename_i ty n0 x
    cases h
    have hat := (hR.1 _ _ e).2
    have old : ∀ {x}, (∀ f, x ≠ .inl f) → am_at i dC dI cA a (.inl (ty, n, x)) H → ty ∈ am_tys ∧ H[i a]? = some (vp_cell (cA ty) (n, am_xc i x)) := by
      rintro x hx ⟨h1, ⟨-, h2⟩ | ⟨-, -, cell, -, f, h5, -⟩⟩
      · exact ⟨h1, h2⟩
      · exact absurd h5 (hx f)
    rcases x with f | f | f | f | f
    · obtain ⟨cell, g1, g2, g3, g4, g5⟩ := hat.rd hK hO
      exact W.alen (n := Int32.ofNat n) hexec hb g1 g2 g4.2 rfl rfl hdg kk
    · obtain ⟨hty, q1⟩ := old (fun f => by simp) hat
      exact W.alen (n := Int32.ofNat n) hexec hb q1 ((hK.2 ty hty).1 n (fun j => .long (f j))) (by show (arrV _ _ _).slots.size.toInt32 = _; rw [arrV_size] <;> rfl) rfl rfl hdg kk
    · obtain ⟨hty, q1⟩ := old (fun f => by simp) hat
      exact W.alen (n := Int32.ofNat n) hexec hb q1 ((hK.2 ty hty).1 n (fun j => .float (f j))) (by show (arrV _ _ _).slots.size.toInt32 = _; rw [arrV_size] <;> rfl) rfl rfl hdg kk
    · obtain ⟨hty, q1⟩ := old (fun f => by simp) hat
      exact W.alen (n := Int32.ofNat n) hexec hb q1 ((hK.2 ty hty).1 n (fun j => .double (f j))) (by show (arrV _ _ _).slots.size.toInt32 = _; rw [arrV_size] <;> rfl) rfl rfl hdg kk
    · obtain ⟨hty, q1⟩ := old (fun f => by simp) hat
      exact W.alen (n := Int32.ofNat n) hexec hb q1 ((hK.2 ty hty).1 n (fun j => va_rf ((f j).map i))) (by show (arrV _ _ _).slots.size.toInt32 = _; rw [arrV_size] <;> rfl) rfl rfl hdg kk
  · cases h
end AMH
