/-! Running the abstract machine by rewriting: what a step's result asks, and the rules for it. -/
def am_K (d P : Nat) (Q : am_Ou → am_G → Prop) (r : am_Re) : Prop := match r with
  | none => False
  | some (.inl f) => am_E d P Q f
  | some (.inr (.inl (o, g))) => Q o g
  | some (.inr (.inr (M, as, pc, L, st, g))) => am_C d M as g (am_bk P pc L st (am_E d P Q) Q)
section AMX
variable {d P pc T : Nat} {Q : am_Ou → am_G → Prop} {L : am_Lo} {st : List Value} {g : am_G} {x y : Int32}
theorem am_E_x {ins : Instr} (h : am_dc P pc = some ins) : am_E d P Q (pc, L, st, g) ↔ am_K d P Q (am_S P ins pc L st g) := by
  unfold am_K
  split <;> rename_i e
  · exact am_E_st h e
  · exact am_E_go h e
  · exact am_E_en h e
  · exact am_E_ca h e
theorem am_E_if {c : ClassFile.Cond} {off : Int} (h : am_dc P pc = some (.ifCond c off)) (hj : am_jok pc off = true) (hT : am_jp pc off = T) : am_E d P Q (pc, L, .int x :: st, g) ↔ am_E d P Q (am_cmp c x 0 T (pc + 3), L, st, g) := by
  refine am_E_go h ?_
  unfold am_S
  dsimp only
  rw [if_pos hj, hT]
  rfl
theorem am_E_ic {c : ClassFile.Cond} {off : Int} (h : am_dc P pc = some (.if_icmp c off)) (hj : am_jok pc off = true) (hT : am_jp pc off = T) : am_E d P Q (pc, L, .int y :: .int x :: st, g) ↔ am_E d P Q (am_cmp c x y T (pc + 3), L, st, g) := by
  refine am_E_go h ?_
  unfold am_S
  dsimp only
  rw [if_pos hj, hT]
  rfl
theorem am_E_gt {off : Int} (h : am_dc P pc = some (.goto off)) (hj : am_jok pc off = true) (hT : am_jp pc off = T) : am_E d P Q (pc, L, st, g) ↔ am_E d P Q (T, L, st, g) := by
  refine am_E_go h ?_
  unfold am_S
  dsimp only
  rw [if_pos hj, hT]
  rfl
theorem am_E_ite {c : Prop} [Decidable c] {A B : Nat} : am_E d P Q (if c then A else B, L, st, g) ↔ if c then am_E d P Q (A, L, st, g) else am_E d P Q (B, L, st, g) := by
  split <;> exact Iff.rfl
theorem am_K_none : am_K d P Q none ↔ False := Iff.rfl
theorem am_K_go : am_K d P Q (am_go pc L st g) ↔ am_E d P Q (pc, L, st, g) := Iff.rfl
theorem am_K_en {o : am_Ou} : am_K d P Q (am_en o g) ↔ Q o g := Iff.rfl
theorem am_K_ca {M : Nat} {as : List Value} : am_K d P Q (am_ca M as pc L st g) ↔ am_C d M as g (am_bk P pc L st (am_E d P Q) Q) := Iff.rfl
theorem am_K_ite {c : Prop} [Decidable c] {a b : am_Re} : am_K d P Q (if c then a else b) ↔ if c then am_K d P Q a else am_K d P Q b := by
  split <;> exact Iff.rfl
theorem am_cmp_eq {A B : Nat} : am_cmp .eq x y A B = if x = y then A else B := rfl
theorem am_cmp_ne {A B : Nat} : am_cmp .ne x y A B = if x = y then B else A := rfl
theorem am_cmp_lt {A B : Nat} : am_cmp .lt x y A B = if x < y then A else B := rfl
theorem am_cmp_ge {A B : Nat} : am_cmp .ge x y A B = if y ≤ x then A else B := rfl
theorem am_cmp_gt {A B : Nat} : am_cmp .gt x y A B = if y < x then A else B := rfl
theorem am_cmp_le {A B : Nat} : am_cmp .le x y A B = if x ≤ y then A else B := rfl
end AMX
