/-! Running the abstract machine by rewriting: a rule for each kind of instruction. Written by program (wip/gen/gen30.py). -/
def am_K (d P : Nat) (Q : am_Ou → am_G → Prop) (r : am_Re) : Prop := match r with
  | none => False
  | some (.inl f) => am_E d P Q f
  | some (.inr (.inl (o, g))) => Q o g
  | some (.inr (.inr (M, as, pc, L, st, g))) => am_C d M as g (am_bk P pc L st (am_E d P Q) Q)
/-- behind a read -/
def am_kv (d P : Nat) (Q : am_Ou → am_G → Prop) (T : Nat) (L : am_Lo) (st : List Value) (g : am_G) (v : Option Value) : Prop := match v with
  | none => False
  | some v => am_E d P Q (T, L, v :: st, g)
/-- behind a write -/
def am_kg (d P : Nat) (Q : am_Ou → am_G → Prop) (T : Nat) (L : am_Lo) (st : List Value) (g : Option am_G) : Prop := match g with
  | none => False
  | some g => am_E d P Q (T, L, st, g)
section AMX
variable {d P pc T : Nat} {Q : am_Ou → am_G → Prop} {L : am_Lo} {st : List Value} {g : am_G} {x y : Int32}
theorem am_kv_some {v : Value} : am_kv d P Q T L st g (some v) ↔ am_E d P Q (T, L, v :: st, g) := Iff.rfl
theorem am_kv_none : am_kv d P Q T L st g none ↔ False := Iff.rfl
theorem am_kg_some : am_kg d P Q T L st (some g) ↔ am_E d P Q (T, L, st, g) := Iff.rfl
theorem am_kg_none : am_kg d P Q T L st none ↔ False := Iff.rfl
theorem am_E_x {ins : Instr} (h : am_dc P pc = some ins) : am_E d P Q (pc, L, st, g) ↔ am_K d P Q (am_S P ins pc L st g) := by
  unfold am_K
  split <;> rename_i e
  · exact am_E_st h e
  · exact am_E_go h e
  · exact am_E_en h e
  · exact am_E_ca h e
theorem am_E_if {c : ClassFile.Cond} {off : Int} (h : am_dc P pc = some (.ifCond c off)) (hj : am_jok pc off = true) (hT : am_jp pc off = T) : am_E d P Q (pc, L, .int x :: st, g) ↔ am_E d P Q (am_cmp c x 0 T (pc + 3), L, st, g) := by
  refine am_E_go h ?_
  unfold am_S
  dsimp only
  rw [if_pos hj, hT]
  rfl
theorem am_E_ic {c : ClassFile.Cond} {off : Int} (h : am_dc P pc = some (.if_icmp c off)) (hj : am_jok pc off = true) (hT : am_jp pc off = T) : am_E d P Q (pc, L, .int y :: .int x :: st, g) ↔ am_E d P Q (am_cmp c x y T (pc + 3), L, st, g) := by
  refine am_E_go h ?_
  unfold am_S
  dsimp only
  rw [if_pos hj, hT]
  rfl
theorem am_E_gt {off : Int} (h : am_dc P pc = some (.goto off)) (hj : am_jok pc off = true) (hT : am_jp pc off = T) : am_E d P Q (pc, L, st, g) ↔ am_E d P Q (T, L, st, g) := by
  refine am_E_go h ?_
  unfold am_S
  dsimp only
  rw [if_pos hj, hT]
  rfl
theorem am_E_ite {c : Prop} [Decidable c] {A B : Nat} : am_E d P Q (if c then A else B, L, st, g) ↔ if c then am_E d P Q (A, L, st, g) else am_E d P Q (B, L, st, g) := by
  split <;> exact Iff.rfl
theorem am_cmp_eq {A B : Nat} : am_cmp .eq x y A B = if x = y then A else B := rfl
theorem am_cmp_ne {A B : Nat} : am_cmp .ne x y A B = if x = y then B else A := rfl
theorem am_cmp_lt {A B : Nat} : am_cmp .lt x y A B = if x < y then A else B := rfl
theorem am_cmp_ge {A B : Nat} : am_cmp .ge x y A B = if y ≤ x then A else B := rfl
theorem am_cmp_gt {A B : Nat} : am_cmp .gt x y A B = if y < x then A else B := rfl
theorem am_cmp_le {A B : Nat} : am_cmp .le x y A B = if x ≤ y then A else B := rfl
theorem am_E_iconst {n : Int} {v : Int32} (h : am_dc P pc = some (.iconst n)) (hv : Int32.ofInt n = v) (hT : pc + 1 = T) : am_E d P Q (pc, L, st, g) ↔ am_E d P Q (T, L, .int v :: st, g) := by
  subst hT
  subst hv
  exact am_E_go h rfl
theorem am_E_bipush {n : Int} {v : Int32} (h : am_dc P pc = some (.bipush n)) (hv : (Int8.ofInt n).toInt32 = v) (hT : pc + 2 = T) : am_E d P Q (pc, L, st, g) ↔ am_E d P Q (T, L, .int v :: st, g) := by
  subst hT
  subst hv
  exact am_E_go h rfl
theorem am_E_sipush {n : Int} {v : Int32} (h : am_dc P pc = some (.sipush n)) (hv : (Int16.ofInt n).toInt32 = v) (hT : pc + 3 = T) : am_E d P Q (pc, L, st, g) ↔ am_E d P Q (T, L, .int v :: st, g) := by
  subst hT
  subst hv
  exact am_E_go h rfl
theorem am_E_lconst {n : Fin 2} {v : Int64} (h : am_dc P pc = some (.lconst n)) (hv : Int64.ofNat (n : Nat) = v) (hT : pc + 1 = T) : am_E d P Q (pc, L, st, g) ↔ am_E d P Q (T, L, .long v :: st, g) := by
  subst hT
  subst hv
  exact am_E_go h rfl
theorem am_E_fconst0  (h : am_dc P pc = some (.fconst 0))  (hT : pc + 1 = T) : am_E d P Q (pc, L, st, g) ↔ am_E d P Q (T, L, .float FP.fconst0 :: st, g) := by
  subst hT
  exact am_E_go h rfl
theorem am_E_iload_n {k : Fin 4} {j : Nat} (h : am_dc P pc = some (.iload_n k)) (hk : (k : Nat) = j) (hT : pc + 1 = T) : am_E d P Q (pc, L, st, g) ↔ am_K d P Q (am_ldI T L st g j) := by
  subst hT
  subst hk
  exact am_E_x h
theorem am_E_iload {j : Nat} (h : am_dc P pc = some (.iload j))  (hT : pc + 2 = T) : am_E d P Q (pc, L, st, g) ↔ am_K d P Q (am_ldI T L st g j) := by
  subst hT
  exact am_E_x h
theorem am_E_istore_n {k : Fin 4} {j : Nat} (h : am_dc P pc = some (.istore_n k)) (hk : (k : Nat) = j) (hT : pc + 1 = T) : am_E d P Q (pc, L, st, g) ↔ am_K d P Q (am_stI T L st g j) := by
  subst hT
  subst hk
  exact am_E_x h
theorem am_E_istore {j : Nat} (h : am_dc P pc = some (.istore j))  (hT : pc + 2 = T) : am_E d P Q (pc, L, st, g) ↔ am_K d P Q (am_stI T L st g j) := by
  subst hT
  exact am_E_x h
theorem am_E_lload_n {k : Fin 4} {j : Nat} (h : am_dc P pc = some (.lload_n k)) (hk : (k : Nat) = j) (hT : pc + 1 = T) : am_E d P Q (pc, L, st, g) ↔ am_K d P Q (am_ldL T L st g j) := by
  subst hT
  subst hk
  exact am_E_x h
theorem am_E_lload {j : Nat} (h : am_dc P pc = some (.lload j))  (hT : pc + 2 = T) : am_E d P Q (pc, L, st, g) ↔ am_K d P Q (am_ldL T L st g j) := by
  subst hT
  exact am_E_x h
theorem am_E_lstore_n {k : Fin 4} {j : Nat} (h : am_dc P pc = some (.lstore_n k)) (hk : (k : Nat) = j) (hT : pc + 1 = T) : am_E d P Q (pc, L, st, g) ↔ am_K d P Q (am_stL T L st g j) := by
  subst hT
  subst hk
  exact am_E_x h
theorem am_E_lstore {j : Nat} (h : am_dc P pc = some (.lstore j))  (hT : pc + 2 = T) : am_E d P Q (pc, L, st, g) ↔ am_K d P Q (am_stL T L st g j) := by
  subst hT
  exact am_E_x h
theorem am_E_fload_n {k : Fin 4} {j : Nat} (h : am_dc P pc = some (.fload_n k)) (hk : (k : Nat) = j) (hT : pc + 1 = T) : am_E d P Q (pc, L, st, g) ↔ am_K d P Q (am_ldF T L st g j) := by
  subst hT
  subst hk
  exact am_E_x h
theorem am_E_fload {j : Nat} (h : am_dc P pc = some (.fload j))  (hT : pc + 2 = T) : am_E d P Q (pc, L, st, g) ↔ am_K d P Q (am_ldF T L st g j) := by
  subst hT
  exact am_E_x h
theorem am_E_fstore_n {k : Fin 4} {j : Nat} (h : am_dc P pc = some (.fstore_n k)) (hk : (k : Nat) = j) (hT : pc + 1 = T) : am_E d P Q (pc, L, st, g) ↔ am_K d P Q (am_stF T L st g j) := by
  subst hT
  subst hk
  exact am_E_x h
theorem am_E_fstore {j : Nat} (h : am_dc P pc = some (.fstore j))  (hT : pc + 2 = T) : am_E d P Q (pc, L, st, g) ↔ am_K d P Q (am_stF T L st g j) := by
  subst hT
  exact am_E_x h
theorem am_E_aload_n {k : Fin 4} {j : Nat} (h : am_dc P pc = some (.aload_n k)) (hk : (k : Nat) = j) (hT : pc + 1 = T) : am_E d P Q (pc, L, st, g) ↔ am_K d P Q (am_ldA T L st g j) := by
  subst hT
  subst hk
  exact am_E_x h
theorem am_E_aload {j : Nat} (h : am_dc P pc = some (.aload j))  (hT : pc + 2 = T) : am_E d P Q (pc, L, st, g) ↔ am_K d P Q (am_ldA T L st g j) := by
  subst hT
  exact am_E_x h
theorem am_E_astore_n {k : Fin 4} {j : Nat} (h : am_dc P pc = some (.astore_n k)) (hk : (k : Nat) = j) (hT : pc + 1 = T) : am_E d P Q (pc, L, st, g) ↔ am_K d P Q (am_stA T L st g j) := by
  subst hT
  subst hk
  exact am_E_x h
theorem am_E_astore {j : Nat} (h : am_dc P pc = some (.astore j))  (hT : pc + 2 = T) : am_E d P Q (pc, L, st, g) ↔ am_K d P Q (am_stA T L st g j) := by
  subst hT
  exact am_E_x h
/-- a local that is read or written, by what stands there -/
theorem am_lvI {j : Nat} {z : Int32} (h : L.getD j none = some (.int z)) : am_K d P Q (am_ldI pc L st g j) ↔ am_E d P Q (pc, L, .int z :: st, g) := by unfold am_ldI; rw [h]; exact Iff.rfl
theorem am_lvL {j : Nat} {z : Int64} (h : L.getD j none = some (.long z)) : am_K d P Q (am_ldL pc L st g j) ↔ am_E d P Q (pc, L, .long z :: st, g) := by unfold am_ldL; rw [h]; exact Iff.rfl
theorem am_lvF {j : Nat} {z : UInt32} (h : L.getD j none = some (.float z)) : am_K d P Q (am_ldF pc L st g j) ↔ am_E d P Q (pc, L, .float z :: st, g) := by unfold am_ldF; rw [h]; exact Iff.rfl
theorem am_lvA {j : Nat} {z : Nat} (h : L.getD j none = some (.ref z)) : am_K d P Q (am_ldA pc L st g j) ↔ am_E d P Q (pc, L, .ref z :: st, g) := by unfold am_ldA; rw [h]; exact Iff.rfl
theorem am_K_go : am_K d P Q (am_go pc L st g) ↔ am_E d P Q (pc, L, st, g) := Iff.rfl
theorem am_K_none : am_K d P Q none ↔ False := Iff.rfl
theorem am_K_en {o : am_Ou} : am_K d P Q (am_en o g) ↔ Q o g := Iff.rfl
theorem am_K_ca {M : Nat} {as : List Value} : am_K d P Q (am_ca M as pc L st g) ↔ am_C d M as g (am_bk P pc L st (am_E d P Q) Q) := Iff.rfl
theorem am_K_ite {c : Prop} [Decidable c] {a b : am_Re} : am_K d P Q (if c then a else b) ↔ if c then am_K d P Q a else am_K d P Q b := by
  split <;> exact Iff.rfl
theorem am_E_iadd  (h : am_dc P pc = some (.iadd))  (hT : pc + 1 = T) : am_E d P Q (pc, L, .int y :: .int x :: st, g) ↔ am_E d P Q (T, L, .int (x + y) :: st, g) := by
  subst hT
  exact am_E_go h rfl
theorem am_E_isub  (h : am_dc P pc = some (.isub))  (hT : pc + 1 = T) : am_E d P Q (pc, L, .int y :: .int x :: st, g) ↔ am_E d P Q (T, L, .int (x - y) :: st, g) := by
  subst hT
  exact am_E_go h rfl
theorem am_E_imul  (h : am_dc P pc = some (.imul))  (hT : pc + 1 = T) : am_E d P Q (pc, L, .int y :: .int x :: st, g) ↔ am_E d P Q (T, L, .int (x * y) :: st, g) := by
  subst hT
  exact am_E_go h rfl
theorem am_E_iand  (h : am_dc P pc = some (.iand))  (hT : pc + 1 = T) : am_E d P Q (pc, L, .int y :: .int x :: st, g) ↔ am_E d P Q (T, L, .int (x &&& y) :: st, g) := by
  subst hT
  exact am_E_go h rfl
theorem am_E_ishl  (h : am_dc P pc = some (.ishl))  (hT : pc + 1 = T) : am_E d P Q (pc, L, .int y :: .int x :: st, g) ↔ am_E d P Q (T, L, .int (x <<< (y &&& 31)) :: st, g) := by
  subst hT
  exact am_E_go h rfl
theorem am_E_ishr  (h : am_dc P pc = some (.ishr))  (hT : pc + 1 = T) : am_E d P Q (pc, L, .int y :: .int x :: st, g) ↔ am_E d P Q (T, L, .int (x >>> (y &&& 31)) :: st, g) := by
  subst hT
  exact am_E_go h rfl
theorem am_E_ladd {x y : Int64} (h : am_dc P pc = some (.ladd))  (hT : pc + 1 = T) : am_E d P Q (pc, L, .long y :: .long x :: st, g) ↔ am_E d P Q (T, L, .long (x + y) :: st, g) := by
  subst hT
  exact am_E_go h rfl
theorem am_E_lsub {x y : Int64} (h : am_dc P pc = some (.lsub))  (hT : pc + 1 = T) : am_E d P Q (pc, L, .long y :: .long x :: st, g) ↔ am_E d P Q (T, L, .long (x - y) :: st, g) := by
  subst hT
  exact am_E_go h rfl
theorem am_E_lmul {x y : Int64} (h : am_dc P pc = some (.lmul))  (hT : pc + 1 = T) : am_E d P Q (pc, L, .long y :: .long x :: st, g) ↔ am_E d P Q (T, L, .long (x * y) :: st, g) := by
  subst hT
  exact am_E_go h rfl
theorem am_E_idiv  (h : am_dc P pc = some .idiv) (hT : pc + 1 = T) : am_E d P Q (pc, L, .int y :: .int x :: st, g) ↔ if y = 0 then False else am_E d P Q (T, L, .int (x / y) :: st, g) := by
  subst hT
  refine (am_E_x h).trans ?_
  exact am_K_ite
theorem am_E_irem  (h : am_dc P pc = some .irem) (hT : pc + 1 = T) : am_E d P Q (pc, L, .int y :: .int x :: st, g) ↔ if y = 0 then False else am_E d P Q (T, L, .int (x - x / y * y) :: st, g) := by
  subst hT
  refine (am_E_x h).trans ?_
  exact am_K_ite
theorem am_E_ldiv {x y : Int64} (h : am_dc P pc = some .ldiv) (hT : pc + 1 = T) : am_E d P Q (pc, L, .long y :: .long x :: st, g) ↔ if y = 0 then False else am_E d P Q (T, L, .long (x / y) :: st, g) := by
  subst hT
  refine (am_E_x h).trans ?_
  exact am_K_ite
theorem am_E_lrem {x y : Int64} (h : am_dc P pc = some .lrem) (hT : pc + 1 = T) : am_E d P Q (pc, L, .long y :: .long x :: st, g) ↔ if y = 0 then False else am_E d P Q (T, L, .long (x - x / y * y) :: st, g) := by
  subst hT
  refine (am_E_x h).trans ?_
  exact am_K_ite
theorem am_E_ineg  (h : am_dc P pc = some (.ineg))  (hT : pc + 1 = T) : am_E d P Q (pc, L, .int x :: st, g) ↔ am_E d P Q (T, L, .int (-x) :: st, g) := by
  subst hT
  exact am_E_go h rfl
theorem am_E_lneg {x : Int64} (h : am_dc P pc = some (.lneg))  (hT : pc + 1 = T) : am_E d P Q (pc, L, .long x :: st, g) ↔ am_E d P Q (T, L, .long (-x) :: st, g) := by
  subst hT
  exact am_E_go h rfl
theorem am_E_lcmp {x y : Int64} (h : am_dc P pc = some (.lcmp))  (hT : pc + 1 = T) : am_E d P Q (pc, L, .long y :: .long x :: st, g) ↔ am_E d P Q (T, L, .int (lg_cmp x y) :: st, g) := by
  subst hT
  exact am_E_go h rfl
theorem am_E_i2l  (h : am_dc P pc = some (.i2l))  (hT : pc + 1 = T) : am_E d P Q (pc, L, .int x :: st, g) ↔ am_E d P Q (T, L, .long x.toInt64 :: st, g) := by
  subst hT
  exact am_E_go h rfl
theorem am_E_l2i {x : Int64} (h : am_dc P pc = some (.l2i))  (hT : pc + 1 = T) : am_E d P Q (pc, L, .long x :: st, g) ↔ am_E d P Q (T, L, .int x.toInt32 :: st, g) := by
  subst hT
  exact am_E_go h rfl
theorem am_E_i2c  (h : am_dc P pc = some (.i2c))  (hT : pc + 1 = T) : am_E d P Q (pc, L, .int x :: st, g) ↔ am_E d P Q (T, L, .int (x.toUInt32 % 65536).toInt32 :: st, g) := by
  subst hT
  exact am_E_go h rfl
theorem am_E_i2b  (h : am_dc P pc = some (.i2b))  (hT : pc + 1 = T) : am_E d P Q (pc, L, .int x :: st, g) ↔ am_E d P Q (T, L, .int x.toInt8.toInt32 :: st, g) := by
  subst hT
  exact am_E_go h rfl
theorem am_E_i2f  (h : am_dc P pc = some (.i2f))  (hT : pc + 1 = T) : am_E d P Q (pc, L, .int x :: st, g) ↔ am_E d P Q (T, L, .float (FP.i2f x) :: st, g) := by
  subst hT
  exact am_E_go h rfl
theorem am_E_fcmp {x y : UInt32} {op : CmpOp} (h : am_dc P pc = some (.fcmp op))  (hT : pc + 1 = T) : am_E d P Q (pc, L, .float y :: .float x :: st, g) ↔ am_E d P Q (T, L, .int (Op.cmpValue (FP.fcmp x y) op) :: st, g) := by
  subst hT
  exact am_E_go h rfl
theorem am_E_dcmp {x y : UInt64} {op : CmpOp} (h : am_dc P pc = some (.dcmp op))  (hT : pc + 1 = T) : am_E d P Q (pc, L, .double y :: .double x :: st, g) ↔ am_E d P Q (T, L, .int (Op.cmpValue (FP.dcmp x y) op) :: st, g) := by
  subst hT
  exact am_E_go h rfl
theorem am_E_f2d {x : UInt32} (h : am_dc P pc = some .f2d) (hT : pc + 1 = T) : am_E d P Q (pc, L, .float x :: st, g) ↔ if FP.f2d x &&& 0x7fffffffffffffff ≤ 0x7ff0000000000000 then am_E d P Q (T, L, .double (FP.f2d x) :: st, g) else False := by
  subst hT
  exact (am_E_x h).trans am_K_ite
theorem am_E_fdiv {x y : UInt32} (h : am_dc P pc = some .fdiv) (hT : pc + 1 = T) : am_E d P Q (pc, L, .float y :: .float x :: st, g) ↔ if FP.fdiv x y &&& 0x7fffffff ≤ 0x7f800000 then am_E d P Q (T, L, .float (FP.fdiv x y) :: st, g) else False := by
  subst hT
  exact (am_E_x h).trans am_K_ite
theorem am_E_dup {v : Value} (h : am_dc P pc = some .dup) (hT : pc + 1 = T) : am_E d P Q (pc, L, v :: st, g) ↔ if v.category = 1 then am_E d P Q (T, L, v :: v :: st, g) else False := by
  subst hT
  exact (am_E_x h).trans am_K_ite
theorem am_E_pop {v : Value} (h : am_dc P pc = some .pop) (hT : pc + 1 = T) : am_E d P Q (pc, L, v :: st, g) ↔ if v.category = 1 then am_E d P Q (T, L, st, g) else False := by
  subst hT
  exact (am_E_x h).trans am_K_ite
theorem am_E_dup2 {v w : Value} (h : am_dc P pc = some .dup2) (hT : pc + 1 = T) : am_E d P Q (pc, L, v :: w :: st, g) ↔ if v.category = 1 ∧ w.category = 1 then am_E d P Q (T, L, v :: w :: v :: w :: st, g) else False := by
  subst hT
  exact (am_E_x h).trans am_K_ite
theorem am_E_dup_x1 {v w : Value} (h : am_dc P pc = some .dup_x1) (hT : pc + 1 = T) : am_E d P Q (pc, L, v :: w :: st, g) ↔ if v.category = 1 ∧ w.category = 1 then am_E d P Q (T, L, v :: w :: v :: st, g) else False := by
  subst hT
  exact (am_E_x h).trans am_K_ite
theorem am_E_iinc {k : Nat} {n : Int} {v : Int32} (h : am_dc P pc = some (.iinc k n)) (hv : Int32.ofInt n = v) (hT : pc + 3 = T) (hk : L.getD k none = some (.int x)) (hl : k < L.length) : am_E d P Q (pc, L, st, g) ↔ am_E d P Q (T, am_s1 L k (.int (x + v)), st, g) := by
  subst hT hv
  refine am_E_go h ?_
  unfold am_S
  dsimp only
  rw [hk]
  dsimp only
  rw [if_pos hl]
  rfl
theorem am_E_getfield {k c j a : Nat} (h : am_dc P pc = some (.getfield k)) (hf : am_fl P k = some (c, j)) (hT : pc + 3 = T) : am_E d P Q (pc, L, .ref a :: st, g) ↔ am_kv d P Q T L st g (am_gf g a c j) := by
  subst hT
  refine (am_E_x h).trans ?_
  unfold am_S
  dsimp only
  rw [hf]
  cases e : am_gf g a c j with
  | none => rw [Option.bind_some, e]; exact Iff.rfl
  | some v => rw [Option.bind_some, e]; exact Iff.rfl
theorem am_E_putfield {k c j a : Nat} {v : Value} (h : am_dc P pc = some (.putfield k)) (hf : am_fl P k = some (c, j)) (hT : pc + 3 = T) (hok : (am_ok (am_ft c j).1 v && (!(am_ft c j).2 || (am_ini P && am_co c == am_o P)) && decide (c < 13)) = true) : am_E d P Q (pc, L, v :: .ref a :: st, g) ↔ am_kg d P Q T L st (am_pf g a c j v) := by
  subst hT
  refine (am_E_x h).trans ?_
  unfold am_S
  dsimp only
  rw [hf, Option.bind_some, if_pos hok]
  cases e : am_pf g a c j v with
  | none => exact Iff.rfl
  | some v => exact Iff.rfl
theorem am_E_alen {a : Nat} (h : am_dc P pc = some .arraylength) (hT : pc + 1 = T) : am_E d P Q (pc, L, .ref a :: st, g) ↔ am_kv d P Q T L st g ((am_sz g a).map fun n => .int (Int32.ofNat n)) := by
  subst hT
  refine (am_E_x h).trans ?_
  unfold am_S
  dsimp only
  cases e : am_sz g a with
  | none => exact Iff.rfl
  | some v => exact Iff.rfl
theorem am_E_iaload {a : Nat} (h : am_dc P pc = some .iaload) (hT : pc + 1 = T) : am_E d P Q (pc, L, .int x :: .ref a :: st, g) ↔ am_kv d P Q T L st g (am_iat .iaload g a x) := by
  subst hT
  refine (am_E_x h).trans ?_
  show am_K d P Q ((am_iat .iaload g a x).bind fun v => am_go (pc + 1) L (v :: st) g) ↔ _
  cases e : am_iat .iaload g a x with
  | none => exact Iff.rfl
  | some v => exact Iff.rfl
theorem am_E_baload {a : Nat} (h : am_dc P pc = some .baload) (hT : pc + 1 = T) : am_E d P Q (pc, L, .int x :: .ref a :: st, g) ↔ am_kv d P Q T L st g (am_iat .baload g a x) := by
  subst hT
  refine (am_E_x h).trans ?_
  show am_K d P Q ((am_iat .baload g a x).bind fun v => am_go (pc + 1) L (v :: st) g) ↔ _
  cases e : am_iat .baload g a x with
  | none => exact Iff.rfl
  | some v => exact Iff.rfl
theorem am_E_caload {a : Nat} (h : am_dc P pc = some .caload) (hT : pc + 1 = T) : am_E d P Q (pc, L, .int x :: .ref a :: st, g) ↔ am_kv d P Q T L st g (am_iat .caload g a x) := by
  subst hT
  refine (am_E_x h).trans ?_
  show am_K d P Q ((am_iat .caload g a x).bind fun v => am_go (pc + 1) L (v :: st) g) ↔ _
  cases e : am_iat .caload g a x with
  | none => exact Iff.rfl
  | some v => exact Iff.rfl
theorem am_E_laload {a : Nat} (h : am_dc P pc = some .laload) (hT : pc + 1 = T) : am_E d P Q (pc, L, .int x :: .ref a :: st, g) ↔ am_kv d P Q T L st g (am_iat .laload g a x) := by
  subst hT
  refine (am_E_x h).trans ?_
  show am_K d P Q ((am_iat .laload g a x).bind fun v => am_go (pc + 1) L (v :: st) g) ↔ _
  cases e : am_iat .laload g a x with
  | none => exact Iff.rfl
  | some v => exact Iff.rfl
theorem am_E_daload {a : Nat} (h : am_dc P pc = some .daload) (hT : pc + 1 = T) : am_E d P Q (pc, L, .int x :: .ref a :: st, g) ↔ am_kv d P Q T L st g (am_iat .daload g a x) := by
  subst hT
  refine (am_E_x h).trans ?_
  show am_K d P Q ((am_iat .daload g a x).bind fun v => am_go (pc + 1) L (v :: st) g) ↔ _
  cases e : am_iat .daload g a x with
  | none => exact Iff.rfl
  | some v => exact Iff.rfl
theorem am_E_aaload {a : Nat} (h : am_dc P pc = some .aaload) (hT : pc + 1 = T) : am_E d P Q (pc, L, .int x :: .ref a :: st, g) ↔ am_kv d P Q T L st g (am_iat .aaload g a x) := by
  subst hT
  refine (am_E_x h).trans ?_
  show am_K d P Q ((am_iat .aaload g a x).bind fun v => am_go (pc + 1) L (v :: st) g) ↔ _
  cases e : am_iat .aaload g a x with
  | none => exact Iff.rfl
  | some v => exact Iff.rfl
theorem am_E_iastore {a : Nat} {v : Value} (h : am_dc P pc = some .iastore) (hT : pc + 1 = T) : am_E d P Q (pc, L, v :: .int x :: .ref a :: st, g) ↔ am_kg d P Q T L st (am_sat .iastore g a x v) := by
  subst hT
  refine (am_E_x h).trans ?_
  show am_K d P Q ((am_sat .iastore g a x v).bind fun g' => am_go (pc + 1) L st g') ↔ _
  cases e : am_sat .iastore g a x v with
  | none => exact Iff.rfl
  | some v => exact Iff.rfl
theorem am_E_bastore {a : Nat} {v : Value} (h : am_dc P pc = some .bastore) (hT : pc + 1 = T) : am_E d P Q (pc, L, v :: .int x :: .ref a :: st, g) ↔ am_kg d P Q T L st (am_sat .bastore g a x v) := by
  subst hT
  refine (am_E_x h).trans ?_
  show am_K d P Q ((am_sat .bastore g a x v).bind fun g' => am_go (pc + 1) L st g') ↔ _
  cases e : am_sat .bastore g a x v with
  | none => exact Iff.rfl
  | some v => exact Iff.rfl
theorem am_E_castore {a : Nat} {v : Value} (h : am_dc P pc = some .castore) (hT : pc + 1 = T) : am_E d P Q (pc, L, v :: .int x :: .ref a :: st, g) ↔ am_kg d P Q T L st (am_sat .castore g a x v) := by
  subst hT
  refine (am_E_x h).trans ?_
  show am_K d P Q ((am_sat .castore g a x v).bind fun g' => am_go (pc + 1) L st g') ↔ _
  cases e : am_sat .castore g a x v with
  | none => exact Iff.rfl
  | some v => exact Iff.rfl
theorem am_E_lastore {a : Nat} {v : Value} (h : am_dc P pc = some .lastore) (hT : pc + 1 = T) : am_E d P Q (pc, L, v :: .int x :: .ref a :: st, g) ↔ am_kg d P Q T L st (am_sat .lastore g a x v) := by
  subst hT
  refine (am_E_x h).trans ?_
  show am_K d P Q ((am_sat .lastore g a x v).bind fun g' => am_go (pc + 1) L st g') ↔ _
  cases e : am_sat .lastore g a x v with
  | none => exact Iff.rfl
  | some v => exact Iff.rfl
theorem am_E_dastore {a : Nat} {v : Value} (h : am_dc P pc = some .dastore) (hT : pc + 1 = T) : am_E d P Q (pc, L, v :: .int x :: .ref a :: st, g) ↔ am_kg d P Q T L st (am_sat .dastore g a x v) := by
  subst hT
  refine (am_E_x h).trans ?_
  show am_K d P Q ((am_sat .dastore g a x v).bind fun g' => am_go (pc + 1) L st g') ↔ _
  cases e : am_sat .dastore g a x v with
  | none => exact Iff.rfl
  | some v => exact Iff.rfl
theorem am_E_aastore {a : Nat} {v : Value} (h : am_dc P pc = some .aastore) (hT : pc + 1 = T) : am_E d P Q (pc, L, v :: .int x :: .ref a :: st, g) ↔ am_kg d P Q T L st (am_sat .aastore g a x v) := by
  subst hT
  refine (am_E_x h).trans ?_
  show am_K d P Q ((am_sat .aastore g a x v).bind fun g' => am_go (pc + 1) L st g') ↔ _
  cases e : am_sat .aastore g a x v with
  | none => exact Iff.rfl
  | some v => exact Iff.rfl
theorem am_E_ireturn (h : am_dc P pc = some .ireturn) {t : FieldType} (ht : am_t P = some t) : am_E d P Q (pc, L, [.int x], g) ↔ if am_ok t (.int x) = true then Q (.inl (some (.int x))) g else False := by
  refine (am_E_x h).trans ?_
  show am_K d P Q (if am_rk (am_t P) (.int x) = true then am_en (.inl (some (.int x))) g else none) ↔ _
  rw [ht]
  exact am_K_ite
theorem am_E_lreturn {x : Int64} (h : am_dc P pc = some .lreturn) (ht : am_t P = some .long) : am_E d P Q (pc, L, [.long x], g) ↔ Q (.inl (some (.long x))) g := by
  refine (am_E_x h).trans ?_
  show am_K d P Q (if am_t P = some .long then am_en (.inl (some (.long x))) g else none) ↔ _
  rw [if_pos ht]
  exact Iff.rfl
theorem am_E_freturn {x : UInt32} (h : am_dc P pc = some .freturn) (ht : am_t P = some .float) : am_E d P Q (pc, L, [.float x], g) ↔ Q (.inl (some (.float x))) g := by
  refine (am_E_x h).trans ?_
  show am_K d P Q (if am_t P = some .float then am_en (.inl (some (.float x))) g else none) ↔ _
  rw [if_pos ht]
  exact Iff.rfl
theorem am_E_areturn {a : Nat} (h : am_dc P pc = some .areturn) {t : FieldType} (ht : am_t P = some t) : am_E d P Q (pc, L, [.ref a], g) ↔ if am_ok t (.ref a) = true then Q (.inl (some (.ref a))) g else False := by
  refine (am_E_x h).trans ?_
  show am_K d P Q (if am_rk (am_t P) (.ref a) = true then am_en (.inl (some (.ref a))) g else none) ↔ _
  rw [ht]
  exact am_K_ite
theorem am_E_return (h : am_dc P pc = some .return_) (ht : am_t P = none) : am_E d P Q (pc, L, [], g) ↔ Q (.inl none) g := by
  refine (am_E_x h).trans ?_
  show am_K d P Q (if am_t P = none then am_en (.inl none) g else none) ↔ _
  rw [if_pos ht]
  exact Iff.rfl
end AMX
