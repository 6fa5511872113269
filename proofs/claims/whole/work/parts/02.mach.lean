/-! An abstract machine: cells at small numbers, a frame as lists, one step as a function; then a goal-first judgement over it. Old cells (the script, constants) stand below 32, cells that the law makes from 32 on. -/
abbrev am_A : Type := (FieldType × vp_A) ⊕ (Nat × (Nat → Value))
abbrev am_G : Type := (Nat → Option am_A) × Nat × Nat × Nat
abbrev am_Lo : Type := List (Option Value)
abbrev am_Ou : Type := Option Value ⊕ (Nat × Nat)
abbrev am_Fr : Type := Nat × am_Lo × List Value × am_G
abbrev am_Cl : Type := Nat × List Value × Nat × am_Lo × List Value × am_G
abbrev am_Re : Type := Option (am_Fr ⊕ ((am_Ou × am_G) ⊕ am_Cl))
def am_b (P : Nat) : ByteArray := am_B.getD P ⟨#[]⟩
def am_m (P : Nat) : Nat := am_M.getD P 0
def am_t (P : Nat) : Option FieldType := am_T.getD P none
def am_o (P : Nat) : Nat := am_O.getD P 0
def am_y (P : Nat) : MethodName := am_Y.getD P ⟨"", "", ""⟩
def am_n (o : Nat) : String := am_N.getD o ""
def am_h (P : Nat) : List (Nat × Nat × Nat × Nat × Nat) := ((am_H.find? (fun r => r.1 == P)).map (fun r => r.2)).getD []
def am_fl (P i : Nat) : Option (Nat × Nat) := ((am_tF.getD (am_o P) []).find? (fun r => r.1 == i)).map (fun r => (r.2.1, r.2.2.1))
def am_iv (P i : Nat) : Option (Nat × Nat × Nat) := ((am_tI.getD (am_o P) []).find? (fun r => r.1 == i)).map (fun r => (r.2.1, r.2.2.1, r.2.2.2.1))
def am_nw (P i : Nat) : Option Nat := ((am_tW.getD (am_o P) []).find? (fun r => r.1 == i)).map (fun r => r.2.1)
def am_xw (P i : Nat) : Option (Nat × Nat) := ((am_tX.getD (am_o P) []).find? (fun r => r.1 == i)).map (fun r => (r.2.1, r.2.2.1))
def am_ci (P i : Nat) : Option Int32 := ((am_tC.getD (am_o P) []).find? (fun r => r.1 == i)).map (fun r => r.2.1)
def am_cl8 (P i : Nat) : Option Int64 := ((am_tL.getD (am_o P) []).find? (fun r => r.1 == i)).map (fun r => r.2.1)
def am_cs (P i : Nat) : Option Nat := ((am_Sr.getD (am_o P) []).find? (fun r => r.1 == i)).map (fun r => r.2)
def am_gs (P i : Nat) : Option Nat := ((am_St.getD (am_o P) []).find? (fun r => r.1 == i)).map (fun r => r.2)
def am_an (P i : Nat) : Option String := ((am_An.getD (am_o P) []).find? (fun r => r.1 == i)).map (fun r => r.2.1)
def am_mu (P i : Nat) : Bool := ((am_Mu.getD (am_o P) []).find? (fun r => r.1 == i)).isSome
def am_ft (c k : Nat) : FieldType × Bool := ((am_Ty.getD c []).getD k (.int, true))
def am_nf (c : Nat) : Nat := (am_Ty.getD c []).length
def am_co (c : Nat) : Nat := am_CO.getD c 0
def am_ini (P : Nat) : Bool := am_Ini.contains P
/-- a value fits a type as it stands -/
def am_ok : FieldType → Value → Bool
  | .int, .int _ => true
  | .long, .long _ => true
  | .float, .float _ => true
  | .double, .double _ => true
  | .object _, .ref _ => true
  | .array _, .ref _ => true
  | .boolean, .int x => x == 0 || x == 1
  | .char, .int x => decide ((x.toUInt32 % 65536).toInt32 = x)
  | .byte, .int x => decide (x.toInt8.toInt32 = x)
  | _, _ => false
def am_rk : Option FieldType → Value → Bool
  | some t, v => am_ok t v
  | none, _ => false
/-- heap: reads and writes -/
def am_set (g : am_G) (a : Nat) (c : am_A) : am_G := (fun b => if b = a then some c else g.1 b, g.2)
def am_psh (g : am_G) (c : am_A) (n : Nat) : am_G := (fun b => if b = g.2.1 then some c else g.1 b, g.2.1 + 1, g.2.2.1 - 1, g.2.2.2 - n)
def am_gf (g : am_G) (a ci k : Nat) : Option Value := match g.1 a with
  | some (.inr (c, V)) => if c = ci then some (V k) else none
  | _ => none
def am_pf (g : am_G) (a ci k : Nat) (w : Value) : Option am_G := match g.1 a with
  | some (.inr (c, V)) => if c = ci ∧ 32 ≤ a then some (am_set g a (.inr (c, updV V k w))) else none
  | _ => none
def am_ai (g : am_G) (a : Nat) (ty : FieldType) : Option (Nat × (Nat → Int32)) := match g.1 a with
  | some (.inl (t, n, .inl f)) => if t = ty then some (n, f) else none
  | _ => none
def am_al (g : am_G) (a : Nat) : Option (Nat × (Nat → Int64)) := match g.1 a with
  | some (.inl (t, n, .inr (.inl f))) => if t = .long then some (n, f) else none
  | _ => none
def am_ad (g : am_G) (a : Nat) : Option (Nat × (Nat → UInt64)) := match g.1 a with
  | some (.inl (t, n, .inr (.inr (.inr (.inl f))))) => if t = .double then some (n, f) else none
  | _ => none
def am_ar (g : am_G) (a : Nat) : Option (FieldType × Nat × (Nat → Option Nat)) := match g.1 a with
  | some (.inl (t, n, .inr (.inr (.inr (.inr f))))) => if t.isReference = true then some (t, n, f) else none
  | _ => none
def am_sz (g : am_G) (a : Nat) : Option Nat := match g.1 a with
  | some (.inl (_, n, _)) => some n
  | _ => none
def am_oc (g : am_G) (a : Nat) : Option Nat := match g.1 a with
  | some (.inr (c, _)) => some c
  | _ => none
def am_out (i : Int32) (n : Nat) : Bool := decide (i < 0) || decide (n ≤ i.toNatClampNeg)
/-- results of a step -/
def am_go (pc : Nat) (L : am_Lo) (st : List Value) (g : am_G) : am_Re := some (.inl (pc, L, st, g))
def am_en (o : am_Ou) (g : am_G) : am_Re := some (.inr (.inl (o, g)))
def am_ca (M : Nat) (as : List Value) (pc : Nat) (L : am_Lo) (st : List Value) (g : am_G) : am_Re := some (.inr (.inr (M, as, pc, L, st, g)))
/-- locals -/
def am_clr (L : am_Lo) (i : Nat) : am_Lo := match i with
  | 0 => L
  | j + 1 => match L.getD j none with
    | some v => if v.category = 2 then L.set j none else L
    | none => L
def am_s1 (L : am_Lo) (i : Nat) (v : Value) : am_Lo := (am_clr L i).set i (some v)
def am_s2 (L : am_Lo) (i : Nat) (v : Value) : am_Lo := ((am_clr L i).set i (some v)).set (i + 1) none
def am_ldI (pc : Nat) (L : am_Lo) (st : List Value) (g : am_G) (i : Nat) : am_Re := match L.getD i none with
  | some (.int x) => am_go pc L (.int x :: st) g
  | _ => none
def am_ldL (pc : Nat) (L : am_Lo) (st : List Value) (g : am_G) (i : Nat) : am_Re := match L.getD i none with
  | some (.long x) => am_go pc L (.long x :: st) g
  | _ => none
def am_ldF (pc : Nat) (L : am_Lo) (st : List Value) (g : am_G) (i : Nat) : am_Re := match L.getD i none with
  | some (.float x) => am_go pc L (.float x :: st) g
  | _ => none
def am_ldA (pc : Nat) (L : am_Lo) (st : List Value) (g : am_G) (i : Nat) : am_Re := match L.getD i none with
  | some (.ref x) => am_go pc L (.ref x :: st) g
  | _ => none
def am_stI (pc : Nat) (L : am_Lo) (st : List Value) (g : am_G) (i : Nat) : am_Re := match st with
  | .int x :: r => if i < L.length then am_go pc (am_s1 L i (.int x)) r g else none
  | _ => none
def am_stF (pc : Nat) (L : am_Lo) (st : List Value) (g : am_G) (i : Nat) : am_Re := match st with
  | .float x :: r => if i < L.length then am_go pc (am_s1 L i (.float x)) r g else none
  | _ => none
def am_stA (pc : Nat) (L : am_Lo) (st : List Value) (g : am_G) (i : Nat) : am_Re := match st with
  | .ref x :: r => if i < L.length then am_go pc (am_s1 L i (.ref x)) r g else none
  | _ => none
def am_stL (pc : Nat) (L : am_Lo) (st : List Value) (g : am_G) (i : Nat) : am_Re := match st with
  | .long x :: r => if i + 1 < L.length then am_go pc (am_s2 L i (.long x)) r g else none
  | _ => none
def am_ii (pc : Nat) (L : am_Lo) (st : List Value) (g : am_G) (f : Int32 → Int32 → Int32) : am_Re := match st with
  | .int y :: .int x :: r => am_go (pc + 1) L (.int (f x y) :: r) g
  | _ => none
def am_dd (pc : Nat) (L : am_Lo) (st : List Value) (g : am_G) (f : Int32 → Int32 → Int32) : am_Re := match st with
  | .int y :: .int x :: r => if y = 0 then none else am_go (pc + 1) L (.int (f x y) :: r) g
  | _ => none
def am_ll (pc : Nat) (L : am_Lo) (st : List Value) (g : am_G) (f : Int64 → Int64 → Int64) : am_Re := match st with
  | .long y :: .long x :: r => am_go (pc + 1) L (.long (f x y) :: r) g
  | _ => none
def am_ld2 (pc : Nat) (L : am_Lo) (st : List Value) (g : am_G) (f : Int64 → Int64 → Int64) : am_Re := match st with
  | .long y :: .long x :: r => if y = 0 then none else am_go (pc + 1) L (.long (f x y) :: r) g
  | _ => none
def am_cmp (c : ClassFile.Cond) (x y : Int32) (T F : Nat) : Nat := match c with
  | .eq => if x = y then T else F
  | .ne => if x = y then F else T
  | .lt => if x < y then T else F
  | .ge => if y ≤ x then T else F
  | .gt => if y < x then T else F
  | .le => if x ≤ y then T else F
def am_jp (pc : Nat) (off : Int) : Nat := ((pc : Int) + off).toNat
def am_jok (pc : Nat) (off : Int) : Bool := decide (0 ≤ (pc : Int) + off)
def am_arr (at_ : ArrayType) (n : Nat) : Option am_A := match at_ with
  | .boolean => some (.inl (.boolean, n, .inl fun _ => 0))
  | .char => some (.inl (.char, n, .inl fun _ => 0))
  | .byte => some (.inl (.byte, n, .inl fun _ => 0))
  | .int => some (.inl (.int, n, .inl fun _ => 0))
  | .long => some (.inl (.long, n, .inr (.inl fun _ => 0)))
  | .double => some (.inl (.double, n, .inr (.inr (.inr (.inl fun _ => 0)))))
  | _ => none
def am_iat (ins : Instr) (g : am_G) (a : Nat) (i : Int32) : Option Value := match ins with
  | .iaload => (am_ai g a .int).bind fun q => if am_out i q.1 then none else some (.int (q.2 i.toNatClampNeg))
  | .baload => ((am_ai g a .boolean).bind fun q => if am_out i q.1 then none else some (.int (q.2 i.toNatClampNeg))).orElse fun _ => ((am_ai g a .byte).bind fun q => if am_out i q.1 then none else some (.int (q.2 i.toNatClampNeg)))
  | .caload => (am_ai g a .char).bind fun q => if am_out i q.1 then none else some (.int (q.2 i.toNatClampNeg))
  | .laload => (am_al g a).bind fun q => if am_out i q.1 then none else some (.long (q.2 i.toNatClampNeg))
  | .daload => (am_ad g a).bind fun q => if am_out i q.1 then none else some (.double (q.2 i.toNatClampNeg))
  | .aaload => (am_ar g a).bind fun q => if am_out i q.2.1 then none else (q.2.2 i.toNatClampNeg).map fun b => .ref b
  | _ => none
def am_sat (ins : Instr) (g : am_G) (a : Nat) (i : Int32) (v : Value) : Option am_G := if a < 32 then none else match ins, v with
  | .iastore, .int x => (am_ai g a .int).bind fun q => if am_out i q.1 then none else some (am_set g a (.inl (.int, q.1, .inl (upd q.2 i.toNatClampNeg x))))
  | .bastore, .int x => ((am_ai g a .boolean).bind fun q => if am_out i q.1 then none else some (am_set g a (.inl (.boolean, q.1, .inl (upd q.2 i.toNatClampNeg (vp_nar .boolean x)))))).orElse fun _ => ((am_ai g a .byte).bind fun q => if am_out i q.1 then none else some (am_set g a (.inl (.byte, q.1, .inl (upd q.2 i.toNatClampNeg (vp_nar .byte x))))))
  | .castore, .int x => (am_ai g a .char).bind fun q => if am_out i q.1 then none else some (am_set g a (.inl (.char, q.1, .inl (upd q.2 i.toNatClampNeg (vp_nar .char x)))))
  | .lastore, .long x => (am_al g a).bind fun q => if am_out i q.1 then none else some (am_set g a (.inl (.long, q.1, .inr (.inl (vp_updL q.2 i.toNatClampNeg x)))))
  | .dastore, .double x => (am_ad g a).bind fun q => if am_out i q.1 then none else some (am_set g a (.inl (.double, q.1, .inr (.inr (.inr (.inl (vf_upd q.2 i.toNatClampNeg x)))))))
  | .aastore, .ref b => (am_ar g a).bind fun q => (am_oc g b).bind fun c => if am_out i q.2.1 ∨ ¬ q.1 = .object (am_n (am_co c)) ∨ 13 ≤ c then none else some (am_set g a (.inl (q.1, q.2.1, .inr (.inr (.inr (.inr (va_up q.2.2 i.toNatClampNeg (some b))))))))
  | _, _ => none
def am_ld (ins : Instr) (pc : Nat) (L : am_Lo) (st : List Value) (g : am_G) : am_Re := match st with
  | .int i :: .ref a :: r => (am_iat ins g a i).bind fun v => am_go (pc + 1) L (v :: r) g
  | _ => none
def am_st (ins : Instr) (pc : Nat) (L : am_Lo) (st : List Value) (g : am_G) : am_Re := match st with
  | v :: .int i :: .ref a :: r => (am_sat ins g a i v).bind fun g' => am_go (pc + 1) L r g'
  | _ => none
/-- a new array of arrays of ints -/
def am_mul (g : am_G) (n k : Nat) : am_G := (fun b => if b = g.2.1 then some (.inl (.array .int, n, .inr (.inr (.inr (.inr fun j => if j < n then some (g.2.1 + 1 + j) else none)))))
  else if g.2.1 < b ∧ b < g.2.1 + 1 + n then some (.inl (.int, k, .inl fun _ => 0)) else g.1 b, g.2.1 + 1 + n, g.2.2.1 - (1 + n), g.2.2.2 - (n + n * k))
def am_inv (kd : List Nat) (P i pc : Nat) (L : am_Lo) (st : List Value) (g : am_G) : am_Re := match am_iv P i with
  | some (k, M, n) => if kd.contains k = true ∧ n ≤ st.length ∧ (st.drop n).length ≤ 4 then am_ca M (st.take n).reverse pc L (st.drop n) g else none
  | none => none
/-- the receiver is an object of the class that declares the method -/
def am_rcv (P i : Nat) (st : List Value) (g : am_G) : Bool := match am_iv P i with
  | some (k, M, n) => match st.getD (n - 1) .null with
    | .ref a => match am_oc g a with
      | some c => decide (c < 14) && (if k = 1 then am_co c == am_o M else c == 12)
      | none => false
    | _ => false
  | none => false
/-- a copy of ints or bytes between arrays -/
def am_cp (ty : FieldType) (g : am_G) (a0 a : Nat) (sp dp n : Int32) : Option am_G := (am_ai g a0 ty).bind fun x => (am_ai g a ty).bind fun z =>
  if ¬ n < 0 ∧ ¬ dp < 0 ∧ ¬ sp < 0 ∧ sp.toNatClampNeg + n.toNatClampNeg ≤ x.1 ∧ dp.toNatClampNeg + n.toNatClampNeg ≤ z.1 ∧ 32 ≤ a ∧ ((List.range n.toNatClampNeg).all fun j => fits ty (.int (x.2 (sp.toNatClampNeg + j)))) = true then some (am_set g a (.inl (ty, z.1, .inl (va_cpy x.2 z.2 sp.toNatClampNeg dp.toNatClampNeg n.toNatClampNeg)))) else none
def am_ref (P i : Nat) (st : List Value) : Bool := match am_iv P i with
  | some (_, _, n) => match st.getD (n - 1) .null with
    | .ref _ => true
    | _ => false
  | none => false
/-- one step -/
def am_S (P : Nat) (ins : Instr) (pc : Nat) (L : am_Lo) (st : List Value) (g : am_G) : am_Re := match ins with
  | .iconst n => am_go (pc + 1) L (.int (Int32.ofInt n) :: st) g
  | .bipush n => am_go (pc + 2) L (.int (Int8.ofInt n).toInt32 :: st) g
  | .sipush n => am_go (pc + 3) L (.int (Int16.ofInt n).toInt32 :: st) g
  | .lconst n => am_go (pc + 1) L (.long (Int64.ofNat n) :: st) g
  | .fconst n => if n = 0 then am_go (pc + 1) L (.float FP.fconst0 :: st) g else none
  | .iload_n k => am_ldI (pc + 1) L st g k
  | .iload k => am_ldI (pc + 2) L st g k
  | .lload_n k => am_ldL (pc + 1) L st g k
  | .lload k => am_ldL (pc + 2) L st g k
  | .fload_n k => am_ldF (pc + 1) L st g k
  | .fload k => am_ldF (pc + 2) L st g k
  | .aload_n k => am_ldA (pc + 1) L st g k
  | .aload k => am_ldA (pc + 2) L st g k
  | .istore_n k => am_stI (pc + 1) L st g k
  | .istore k => am_stI (pc + 2) L st g k
  | .lstore_n k => am_stL (pc + 1) L st g k
  | .lstore k => am_stL (pc + 2) L st g k
  | .fstore_n k => am_stF (pc + 1) L st g k
  | .fstore k => am_stF (pc + 2) L st g k
  | .astore_n k => am_stA (pc + 1) L st g k
  | .astore k => am_stA (pc + 2) L st g k
  | .iinc i n => match L.getD i none with
    | some (.int x) => if i < L.length then am_go (pc + 3) (am_s1 L i (.int (x + Int32.ofInt n))) st g else none
    | _ => none
  | .iadd => am_ii pc L st g (fun x y => x + y)
  | .isub => am_ii pc L st g (fun x y => x - y)
  | .imul => am_ii pc L st g (fun x y => x * y)
  | .iand => am_ii pc L st g (fun x y => x &&& y)
  | .idiv => am_dd pc L st g (fun x y => x / y)
  | .irem => am_dd pc L st g (fun x y => x - x / y * y)
  | .ladd => am_ll pc L st g (fun x y => x + y)
  | .lsub => am_ll pc L st g (fun x y => x - y)
  | .lmul => am_ll pc L st g (fun x y => x * y)
  | .ldiv => am_ld2 pc L st g (fun x y => x / y)
  | .lrem => am_ld2 pc L st g (fun x y => x - x / y * y)
  | .ineg => match st with
    | .int x :: r => am_go (pc + 1) L (.int (-x) :: r) g
    | _ => none
  | .lneg => match st with
    | .long x :: r => am_go (pc + 1) L (.long (-x) :: r) g
    | _ => none
  | .lcmp => match st with
    | .long y :: .long x :: r => am_go (pc + 1) L (.int (lg_cmp x y) :: r) g
    | _ => none
  | .i2l => match st with
    | .int x :: r => am_go (pc + 1) L (.long x.toInt64 :: r) g
    | _ => none
  | .l2i => match st with
    | .long x :: r => am_go (pc + 1) L (.int x.toInt32 :: r) g
    | _ => none
  | .i2c => match st with
    | .int x :: r => am_go (pc + 1) L (.int (x.toUInt32 % 65536).toInt32 :: r) g
    | _ => none
  | .i2b => match st with
    | .int x :: r => am_go (pc + 1) L (.int x.toInt8.toInt32 :: r) g
    | _ => none
  | .ishl => am_ii pc L st g (fun x y => x <<< (y &&& 31))
  | .ishr => am_ii pc L st g (fun x y => x >>> (y &&& 31))
  | .dup_x1 => match st with
    | v :: w :: r => if v.category = 1 ∧ w.category = 1 then am_go (pc + 1) L (v :: w :: v :: r) g else none
    | _ => none
  | .ifnonnull off => match st with
    | .ref _ :: r => if am_jok pc off then am_go (am_jp pc off) L r g else none
    | _ => none
  | .i2f => match st with
    | .int x :: r => am_go (pc + 1) L (.float (FP.i2f x) :: r) g
    | _ => none
  | .f2d => match st with
    | .float x :: r => if FP.f2d x &&& 0x7fffffffffffffff ≤ 0x7ff0000000000000 then am_go (pc + 1) L (.double (FP.f2d x) :: r) g else none
    | _ => none
  | .fdiv => match st with
    | .float y :: .float x :: r => if FP.fdiv x y &&& 0x7fffffff ≤ 0x7f800000 then am_go (pc + 1) L (.float (FP.fdiv x y) :: r) g else none
    | _ => none
  | .fcmp op => match st with
    | .float y :: .float x :: r => am_go (pc + 1) L (.int (Op.cmpValue (FP.fcmp x y) op) :: r) g
    | _ => none
  | .dcmp op => match st with
    | .double y :: .double x :: r => am_go (pc + 1) L (.int (Op.cmpValue (FP.dcmp x y) op) :: r) g
    | _ => none
  | .dup => match st with
    | v :: r => if v.category = 1 then am_go (pc + 1) L (v :: v :: r) g else none
    | _ => none
  | .pop => match st with
    | v :: r => if v.category = 1 then am_go (pc + 1) L r g else none
    | _ => none
  | .dup2 => match st with
    | v :: w :: r => if v.category = 1 ∧ w.category = 1 then am_go (pc + 1) L (v :: w :: v :: w :: r) g else none
    | _ => none
  | .goto off => if am_jok pc off then am_go (am_jp pc off) L st g else none
  | .ifCond c off => match st with
    | .int x :: r => if am_jok pc off then am_go (am_cmp c x 0 (am_jp pc off) (pc + 3)) L r g else none
    | _ => none
  | .if_icmp c off => match st with
    | .int y :: .int x :: r => if am_jok pc off then am_go (am_cmp c x y (am_jp pc off) (pc + 3)) L r g else none
    | _ => none
  | .tableswitch d lo hi offs => match st with
    | .int x :: r => if x.toInt < lo ∨ hi < x.toInt then (if am_jok pc d then am_go (am_jp pc d) L r g else none)
      else match offs[(x.toInt - lo).toNat]? with
        | some off => if am_jok pc off then am_go (am_jp pc off) L r g else none
        | none => none
    | _ => none
  | .getfield i => match st with
    | .ref a :: r => (am_fl P i).bind fun q => (am_gf g a q.1 q.2).bind fun v => am_go (pc + 3) L (v :: r) g
    | _ => none
  | .putfield i => match st with
    | v :: .ref a :: r => (am_fl P i).bind fun q => if am_ok (am_ft q.1 q.2).1 v && (!(am_ft q.1 q.2).2 || (am_ini P && am_co q.1 == am_o P)) && decide (q.1 < 13) then (am_pf g a q.1 q.2 v).bind fun g' => am_go (pc + 3) L r g' else none
    | _ => none
  | .getstatic i => match am_gs P i with
    | some 101 => am_go (pc + 3) L (.int 1 :: st) g
    | some 102 => match g.1 2 with
      | some (.inr (13, V)) => am_go (pc + 3) L (V 2 :: st) g
      | _ => none
    | some a => am_go (pc + 3) L (.ref a :: st) g
    | none => none
  | .ldc i => match am_ci P i with
    | some x => am_go (pc + 2) L (.int x :: st) g
    | none => (am_cs P i).bind fun a => am_go (pc + 2) L (.ref a :: st) g
  | .ldc2_w i => (am_cl8 P i).bind fun x => am_go (pc + 3) L (.long x :: st) g
  | .arraylength => match st with
    | .ref a :: r => (am_sz g a).bind fun n => am_go (pc + 1) L (.int (Int32.ofNat n) :: r) g
    | _ => none
  | .iaload => am_ld .iaload pc L st g
  | .baload => am_ld .baload pc L st g
  | .caload => am_ld .caload pc L st g
  | .laload => am_ld .laload pc L st g
  | .daload => am_ld .daload pc L st g
  | .aaload => am_ld .aaload pc L st g
  | .iastore => am_st .iastore pc L st g
  | .bastore => am_st .bastore pc L st g
  | .castore => am_st .castore pc L st g
  | .lastore => am_st .lastore pc L st g
  | .dastore => am_st .dastore pc L st g
  | .aastore => am_st .aastore pc L st g
  | .newarray t => match st with
    | .int n :: r => (am_arr t n.toNatClampNeg).bind fun c => if ¬ n < 0 ∧ n.toNatClampNeg ≤ 10000 ∧ 1 ≤ g.2.2.1 ∧ n.toNatClampNeg ≤ g.2.2.2 then am_go (pc + 2) L (.ref g.2.1 :: r) (am_psh g c n.toNatClampNeg) else none
    | _ => none
  | .anewarray i => match st with
    | .int n :: r => (am_an P i).bind fun C => if ¬ n < 0 ∧ n.toNatClampNeg ≤ 10000 ∧ 1 ≤ g.2.2.1 ∧ n.toNatClampNeg ≤ g.2.2.2 then am_go (pc + 3) L (.ref g.2.1 :: r) (am_psh g (.inl (.object C, n.toNatClampNeg, .inr (.inr (.inr (.inr fun _ => none))))) n.toNatClampNeg) else none
    | _ => none
  | .multianewarray i dims => match st with
    | .int k :: .int n :: r => if am_mu P i && dims == 2 && !decide (n < 0) && !decide (k < 0) && decide (n.toNatClampNeg ≤ 10000) && decide (k.toNatClampNeg ≤ 10000) && decide (1 + n.toNatClampNeg ≤ g.2.2.1) && decide (n.toNatClampNeg + n.toNatClampNeg * k.toNatClampNeg ≤ g.2.2.2)
        then am_go (pc + 4) L (.ref g.2.1 :: r) (am_mul g n.toNatClampNeg k.toNatClampNeg) else none
    | _ => none
  | .new i => match am_nw P i with
    | some c => if 1 ≤ g.2.2.1 ∧ am_nf c ≤ g.2.2.2 then am_go (pc + 3) L (.ref g.2.1 :: st) (am_psh g (.inr (c, fun k => defaultValue (am_ft c k).1)) (am_nf c)) else none
    | none => (am_xw P i).bind fun q => if decode (am_b P) (pc + 3) = .ok (.dup, 1) ∧ decode (am_b P) (pc + 4) = .ok (.invokespecial q.2, 3) ∧ decode (am_b P) (pc + 7) = .ok (.athrow, 1) ∧ st.length ≤ 4 ∧ am_h P = [] ∧ 1 ≤ g.2.2.1 ∧ 6 ≤ g.2.2.2
        then am_en (.inr (q.1, g.2.1)) (g.1, g.2.1 + 1, g.2.2.1 - 1, g.2.2.2 - 6) else none
  | .invokestatic i => match am_iv P i with
    | some (4, _, _) => match st with
      | .int n :: .int dp :: .ref a :: .int sp :: .ref a0 :: r => if r.length ≤ 4 then (match am_cp .int g a0 a sp dp n with
        | some g' => am_go (pc + 3) L r g'
        | none => (am_cp .byte g a0 a sp dp n).bind fun g' => am_go (pc + 3) L r g') else none
      | _ => none
    | _ => am_inv [0] P i pc L st g
  | .invokespecial i => match am_iv P i with
    | some (3, _, _) => match st with
      | .ref _ :: r => if r.length ≤ 4 then am_go (pc + 3) L r g else none
      | _ => none
    | some (8, _, _) => if am_rcv P i st g then am_inv [8] P i pc L st g else none
    | _ => if am_ref P i st then am_inv [2, 5] P i pc L st g else none
  | .invokevirtual i => if am_rcv P i st g then am_inv [1, 6, 7] P i pc L st g else none
  | .ireturn => match st with
    | [.int v] => if am_rk (am_t P) (.int v) then am_en (.inl (some (.int v))) g else none
    | _ => none
  | .lreturn => match st with
    | [.long v] => if am_t P = some .long then am_en (.inl (some (.long v))) g else none
    | _ => none
  | .freturn => match st with
    | [.float v] => if am_t P = some .float then am_en (.inl (some (.float v))) g else none
    | _ => none
  | .areturn => match st with
    | [.ref v] => if am_rk (am_t P) (.ref v) then am_en (.inl (some (.ref v))) g else none
    | _ => none
  | .return_ => match st with
    | [] => if am_t P = none then am_en (.inl none) g else none
    | _ => none
  | _ => none
def am_hd (P pc k : Nat) : Option Nat := ((am_h P).find? (fun r => decide (r.1 ≤ pc) && decide (pc < r.2.1) && r.2.2.2.2 == k)).map (fun r => r.2.2.1)
/-- where a call comes back -/
def am_bk (P : Nat) (pc : Nat) (L : am_Lo) (st : List Value) (W : am_Fr → Prop) (Q : am_Ou → am_G → Prop) (o : am_Ou) (g : am_G) : Prop := match o with
  | .inl v => W (pc + 3, L, v.toList ++ st, g)
  | .inr (k, a) => match am_hd P pc k with
    | some hp => W (hp, L, [.ref a], g)
    | none => Q (.inr (k, a)) g
/-- lengths of the instructions -/
def am_ln (ins : Instr) (n : Nat) : Bool := match ins with
  | .bipush _ | .iload _ | .lload _ | .fload _ | .aload _ | .istore _ | .lstore _ | .fstore _ | .astore _ | .newarray _ | .ldc _ => n == 2
  | .sipush _ | .iinc _ _ | .ifnonnull _ | .goto _ | .ifCond _ _ | .if_icmp _ _ | .getfield _ | .putfield _ | .getstatic _ | .ldc2_w _ | .new _ | .anewarray _ | .invokestatic _ | .invokespecial _ | .invokevirtual _ => n == 3
  | .multianewarray _ _ => n == 4
  | .tableswitch _ _ _ _ => true
  | _ => n == 1
def am_dc (P pc : Nat) : Option Instr := match decode (am_b P) pc with
  | .ok (ins, n) => if am_ln ins n = true then some ins else none
  | .error _ => none
/-- from this frame, in n steps of the method's own at most, it ends with Q -/
def am_W (C : Nat → List Value → am_G → (am_Ou → am_G → Prop) → Prop) (P : Nat) (Q : am_Ou → am_G → Prop) : Nat → am_Fr → Prop
  | 0, _ => False
  | n + 1, f => match am_dc P f.1 with
    | some ins => match am_S P ins f.1 f.2.1 f.2.2.1 f.2.2.2 with
      | none => False
      | some (.inl f') => am_W C P Q n f'
      | some (.inr (.inl (o, g))) => Q o g
      | some (.inr (.inr (M, as, pc, L, st, g))) => C M as g (am_bk P pc L st (am_W C P Q n) Q)
    | none => False
def am_arg : List Value → am_Lo
  | [] => []
  | v :: r => some v :: (if v.category = 2 then none :: am_arg r else am_arg r)
def am_loc (M : Nat) (as : List Value) : am_Lo := am_arg as ++ List.replicate (am_m M - (am_arg as).length) none
/-- method M at these arguments and cells, with calls at most d deep, ends with Q -/
def am_C : Nat → Nat → List Value → am_G → (am_Ou → am_G → Prop) → Prop
  | 0, _, _, _, _ => False
  | d + 1, M, as, g, Q => (am_arg as).length ≤ am_m M ∧ ∃ n, am_W (am_C d) M Q n (0, am_loc M as, [], g)
def am_E (d P : Nat) (Q : am_Ou → am_G → Prop) (f : am_Fr) : Prop := ∃ n, am_W (am_C d) P Q n f
