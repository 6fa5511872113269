/-! The formula's grammar: the class's descent and the reference's machine. Pure. -/
abbrev rd_C : Type := Nat × (Nat → Int × Int × Int)
abbrev rd_S : Type := Nat × (Nat → Int × Int)
abbrev rd_X : Type := Int × Int × Int × Int × Int
abbrev rd_Q : Type := Int × Int × Int × Int × Int
abbrev rd_T : Type := rd_Q × List rd_X × List Int × rd_C × rd_S
abbrev rd_P : Type := Bool × Nat × rd_C × rd_S
abbrev rd_E : Type := Nat → rd_C → rd_S → rd_P
abbrev rd_O : Type := Option (rd_C × rd_S) × Int
def rd_emit (C : rd_C) (op a b : Int) : rd_C := (C.1 + 1, fun i => if i = C.1 then (op, a, b) else C.2 i)
def rd_pa (C : rd_C) (i v : Int) : rd_C := (C.1, fun j => if (j : Int) = i then ((C.2 j).1, v, (C.2 j).2.2) else C.2 j)
def rd_pb (C : rd_C) (i v : Int) : rd_C := (C.1, fun j => if (j : Int) = i then ((C.2 j).1, (C.2 j).2.1, v) else C.2 j)
def rd_push (S : rd_S) (x : Int × Int) : rd_S := (S.1 + 1, fun i => if i = S.1 then x else S.2 i)
def rd_rk (o : Int) : Int := if o < 4 then 1 else 2
def rd_way (c : Int) : Int := if c = 60 then 6 else if c = 62 then 7 else if c = 94 then 8 else if c = 36 then 9 else if 48 ≤ c ∧ c ≤ 53 then c - 48 else -1
def rd_dg (c : Int) : Prop := 48 ≤ c ∧ c ≤ 57
def rd_lt (c : Int) : Prop := c = 120 ∨ c = 121 ∨ c = 122
def rd_so (c : Int) : Prop := c = 43 ∨ c = 45
def rd_po (c : Int) : Prop := c = 42 ∨ c = 47
def rd_op (c : Int) : Prop := c = 43 ∨ c = 45 ∨ c = 42 ∨ c = 47
noncomputable def rd_if (c : Prop) {α : Type} (a b : α) : α := @ite α c (Classical.propDecidable c) a b
theorem rd_if1 {c : Prop} {α : Type} {a b : α} (h : c) : rd_if c a b = a := if_pos h
theorem rd_if0 {c : Prop} {α : Type} {a b : α} (h : ¬ c) : rd_if c a b = b := if_neg h
def rd_top (X : List rd_X) : rd_X := X.headD (0, 0, 0, 0, -1)
def rd_q0 : rd_Q := (0, 0, 0, 0, 0)
def rd_q4 : rd_Q := (4, 0, 0, 0, 0)
def rd_num1 (w : Int) (n : Int) : rd_Q := (1, n, w, 0, 0)
/-! the reference's machine -/
def rd_unit (q : rd_Q) (C : rd_C) (S : rd_S) : rd_C := if q.1 = 1 then rd_emit C 0 q.2.2.1 0 else if q.1 = 3 then rd_emit C 1 q.2.2.2.1 (S.1 - q.2.2.2.1) else C
def rd_pour (least base : Int) : List Int → rd_C → List Int × rd_C
  | [], C => ([], C)
  | o :: l, C => if base < l.length + 1 ∧ least ≤ rd_rk o then rd_pour least base l (rd_emit C o 0 0) else (o :: l, C)
def rd_ends : List rd_X → List Int → rd_C → List rd_X × List Int × rd_C
  | [], l, C => ([], l, C)
  | x :: X, l, C => if x.1 = 3 then rd_ends X (rd_pour 1 x.2.2.1 l C).1 (rd_pb (rd_pa (rd_pour 1 x.2.2.1 l C).2 x.2.2.2.1 (rd_pour 1 x.2.2.1 l C).2.1) x.2.2.2.2 (rd_pour 1 x.2.2.1 l C).2.1) else (x :: X, l, C)
def rd_enc : List rd_X → Int
  | [] => 0
  | x :: X => if x.1 = 3 then rd_enc X else x.1
/-- endElses, then pour(1) -/
def rd_clo (X : List rd_X) (l : List Int) (C : rd_C) : List Int × rd_C := rd_pour 1 (rd_top (rd_ends X l C).1).2.2.1 (rd_ends X l C).2.1 (rd_ends X l C).2.2
def rd_opc (c : Int) : Int := if c = 43 then 2 else if c = 45 then 3 else if c = 42 then 4 else 5
noncomputable def rd_fol (X : List rd_X) (l : List Int) (C : rd_C) (S : rd_S) (c : Int) : Option rd_T :=
  rd_if (rd_op c) (some (rd_q0, X, rd_opc c :: (rd_pour (rd_rk (rd_opc c)) (rd_top X).2.2.1 l C).1, (rd_pour (rd_rk (rd_opc c)) (rd_top X).2.2.1 l C).2, S))
  (rd_if (c = 63 ∧ (rd_top X).2.1 < 3) (some (rd_q0, (2, (rd_top X).2.1 + 1, ((rd_pour 1 (rd_top X).2.2.1 l C).1.length : Int), ((rd_pour 1 (rd_top X).2.2.1 l C).2.1 : Int), -1) :: X, (rd_pour 1 (rd_top X).2.2.1 l C).1, rd_emit (rd_pour 1 (rd_top X).2.2.1 l C).2 6 0 0, S))
  (rd_if (c = 58 ∧ rd_enc X = 2) (some (rd_q0, (3, (rd_top (rd_ends X l C).1).2.1, (rd_top (rd_ends X l C).1).2.2.1, ((rd_clo X l C).2.1 : Int), (rd_top (rd_ends X l C).1).2.2.2.1) :: (rd_ends X l C).1.tail, (rd_clo X l C).1, rd_pa (rd_emit (rd_clo X l C).2 7 0 0) (rd_top (rd_ends X l C).1).2.2.2.1 ((rd_clo X l C).2.1 + 1), S))
  (rd_if (c = 41 ∧ rd_enc X = 1) (some (rd_q4, (rd_ends X l C).1.tail, (rd_clo X l C).1, (rd_clo X l C).2, S)) none)))
noncomputable def rd_beg (X : List rd_X) (l : List Int) (C : rd_C) (S : rd_S) (c : Int) : Option rd_T :=
  rd_if (rd_dg c) (some (rd_num1 (c - 48) 1, X, l, C, S))
  (rd_if (rd_lt c) (some ((2, 0, 0, (S.1 : Int), c - 120), X, l, C, S))
  (rd_if (c = 40 ∧ (rd_top X).2.1 < 3) (some (rd_q0, (1, (rd_top X).2.1 + 1, (l.length : Int), 0, -1) :: X, l, C, S)) none))
noncomputable def rd_shf (q : rd_Q) (X : List rd_X) (l : List Int) (C : rd_C) (S : rd_S) (c : Int) : Option rd_T :=
  rd_if (rd_way c < 0) none
  (rd_if (c = 36) (some (rd_q4, X, l, rd_emit C 1 q.2.2.2.1 (((S.1 + 1 : Nat) : Int) - q.2.2.2.1), rd_push S (q.2.2.2.2, rd_way c)))
  (some ((3, 0, 0, q.2.2.2.1, 0), X, l, C, rd_push S (q.2.2.2.2, rd_way c))))
noncomputable def rd_step (σ : rd_T) (c : Int) : Option rd_T :=
  if σ.1.1 = 0 then rd_beg σ.2.1 σ.2.2.1 σ.2.2.2.1 σ.2.2.2.2 c
  else if σ.1.1 = 2 then rd_shf σ.1 σ.2.1 σ.2.2.1 σ.2.2.2.1 σ.2.2.2.2 c
  else rd_if (σ.1.1 = 1 ∧ rd_dg c) (if σ.1.2.1 + 1 ≤ 5 then some (rd_num1 (10 * σ.1.2.2.1 + c - 48) (σ.1.2.1 + 1), σ.2) else none)
  (rd_if (σ.1.1 = 3 ∧ rd_lt c) (some ((2, 0, 0, σ.1.2.2.2.1, c - 120), σ.2))
  (rd_fol σ.2.1 σ.2.2.1 (rd_unit σ.1 σ.2.2.2.1 σ.2.2.2.2) σ.2.2.2.2 c))
def rd_fin (N : Nat) (σ : rd_T) : rd_O := if σ.1.1 = 0 ∨ σ.1.1 = 2 ∨ rd_enc σ.2.1 ≠ 0 then (none, (N : Int)) else (some ((rd_clo σ.2.1 σ.2.2.1 (rd_unit σ.1 σ.2.2.2.1 σ.2.2.2.2)).2, σ.2.2.2.2), -1)
noncomputable def rd_run (T : Nat → Int) (N : Nat) : Nat → rd_T → Nat → rd_O
  | 0, σ, _ => rd_fin N σ
  | f + 1, σ, p => (rd_step σ (T p)).elim (none, (p : Int)) fun σ' => rd_run T N f σ' (p + 1)
noncomputable def rd_R (T : Nat → Int) (N : Nat) (σ : rd_T) (p : Nat) : rd_O := rd_run T N (N - p) σ p
/-! the class's descent -/
def rd_ch (T : Nat → Int) (N p : Nat) : Int := if p < N then T p else 32
noncomputable def rd_num (T : Nat → Int) (N : Nat) : Nat → Int → Nat → Int × Nat
  | 0, w, p => (w, p)
  | k + 1, w, p => rd_if (rd_dg (rd_ch T N p)) (rd_num T N k (w * 10 + (rd_ch T N p - 48)) (p + 1)) (w, p)
noncomputable def rd_ref (T : Nat → Int) (N : Nat) : Nat → Nat → rd_S → Bool × Nat × rd_S
  | 0, p, S => (true, p, S)
  | k + 1, p, S => rd_if (rd_way (rd_ch T N (p + 1)) < 0) (false, p + 1, S)
    (rd_if (rd_way (rd_ch T N (p + 1)) ≠ 9 ∧ rd_lt (rd_ch T N (p + 2))) (rd_ref T N k (p + 2) (rd_push S (rd_ch T N p - 120, rd_way (rd_ch T N (p + 1))))) (true, p + 2, rd_push S (rd_ch T N p - 120, rd_way (rd_ch T N (p + 1)))))
noncomputable def rd_brk (T : Nat → Int) (N : Nat) (E : Option rd_E) : rd_E := fun p C S => E.elim (false, p, C, S) fun E =>
  rd_if ((E (p + 1) C S).1 = true ∧ rd_ch T N (E (p + 1) C S).2.1 = 41) (true, (E (p + 1) C S).2.1 + 1, (E (p + 1) C S).2.2) (false, (E (p + 1) C S).2)
noncomputable def rd_unt (T : Nat → Int) (N : Nat) (E : Option rd_E) : rd_E := fun p C S =>
  rd_if (rd_dg (rd_ch T N p)) (true, (rd_num T N 5 0 p).2, rd_emit C 0 (rd_num T N 5 0 p).1 0, S)
  (rd_if (rd_ch T N p = 40) (rd_brk T N E p C S)
  (rd_if (rd_lt (rd_ch T N p)) ((rd_ref T N 24 p S).1, (rd_ref T N 24 p S).2.1, rd_emit C 1 S.1 ((rd_ref T N 24 p S).2.2.1 - S.1), (rd_ref T N 24 p S).2.2) (false, p, C, S)))
/-- an operator's second operand is read, then the operator is put -/
def rd_bin (U : rd_E) (o : Int) (x : rd_P) : rd_P := ((U (x.2.1 + 1) x.2.2.1 x.2.2.2).1, (U (x.2.1 + 1) x.2.2.1 x.2.2.2).2.1, rd_emit (U (x.2.1 + 1) x.2.2.1 x.2.2.2).2.2.1 o 0 0, (U (x.2.1 + 1) x.2.2.1 x.2.2.2).2.2.2)
noncomputable def rd_loop (T : Nat → Int) (N : Nat) (sg : Int → Prop) (U : rd_E) : Nat → rd_P → rd_P
  | 0, x => x
  | k + 1, x => rd_if (x.1 = true ∧ sg (rd_ch T N x.2.1)) (rd_loop T N sg U k (rd_bin U (rd_opc (rd_ch T N x.2.1)) x)) x
noncomputable def rd_prd (T : Nat → Int) (N : Nat) (E : Option rd_E) : rd_E := fun p C S => rd_loop T N rd_po (rd_unt T N E) 24 (rd_unt T N E p C S)
noncomputable def rd_sum (T : Nat → Int) (N : Nat) (E : Option rd_E) : rd_E := fun p C S => rd_loop T N rd_so (rd_prd T N E) 24 (rd_prd T N E p C S)
/-- behind a then-part's colon: the part, then both ends are told -/
def rd_els (E : rd_E) (u : Nat) (y : rd_P) : rd_P :=
  ((E (y.2.1 + 1) (rd_pa (rd_emit y.2.2.1 7 0 0) u (y.2.2.1.1 + 1)) y.2.2.2).1, (E (y.2.1 + 1) (rd_pa (rd_emit y.2.2.1 7 0 0) u (y.2.2.1.1 + 1)) y.2.2.2).2.1,
   rd_pb (rd_pa (E (y.2.1 + 1) (rd_pa (rd_emit y.2.2.1 7 0 0) u (y.2.2.1.1 + 1)) y.2.2.2).2.2.1 y.2.2.1.1 (E (y.2.1 + 1) (rd_pa (rd_emit y.2.2.1 7 0 0) u (y.2.2.1.1 + 1)) y.2.2.2).2.2.1.1) u (E (y.2.1 + 1) (rd_pa (rd_emit y.2.2.1 7 0 0) u (y.2.2.1.1 + 1)) y.2.2.2).2.2.1.1,
   (E (y.2.1 + 1) (rd_pa (rd_emit y.2.2.1 7 0 0) u (y.2.2.1.1 + 1)) y.2.2.2).2.2.2)
noncomputable def rd_cnd (T : Nat → Int) (N : Nat) (E : Option rd_E) (x : rd_P) : rd_P := E.elim (false, x.2) fun E =>
  rd_if ((E (x.2.1 + 1) (rd_emit x.2.2.1 6 0 0) x.2.2.2).1 = true ∧ rd_ch T N (E (x.2.1 + 1) (rd_emit x.2.2.1 6 0 0) x.2.2.2).2.1 = 58) (rd_els E x.2.2.1.1 (E (x.2.1 + 1) (rd_emit x.2.2.1 6 0 0) x.2.2.2)) (false, (E (x.2.1 + 1) (rd_emit x.2.2.1 6 0 0) x.2.2.2).2)
noncomputable def rd_for (T : Nat → Int) (N : Nat) (E : Option rd_E) : rd_E := fun p C S => rd_if ((rd_sum T N E p C S).1 = true ∧ rd_ch T N (rd_sum T N E p C S).2.1 = 63) (rd_cnd T N E (rd_sum T N E p C S)) (rd_sum T N E p C S)
noncomputable def rd_F (T : Nat → Int) (N : Nat) : Nat → rd_E
  | 0 => rd_for T N none
  | k + 1 => rd_for T N (some (rd_F T N k))
