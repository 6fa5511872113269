/-! The tables of part 01 are the words of the claim: checked by program. -/
def am_cn (c : Nat) : String := (am_cl.getD c ("", fun _ => ("", "", "", false), 0)).1
def am_uT (c : Nat) : u_T := (am_cl.getD c ("", fun _ => ("", "", "", false), 0)).2.1
def am_uN (c : Nat) : Nat := (am_cl.getD c ("", fun _ => ("", "", "", false), 0)).2.2
def am_ws : List Cond := lw_tbl.filter goodWord
theorem am_mem {w : Cond} (p : Nat) (h : lw_tbl[p]? = some w) (hg : goodWord w = true) : w ∈ am_ws := List.mem_filter.mpr ⟨List.mem_of_getElem? h, hg⟩
def am_ck {α : Type} (f : α → Bool) (l : List α) (i n : Nat) : Prop := ((l.drop i).take n).all f = true
theorem am_ck0 {α : Type} {f : α → Bool} {l : List α} {i : Nat} (h : l.length ≤ i) : ∀ r ∈ l.drop i, f r = true := by
  intro r hr
  rw [List.drop_eq_nil_of_le h] at hr
  cases hr
theorem am_ckS {α : Type} {f : α → Bool} {l : List α} {i n j : Nat} (h : am_ck f l i n) (hj : i + n = j) (hr : ∀ r ∈ l.drop j, f r = true) : ∀ r ∈ l.drop i, f r = true := by
  intro r hm
  rw [← List.take_append_drop n (l.drop i), List.drop_drop, hj] at hm
  rcases List.mem_append.mp hm with h1 | h1
  · exact List.all_eq_true.mp h r h1
  · exact hr r h1
def am_ckF (o : Nat) (r : Nat × Nat × Nat × Nat) : Bool := decide (lw_tbl[r.2.2.2]? = some (Cond.fieldLink (am_n o) r.1 (am_uT r.2.1 r.2.2.1).1 (am_uT r.2.1 r.2.2.1).2.1 (am_uT r.2.1 r.2.2.1).2.2.1)) && decide (r.2.1 < 14) && decide (r.2.2.1 < am_uN r.2.1)
def am_ckC (c : Nat) : Bool := ((List.range (am_uN c)).all fun k => decide (parseFieldDescriptor (am_uT c k).2.2.1 = some (am_ft c k).1) && ((am_uT c k).2.2.2 == (am_ft c k).2) && (!(am_uT c k).2.2.2 || decide ((am_uT c k).1 = am_cn c)) && decide (u_lay (am_cn c) (am_uT c) k ∈ lw_tbl) && goodWord (u_lay (am_cn c) (am_uT c) k) && ((List.range k).all fun j => decide ((am_uT c j).2.1 ≠ (am_uT c k).2.1))) && decide (am_nf c = am_uN c) && decide (am_n (am_co c) = am_cn c)
def am_ckM (P : Nat) : Bool := decide (am_n (am_o P) = (am_y P).cls) && decide (am_m P ≤ 30) && decide ((parseMethodDescriptor (am_y P).desc).map (fun d => d.parameters.length) = some (am_NP.getD P 0)) && decide (am_o P < 32) && decide ((am_y P).cls ≠ "java/lang/invoke/MethodHandle") && decide ((am_y P).cls ≠ "java/lang/invoke/VarHandle") && (plainFor (am_y P) || P == 270) && (am_ini P == decide ((am_y P).name = "<init>"))
def am_ckI (o : Nat) (r : Nat × Nat × Nat × Nat × Nat × Nat × Nat) : Bool :=
  let y := am_y r.2.2.1
  match r.2.1 with
  | 0 => decide (lw_tbl[r.2.2.2.2.1]? = some (Cond.methodLink (am_n o) r.1 y)) && decide (lw_tbl[r.2.2.2.2.2.1]? = some (Cond.static y)) && decide (am_NP.getD r.2.2.1 0 = r.2.2.2.1) && decide (r.2.2.1 < 318) && decide (1 ≤ r.2.2.1) && decide (am_o r.2.2.1 ≠ 21)
  | 1 => decide (lw_tbl[r.2.2.2.2.1]? = some (Cond.methodLink (am_n o) r.1 y)) && decide (lw_tbl[r.2.2.2.2.2.1]? = some (Cond.instanceMethod y)) && decide (lw_tbl[r.2.2.2.2.2.2]? = some (Cond.selects y.cls y y)) && decide (am_NP.getD r.2.2.1 0 + 1 = r.2.2.2.1) && decide (r.2.2.1 < 318) && decide (1 ≤ r.2.2.1) && decide (am_o r.2.2.1 ≠ 21)
  | 2 => decide (lw_tbl[r.2.2.2.2.1]? = some (Cond.methodLink (am_n o) r.1 y)) && decide (lw_tbl[r.2.2.2.2.2.1]? = some (Cond.instanceMethod y)) && decide (y.name = "<init>") && decide (am_NP.getD r.2.2.1 0 + 1 = r.2.2.2.1) && decide (r.2.2.1 < 318) && decide (1 ≤ r.2.2.1) && decide (am_o r.2.2.1 ≠ 21)
  | 5 => decide (lw_tbl[r.2.2.2.2.1]? = some (Cond.methodLinkNest (am_n o) r.1 y "ModelSheet")) && decide (lw_tbl[r.2.2.2.2.2.1]? = some (Cond.instanceMethod y)) && decide (y.name = "<init>") && decide (am_NP.getD r.2.2.1 0 + 1 = r.2.2.2.1) && decide (r.2.2.1 < 318) && decide (1 ≤ r.2.2.1) && decide (am_o r.2.2.1 ≠ 21)
  | 6 => decide (lw_tbl[r.2.2.2.2.1]? = some (Cond.methodLink (am_n o) r.1 y)) && decide (lw_tbl[r.2.2.2.2.2.1]? = some (Cond.instanceMethod y)) && decide (lw_tbl[r.2.2.2.2.2.2]? = some (Cond.selects "java/lang/StringBuilder" y y)) && decide (am_NP.getD r.2.2.1 0 + 1 = r.2.2.2.1) && decide (r.2.2.1 < 318) && decide (1 ≤ r.2.2.1) && decide (am_o r.2.2.1 ≠ 21)
  | 7 => decide (lw_tbl[r.2.2.2.2.1]? = some (Cond.methodLink (am_n o) r.1 y)) && decide (lw_tbl[r.2.2.2.2.2.1]? = some (Cond.instanceMethod y)) && decide (lw_tbl[r.2.2.2.2.2.2]? = some (Cond.privateMethod y)) && decide (am_NP.getD r.2.2.1 0 + 1 = r.2.2.2.1) && decide (r.2.2.1 < 318) && decide (1 ≤ r.2.2.1) && decide (am_o r.2.2.1 ≠ 21) && decide (y.cls = "java/lang/AbstractStringBuilder")
  | 8 => decide (lw_tbl[r.2.2.2.2.1]? = some (Cond.methodLink (am_n o) r.1 y)) && decide (lw_tbl[r.2.2.2.2.2.1]? = some (Cond.instanceMethod y)) && decide (lw_tbl[r.2.2.2.2.2.2]? = some (Cond.sameMethod y.cls y.cls y.name y.desc)) && decide (am_NP.getD r.2.2.1 0 + 1 = r.2.2.2.1) && decide (r.2.2.1 < 318) && decide (1 ≤ r.2.2.1) && decide (am_o r.2.2.1 ≠ 21) && decide (y.cls = "java/lang/AbstractStringBuilder") && decide (y.name ≠ "<init>") && decide (am_n o = "java/lang/StringBuilder")
  | 3 => decide (lw_tbl[r.2.2.2.2.1]? = some (Cond.methodLink (am_n o) r.1 objectInit)) && decide (lw_tbl[r.2.2.2.2.2.1]? = some (Cond.instanceMethod objectInit))
  | 4 => decide (lw_tbl[r.2.2.2.2.1]? = some (Cond.methodLink (am_n o) r.1 arraycopyName)) && decide (lw_tbl[r.2.2.2.2.2.1]? = some (Cond.static arraycopyName))
  | _ => false
def am_ckW (o : Nat) (r : Nat × Nat × Nat) : Bool := decide (lw_tbl[r.2.2]? = some (Cond.classLink (am_n o) r.1 (am_cn r.2.1))) && decide (r.2.1 < 13) && decide (Cond.instantiable (am_cn r.2.1) (am_uN r.2.1) ∈ lw_tbl) && decide (Cond.initialized (am_cn r.2.1) ∈ lw_tbl)
def am_ckK (o : Nat) (r : Nat × Int32 × Nat) : Bool := decide (lw_tbl[r.2.2]? = some (Cond.constant (am_n o) r.1 r.2.1))
def am_ckL (o : Nat) (r : Nat × Int64 × Nat) : Bool := decide (lw_tbl[r.2.2]? = some (Cond.constantLong (am_n o) r.1 r.2.1))
set_option maxRecDepth 100000 in
theorem am_kF_0_0 : am_ck (am_ckF 0) (am_tF.getD 0 []) 0 60 := by unfold am_ck; decide +kernel
theorem am_kF_0 : ∀ r ∈ (am_tF.getD 0 []).drop 0, am_ckF 0 r = true := am_ckS am_kF_0_0 rfl (am_ck0 (by decide +kernel))
theorem am_kF_1 : ∀ r ∈ (am_tF.getD 1 []).drop 0, am_ckF 1 r = true := am_ck0 (by decide +kernel)
set_option maxRecDepth 100000 in
theorem am_kF_2_0 : am_ck (am_ckF 2) (am_tF.getD 2 []) 0 60 := by unfold am_ck; decide +kernel
theorem am_kF_2 : ∀ r ∈ (am_tF.getD 2 []).drop 0, am_ckF 2 r = true := am_ckS am_kF_2_0 rfl (am_ck0 (by decide +kernel))
set_option maxRecDepth 100000 in
theorem am_kF_3_0 : am_ck (am_ckF 3) (am_tF.getD 3 []) 0 60 := by unfold am_ck; decide +kernel
theorem am_kF_3 : ∀ r ∈ (am_tF.getD 3 []).drop 0, am_ckF 3 r = true := am_ckS am_kF_3_0 rfl (am_ck0 (by decide +kernel))
set_option maxRecDepth 100000 in
theorem am_kF_4_0 : am_ck (am_ckF 4) (am_tF.getD 4 []) 0 60 := by unfold am_ck; decide +kernel
theorem am_kF_4 : ∀ r ∈ (am_tF.getD 4 []).drop 0, am_ckF 4 r = true := am_ckS am_kF_4_0 rfl (am_ck0 (by decide +kernel))
set_option maxRecDepth 100000 in
theorem am_kF_5_0 : am_ck (am_ckF 5) (am_tF.getD 5 []) 0 60 := by unfold am_ck; decide +kernel
theorem am_kF_5 : ∀ r ∈ (am_tF.getD 5 []).drop 0, am_ckF 5 r = true := am_ckS am_kF_5_0 rfl (am_ck0 (by decide +kernel))
set_option maxRecDepth 100000 in
theorem am_kF_6_0 : am_ck (am_ckF 6) (am_tF.getD 6 []) 0 60 := by unfold am_ck; decide +kernel
theorem am_kF_6 : ∀ r ∈ (am_tF.getD 6 []).drop 0, am_ckF 6 r = true := am_ckS am_kF_6_0 rfl (am_ck0 (by decide +kernel))
set_option maxRecDepth 100000 in
theorem am_kF_7_0 : am_ck (am_ckF 7) (am_tF.getD 7 []) 0 60 := by unfold am_ck; decide +kernel
theorem am_kF_7 : ∀ r ∈ (am_tF.getD 7 []).drop 0, am_ckF 7 r = true := am_ckS am_kF_7_0 rfl (am_ck0 (by decide +kernel))
set_option maxRecDepth 100000 in
theorem am_kF_8_0 : am_ck (am_ckF 8) (am_tF.getD 8 []) 0 60 := by unfold am_ck; decide +kernel
theorem am_kF_8 : ∀ r ∈ (am_tF.getD 8 []).drop 0, am_ckF 8 r = true := am_ckS am_kF_8_0 rfl (am_ck0 (by decide +kernel))
set_option maxRecDepth 100000 in
theorem am_kF_9_0 : am_ck (am_ckF 9) (am_tF.getD 9 []) 0 60 := by unfold am_ck; decide +kernel
theorem am_kF_9 : ∀ r ∈ (am_tF.getD 9 []).drop 0, am_ckF 9 r = true := am_ckS am_kF_9_0 rfl (am_ck0 (by decide +kernel))
set_option maxRecDepth 100000 in
theorem am_kF_10_0 : am_ck (am_ckF 10) (am_tF.getD 10 []) 0 60 := by unfold am_ck; decide +kernel
theorem am_kF_10 : ∀ r ∈ (am_tF.getD 10 []).drop 0, am_ckF 10 r = true := am_ckS am_kF_10_0 rfl (am_ck0 (by decide +kernel))
set_option maxRecDepth 100000 in
theorem am_kF_11_0 : am_ck (am_ckF 11) (am_tF.getD 11 []) 0 60 := by unfold am_ck; decide +kernel
theorem am_kF_11 : ∀ r ∈ (am_tF.getD 11 []).drop 0, am_ckF 11 r = true := am_ckS am_kF_11_0 rfl (am_ck0 (by decide +kernel))
theorem am_kF_12 : ∀ r ∈ (am_tF.getD 12 []).drop 0, am_ckF 12 r = true := am_ck0 (by decide +kernel)
set_option maxRecDepth 100000 in
theorem am_kF_13_0 : am_ck (am_ckF 13) (am_tF.getD 13 []) 0 60 := by unfold am_ck; decide +kernel
set_option maxRecDepth 100000 in
theorem am_kF_13_60 : am_ck (am_ckF 13) (am_tF.getD 13 []) 60 60 := by unfold am_ck; decide +kernel
theorem am_kF_13 : ∀ r ∈ (am_tF.getD 13 []).drop 0, am_ckF 13 r = true := am_ckS am_kF_13_0 rfl (am_ckS am_kF_13_60 rfl (am_ck0 (by decide +kernel)))
set_option maxRecDepth 100000 in
theorem am_kF_14_0 : am_ck (am_ckF 14) (am_tF.getD 14 []) 0 60 := by unfold am_ck; decide +kernel
theorem am_kF_14 : ∀ r ∈ (am_tF.getD 14 []).drop 0, am_ckF 14 r = true := am_ckS am_kF_14_0 rfl (am_ck0 (by decide +kernel))
theorem am_kF_15 : ∀ r ∈ (am_tF.getD 15 []).drop 0, am_ckF 15 r = true := am_ck0 (by decide +kernel)
theorem am_kF_16 : ∀ r ∈ (am_tF.getD 16 []).drop 0, am_ckF 16 r = true := am_ck0 (by decide +kernel)
theorem am_kF_17 : ∀ r ∈ (am_tF.getD 17 []).drop 0, am_ckF 17 r = true := am_ck0 (by decide +kernel)
theorem am_kF_18 : ∀ r ∈ (am_tF.getD 18 []).drop 0, am_ckF 18 r = true := am_ck0 (by decide +kernel)
theorem am_kF_19 : ∀ r ∈ (am_tF.getD 19 []).drop 0, am_ckF 19 r = true := am_ck0 (by decide +kernel)
theorem am_kF_20 : ∀ r ∈ (am_tF.getD 20 []).drop 0, am_ckF 20 r = true := am_ck0 (by decide +kernel)
theorem am_kF_21 : ∀ r ∈ (am_tF.getD 21 []).drop 0, am_ckF 21 r = true := am_ck0 (by decide +kernel)
theorem am_kF_22 : ∀ r ∈ (am_tF.getD 22 []).drop 0, am_ckF 22 r = true := am_ck0 (by decide +kernel)
set_option maxRecDepth 100000 in
theorem am_kF_23_0 : am_ck (am_ckF 23) (am_tF.getD 23 []) 0 60 := by unfold am_ck; decide +kernel
theorem am_kF_23 : ∀ r ∈ (am_tF.getD 23 []).drop 0, am_ckF 23 r = true := am_ckS am_kF_23_0 rfl (am_ck0 (by decide +kernel))
theorem am_kF_24 : ∀ r ∈ (am_tF.getD 24 []).drop 0, am_ckF 24 r = true := am_ck0 (by decide +kernel)
theorem am_kF_25 : ∀ r ∈ (am_tF.getD 25 []).drop 0, am_ckF 25 r = true := am_ck0 (by decide +kernel)
theorem am_kF_26 : ∀ r ∈ (am_tF.getD 26 []).drop 0, am_ckF 26 r = true := am_ck0 (by decide +kernel)
theorem am_kF_27 : ∀ r ∈ (am_tF.getD 27 []).drop 0, am_ckF 27 r = true := am_ck0 (by decide +kernel)
theorem am_kF_28 : ∀ r ∈ (am_tF.getD 28 []).drop 0, am_ckF 28 r = true := am_ck0 (by decide +kernel)
theorem am_kF_29 : ∀ r ∈ (am_tF.getD 29 []).drop 0, am_ckF 29 r = true := am_ck0 (by decide +kernel)
theorem am_kF_30 : ∀ r ∈ (am_tF.getD 30 []).drop 0, am_ckF 30 r = true := am_ck0 (by decide +kernel)
theorem am_kF_31 : ∀ r ∈ (am_tF.getD 31 []).drop 0, am_ckF 31 r = true := am_ck0 (by decide +kernel)
theorem am_kF : ∀ o, o < 32 → ∀ r ∈ am_tF.getD o [], am_ckF o r = true := by
  intro o ho r hr
  have h : ∀ r ∈ (am_tF.getD o []).drop 0, am_ckF o r = true := by
    clear hr
    match o, ho with
    | 0, _ => exact am_kF_0
    | 1, _ => exact am_kF_1
    | 2, _ => exact am_kF_2
    | 3, _ => exact am_kF_3
    | 4, _ => exact am_kF_4
    | 5, _ => exact am_kF_5
    | 6, _ => exact am_kF_6
    | 7, _ => exact am_kF_7
    | 8, _ => exact am_kF_8
    | 9, _ => exact am_kF_9
    | 10, _ => exact am_kF_10
    | 11, _ => exact am_kF_11
    | 12, _ => exact am_kF_12
    | 13, _ => exact am_kF_13
    | 14, _ => exact am_kF_14
    | 15, _ => exact am_kF_15
    | 16, _ => exact am_kF_16
    | 17, _ => exact am_kF_17
    | 18, _ => exact am_kF_18
    | 19, _ => exact am_kF_19
    | 20, _ => exact am_kF_20
    | 21, _ => exact am_kF_21
    | 22, _ => exact am_kF_22
    | 23, _ => exact am_kF_23
    | 24, _ => exact am_kF_24
    | 25, _ => exact am_kF_25
    | 26, _ => exact am_kF_26
    | 27, _ => exact am_kF_27
    | 28, _ => exact am_kF_28
    | 29, _ => exact am_kF_29
    | 30, _ => exact am_kF_30
    | 31, _ => exact am_kF_31
    | n + 32, h => omega
  exact h r (by rw [List.drop_zero]; exact hr)
set_option maxRecDepth 100000 in
theorem am_kI_0_0 : am_ck (am_ckI 0) (am_tI.getD 0 []) 0 30 := by unfold am_ck; decide +kernel
set_option maxRecDepth 100000 in
theorem am_kI_0_30 : am_ck (am_ckI 0) (am_tI.getD 0 []) 30 30 := by unfold am_ck; decide +kernel
theorem am_kI_0 : ∀ r ∈ (am_tI.getD 0 []).drop 0, am_ckI 0 r = true := am_ckS am_kI_0_0 rfl (am_ckS am_kI_0_30 rfl (am_ck0 (by decide +kernel)))
set_option maxRecDepth 100000 in
theorem am_kI_1_0 : am_ck (am_ckI 1) (am_tI.getD 1 []) 0 30 := by unfold am_ck; decide +kernel
theorem am_kI_1 : ∀ r ∈ (am_tI.getD 1 []).drop 0, am_ckI 1 r = true := am_ckS am_kI_1_0 rfl (am_ck0 (by decide +kernel))
set_option maxRecDepth 100000 in
theorem am_kI_2_0 : am_ck (am_ckI 2) (am_tI.getD 2 []) 0 30 := by unfold am_ck; decide +kernel
set_option maxRecDepth 100000 in
theorem am_kI_2_30 : am_ck (am_ckI 2) (am_tI.getD 2 []) 30 30 := by unfold am_ck; decide +kernel
theorem am_kI_2 : ∀ r ∈ (am_tI.getD 2 []).drop 0, am_ckI 2 r = true := am_ckS am_kI_2_0 rfl (am_ckS am_kI_2_30 rfl (am_ck0 (by decide +kernel)))
set_option maxRecDepth 100000 in
theorem am_kI_3_0 : am_ck (am_ckI 3) (am_tI.getD 3 []) 0 30 := by unfold am_ck; decide +kernel
theorem am_kI_3 : ∀ r ∈ (am_tI.getD 3 []).drop 0, am_ckI 3 r = true := am_ckS am_kI_3_0 rfl (am_ck0 (by decide +kernel))
set_option maxRecDepth 100000 in
theorem am_kI_4_0 : am_ck (am_ckI 4) (am_tI.getD 4 []) 0 30 := by unfold am_ck; decide +kernel
theorem am_kI_4 : ∀ r ∈ (am_tI.getD 4 []).drop 0, am_ckI 4 r = true := am_ckS am_kI_4_0 rfl (am_ck0 (by decide +kernel))
set_option maxRecDepth 100000 in
theorem am_kI_5_0 : am_ck (am_ckI 5) (am_tI.getD 5 []) 0 30 := by unfold am_ck; decide +kernel
theorem am_kI_5 : ∀ r ∈ (am_tI.getD 5 []).drop 0, am_ckI 5 r = true := am_ckS am_kI_5_0 rfl (am_ck0 (by decide +kernel))
set_option maxRecDepth 100000 in
theorem am_kI_6_0 : am_ck (am_ckI 6) (am_tI.getD 6 []) 0 30 := by unfold am_ck; decide +kernel
theorem am_kI_6 : ∀ r ∈ (am_tI.getD 6 []).drop 0, am_ckI 6 r = true := am_ckS am_kI_6_0 rfl (am_ck0 (by decide +kernel))
set_option maxRecDepth 100000 in
theorem am_kI_7_0 : am_ck (am_ckI 7) (am_tI.getD 7 []) 0 30 := by unfold am_ck; decide +kernel
theorem am_kI_7 : ∀ r ∈ (am_tI.getD 7 []).drop 0, am_ckI 7 r = true := am_ckS am_kI_7_0 rfl (am_ck0 (by decide +kernel))
set_option maxRecDepth 100000 in
theorem am_kI_8_0 : am_ck (am_ckI 8) (am_tI.getD 8 []) 0 30 := by unfold am_ck; decide +kernel
theorem am_kI_8 : ∀ r ∈ (am_tI.getD 8 []).drop 0, am_ckI 8 r = true := am_ckS am_kI_8_0 rfl (am_ck0 (by decide +kernel))
set_option maxRecDepth 100000 in
theorem am_kI_9_0 : am_ck (am_ckI 9) (am_tI.getD 9 []) 0 30 := by unfold am_ck; decide +kernel
theorem am_kI_9 : ∀ r ∈ (am_tI.getD 9 []).drop 0, am_ckI 9 r = true := am_ckS am_kI_9_0 rfl (am_ck0 (by decide +kernel))
set_option maxRecDepth 100000 in
theorem am_kI_10_0 : am_ck (am_ckI 10) (am_tI.getD 10 []) 0 30 := by unfold am_ck; decide +kernel
theorem am_kI_10 : ∀ r ∈ (am_tI.getD 10 []).drop 0, am_ckI 10 r = true := am_ckS am_kI_10_0 rfl (am_ck0 (by decide +kernel))
set_option maxRecDepth 100000 in
theorem am_kI_11_0 : am_ck (am_ckI 11) (am_tI.getD 11 []) 0 30 := by unfold am_ck; decide +kernel
theorem am_kI_11 : ∀ r ∈ (am_tI.getD 11 []).drop 0, am_ckI 11 r = true := am_ckS am_kI_11_0 rfl (am_ck0 (by decide +kernel))
set_option maxRecDepth 100000 in
theorem am_kI_12_0 : am_ck (am_ckI 12) (am_tI.getD 12 []) 0 30 := by unfold am_ck; decide +kernel
set_option maxRecDepth 100000 in
theorem am_kI_12_30 : am_ck (am_ckI 12) (am_tI.getD 12 []) 30 30 := by unfold am_ck; decide +kernel
set_option maxRecDepth 100000 in
theorem am_kI_12_60 : am_ck (am_ckI 12) (am_tI.getD 12 []) 60 30 := by unfold am_ck; decide +kernel
theorem am_kI_12 : ∀ r ∈ (am_tI.getD 12 []).drop 0, am_ckI 12 r = true := am_ckS am_kI_12_0 rfl (am_ckS am_kI_12_30 rfl (am_ckS am_kI_12_60 rfl (am_ck0 (by decide +kernel))))
set_option maxRecDepth 100000 in
theorem am_kI_13_0 : am_ck (am_ckI 13) (am_tI.getD 13 []) 0 30 := by unfold am_ck; decide +kernel
set_option maxRecDepth 100000 in
theorem am_kI_13_30 : am_ck (am_ckI 13) (am_tI.getD 13 []) 30 30 := by unfold am_ck; decide +kernel
set_option maxRecDepth 100000 in
theorem am_kI_13_60 : am_ck (am_ckI 13) (am_tI.getD 13 []) 60 30 := by unfold am_ck; decide +kernel
theorem am_kI_13 : ∀ r ∈ (am_tI.getD 13 []).drop 0, am_ckI 13 r = true := am_ckS am_kI_13_0 rfl (am_ckS am_kI_13_30 rfl (am_ckS am_kI_13_60 rfl (am_ck0 (by decide +kernel))))
set_option maxRecDepth 100000 in
theorem am_kI_14_0 : am_ck (am_ckI 14) (am_tI.getD 14 []) 0 30 := by unfold am_ck; decide +kernel
theorem am_kI_14 : ∀ r ∈ (am_tI.getD 14 []).drop 0, am_ckI 14 r = true := am_ckS am_kI_14_0 rfl (am_ck0 (by decide +kernel))
theorem am_kI_15 : ∀ r ∈ (am_tI.getD 15 []).drop 0, am_ckI 15 r = true := am_ck0 (by decide +kernel)
theorem am_kI_16 : ∀ r ∈ (am_tI.getD 16 []).drop 0, am_ckI 16 r = true := am_ck0 (by decide +kernel)
theorem am_kI_17 : ∀ r ∈ (am_tI.getD 17 []).drop 0, am_ckI 17 r = true := am_ck0 (by decide +kernel)
theorem am_kI_18 : ∀ r ∈ (am_tI.getD 18 []).drop 0, am_ckI 18 r = true := am_ck0 (by decide +kernel)
theorem am_kI_19 : ∀ r ∈ (am_tI.getD 19 []).drop 0, am_ckI 19 r = true := am_ck0 (by decide +kernel)
theorem am_kI_20 : ∀ r ∈ (am_tI.getD 20 []).drop 0, am_ckI 20 r = true := am_ck0 (by decide +kernel)
theorem am_kI_21 : ∀ r ∈ (am_tI.getD 21 []).drop 0, am_ckI 21 r = true := am_ck0 (by decide +kernel)
theorem am_kI_22 : ∀ r ∈ (am_tI.getD 22 []).drop 0, am_ckI 22 r = true := am_ck0 (by decide +kernel)
set_option maxRecDepth 100000 in
theorem am_kI_23_0 : am_ck (am_ckI 23) (am_tI.getD 23 []) 0 30 := by unfold am_ck; decide +kernel
theorem am_kI_23 : ∀ r ∈ (am_tI.getD 23 []).drop 0, am_ckI 23 r = true := am_ckS am_kI_23_0 rfl (am_ck0 (by decide +kernel))
set_option maxRecDepth 100000 in
theorem am_kI_24_0 : am_ck (am_ckI 24) (am_tI.getD 24 []) 0 30 := by unfold am_ck; decide +kernel
theorem am_kI_24 : ∀ r ∈ (am_tI.getD 24 []).drop 0, am_ckI 24 r = true := am_ckS am_kI_24_0 rfl (am_ck0 (by decide +kernel))
set_option maxRecDepth 100000 in
theorem am_kI_25_0 : am_ck (am_ckI 25) (am_tI.getD 25 []) 0 30 := by unfold am_ck; decide +kernel
theorem am_kI_25 : ∀ r ∈ (am_tI.getD 25 []).drop 0, am_ckI 25 r = true := am_ckS am_kI_25_0 rfl (am_ck0 (by decide +kernel))
set_option maxRecDepth 100000 in
theorem am_kI_26_0 : am_ck (am_ckI 26) (am_tI.getD 26 []) 0 30 := by unfold am_ck; decide +kernel
theorem am_kI_26 : ∀ r ∈ (am_tI.getD 26 []).drop 0, am_ckI 26 r = true := am_ckS am_kI_26_0 rfl (am_ck0 (by decide +kernel))
set_option maxRecDepth 100000 in
theorem am_kI_27_0 : am_ck (am_ckI 27) (am_tI.getD 27 []) 0 30 := by unfold am_ck; decide +kernel
theorem am_kI_27 : ∀ r ∈ (am_tI.getD 27 []).drop 0, am_ckI 27 r = true := am_ckS am_kI_27_0 rfl (am_ck0 (by decide +kernel))
set_option maxRecDepth 100000 in
theorem am_kI_28_0 : am_ck (am_ckI 28) (am_tI.getD 28 []) 0 30 := by unfold am_ck; decide +kernel
theorem am_kI_28 : ∀ r ∈ (am_tI.getD 28 []).drop 0, am_ckI 28 r = true := am_ckS am_kI_28_0 rfl (am_ck0 (by decide +kernel))
theorem am_kI_29 : ∀ r ∈ (am_tI.getD 29 []).drop 0, am_ckI 29 r = true := am_ck0 (by decide +kernel)
set_option maxRecDepth 100000 in
theorem am_kI_30_0 : am_ck (am_ckI 30) (am_tI.getD 30 []) 0 30 := by unfold am_ck; decide +kernel
theorem am_kI_30 : ∀ r ∈ (am_tI.getD 30 []).drop 0, am_ckI 30 r = true := am_ckS am_kI_30_0 rfl (am_ck0 (by decide +kernel))
theorem am_kI_31 : ∀ r ∈ (am_tI.getD 31 []).drop 0, am_ckI 31 r = true := am_ck0 (by decide +kernel)
theorem am_kI : ∀ o, o < 32 → ∀ r ∈ am_tI.getD o [], am_ckI o r = true := by
  intro o ho r hr
  have h : ∀ r ∈ (am_tI.getD o []).drop 0, am_ckI o r = true := by
    clear hr
    match o, ho with
    | 0, _ => exact am_kI_0
    | 1, _ => exact am_kI_1
    | 2, _ => exact am_kI_2
    | 3, _ => exact am_kI_3
    | 4, _ => exact am_kI_4
    | 5, _ => exact am_kI_5
    | 6, _ => exact am_kI_6
    | 7, _ => exact am_kI_7
    | 8, _ => exact am_kI_8
    | 9, _ => exact am_kI_9
    | 10, _ => exact am_kI_10
    | 11, _ => exact am_kI_11
    | 12, _ => exact am_kI_12
    | 13, _ => exact am_kI_13
    | 14, _ => exact am_kI_14
    | 15, _ => exact am_kI_15
    | 16, _ => exact am_kI_16
    | 17, _ => exact am_kI_17
    | 18, _ => exact am_kI_18
    | 19, _ => exact am_kI_19
    | 20, _ => exact am_kI_20
    | 21, _ => exact am_kI_21
    | 22, _ => exact am_kI_22
    | 23, _ => exact am_kI_23
    | 24, _ => exact am_kI_24
    | 25, _ => exact am_kI_25
    | 26, _ => exact am_kI_26
    | 27, _ => exact am_kI_27
    | 28, _ => exact am_kI_28
    | 29, _ => exact am_kI_29
    | 30, _ => exact am_kI_30
    | 31, _ => exact am_kI_31
    | n + 32, h => omega
  exact h r (by rw [List.drop_zero]; exact hr)
set_option maxRecDepth 100000 in
theorem am_kW_0_0 : am_ck (am_ckW 0) (am_tW.getD 0 []) 0 40 := by unfold am_ck; decide +kernel
theorem am_kW_0 : ∀ r ∈ (am_tW.getD 0 []).drop 0, am_ckW 0 r = true := am_ckS am_kW_0_0 rfl (am_ck0 (by decide +kernel))
set_option maxRecDepth 100000 in
theorem am_kW_1_0 : am_ck (am_ckW 1) (am_tW.getD 1 []) 0 40 := by unfold am_ck; decide +kernel
theorem am_kW_1 : ∀ r ∈ (am_tW.getD 1 []).drop 0, am_ckW 1 r = true := am_ckS am_kW_1_0 rfl (am_ck0 (by decide +kernel))
theorem am_kW_2 : ∀ r ∈ (am_tW.getD 2 []).drop 0, am_ckW 2 r = true := am_ck0 (by decide +kernel)
theorem am_kW_3 : ∀ r ∈ (am_tW.getD 3 []).drop 0, am_ckW 3 r = true := am_ck0 (by decide +kernel)
theorem am_kW_4 : ∀ r ∈ (am_tW.getD 4 []).drop 0, am_ckW 4 r = true := am_ck0 (by decide +kernel)
theorem am_kW_5 : ∀ r ∈ (am_tW.getD 5 []).drop 0, am_ckW 5 r = true := am_ck0 (by decide +kernel)
theorem am_kW_6 : ∀ r ∈ (am_tW.getD 6 []).drop 0, am_ckW 6 r = true := am_ck0 (by decide +kernel)
theorem am_kW_7 : ∀ r ∈ (am_tW.getD 7 []).drop 0, am_ckW 7 r = true := am_ck0 (by decide +kernel)
set_option maxRecDepth 100000 in
theorem am_kW_8_0 : am_ck (am_ckW 8) (am_tW.getD 8 []) 0 40 := by unfold am_ck; decide +kernel
theorem am_kW_8 : ∀ r ∈ (am_tW.getD 8 []).drop 0, am_ckW 8 r = true := am_ckS am_kW_8_0 rfl (am_ck0 (by decide +kernel))
set_option maxRecDepth 100000 in
theorem am_kW_9_0 : am_ck (am_ckW 9) (am_tW.getD 9 []) 0 40 := by unfold am_ck; decide +kernel
theorem am_kW_9 : ∀ r ∈ (am_tW.getD 9 []).drop 0, am_ckW 9 r = true := am_ckS am_kW_9_0 rfl (am_ck0 (by decide +kernel))
theorem am_kW_10 : ∀ r ∈ (am_tW.getD 10 []).drop 0, am_ckW 10 r = true := am_ck0 (by decide +kernel)
theorem am_kW_11 : ∀ r ∈ (am_tW.getD 11 []).drop 0, am_ckW 11 r = true := am_ck0 (by decide +kernel)
set_option maxRecDepth 100000 in
theorem am_kW_12_0 : am_ck (am_ckW 12) (am_tW.getD 12 []) 0 40 := by unfold am_ck; decide +kernel
theorem am_kW_12 : ∀ r ∈ (am_tW.getD 12 []).drop 0, am_ckW 12 r = true := am_ckS am_kW_12_0 rfl (am_ck0 (by decide +kernel))
theorem am_kW_13 : ∀ r ∈ (am_tW.getD 13 []).drop 0, am_ckW 13 r = true := am_ck0 (by decide +kernel)
theorem am_kW_14 : ∀ r ∈ (am_tW.getD 14 []).drop 0, am_ckW 14 r = true := am_ck0 (by decide +kernel)
theorem am_kW_15 : ∀ r ∈ (am_tW.getD 15 []).drop 0, am_ckW 15 r = true := am_ck0 (by decide +kernel)
theorem am_kW_16 : ∀ r ∈ (am_tW.getD 16 []).drop 0, am_ckW 16 r = true := am_ck0 (by decide +kernel)
theorem am_kW_17 : ∀ r ∈ (am_tW.getD 17 []).drop 0, am_ckW 17 r = true := am_ck0 (by decide +kernel)
theorem am_kW_18 : ∀ r ∈ (am_tW.getD 18 []).drop 0, am_ckW 18 r = true := am_ck0 (by decide +kernel)
theorem am_kW_19 : ∀ r ∈ (am_tW.getD 19 []).drop 0, am_ckW 19 r = true := am_ck0 (by decide +kernel)
theorem am_kW_20 : ∀ r ∈ (am_tW.getD 20 []).drop 0, am_ckW 20 r = true := am_ck0 (by decide +kernel)
theorem am_kW_21 : ∀ r ∈ (am_tW.getD 21 []).drop 0, am_ckW 21 r = true := am_ck0 (by decide +kernel)
theorem am_kW_22 : ∀ r ∈ (am_tW.getD 22 []).drop 0, am_ckW 22 r = true := am_ck0 (by decide +kernel)
theorem am_kW_23 : ∀ r ∈ (am_tW.getD 23 []).drop 0, am_ckW 23 r = true := am_ck0 (by decide +kernel)
theorem am_kW_24 : ∀ r ∈ (am_tW.getD 24 []).drop 0, am_ckW 24 r = true := am_ck0 (by decide +kernel)
theorem am_kW_25 : ∀ r ∈ (am_tW.getD 25 []).drop 0, am_ckW 25 r = true := am_ck0 (by decide +kernel)
theorem am_kW_26 : ∀ r ∈ (am_tW.getD 26 []).drop 0, am_ckW 26 r = true := am_ck0 (by decide +kernel)
theorem am_kW_27 : ∀ r ∈ (am_tW.getD 27 []).drop 0, am_ckW 27 r = true := am_ck0 (by decide +kernel)
theorem am_kW_28 : ∀ r ∈ (am_tW.getD 28 []).drop 0, am_ckW 28 r = true := am_ck0 (by decide +kernel)
theorem am_kW_29 : ∀ r ∈ (am_tW.getD 29 []).drop 0, am_ckW 29 r = true := am_ck0 (by decide +kernel)
theorem am_kW_30 : ∀ r ∈ (am_tW.getD 30 []).drop 0, am_ckW 30 r = true := am_ck0 (by decide +kernel)
theorem am_kW_31 : ∀ r ∈ (am_tW.getD 31 []).drop 0, am_ckW 31 r = true := am_ck0 (by decide +kernel)
theorem am_kW : ∀ o, o < 32 → ∀ r ∈ am_tW.getD o [], am_ckW o r = true := by
  intro o ho r hr
  have h : ∀ r ∈ (am_tW.getD o []).drop 0, am_ckW o r = true := by
    clear hr
    match o, ho with
    | 0, _ => exact am_kW_0
    | 1, _ => exact am_kW_1
    | 2, _ => exact am_kW_2
    | 3, _ => exact am_kW_3
    | 4, _ => exact am_kW_4
    | 5, _ => exact am_kW_5
    | 6, _ => exact am_kW_6
    | 7, _ => exact am_kW_7
    | 8, _ => exact am_kW_8
    | 9, _ => exact am_kW_9
    | 10, _ => exact am_kW_10
    | 11, _ => exact am_kW_11
    | 12, _ => exact am_kW_12
    | 13, _ => exact am_kW_13
    | 14, _ => exact am_kW_14
    | 15, _ => exact am_kW_15
    | 16, _ => exact am_kW_16
    | 17, _ => exact am_kW_17
    | 18, _ => exact am_kW_18
    | 19, _ => exact am_kW_19
    | 20, _ => exact am_kW_20
    | 21, _ => exact am_kW_21
    | 22, _ => exact am_kW_22
    | 23, _ => exact am_kW_23
    | 24, _ => exact am_kW_24
    | 25, _ => exact am_kW_25
    | 26, _ => exact am_kW_26
    | 27, _ => exact am_kW_27
    | 28, _ => exact am_kW_28
    | 29, _ => exact am_kW_29
    | 30, _ => exact am_kW_30
    | 31, _ => exact am_kW_31
    | n + 32, h => omega
  exact h r (by rw [List.drop_zero]; exact hr)
set_option maxRecDepth 100000 in
theorem am_kK_0_0 : am_ck (am_ckK 0) (am_tC.getD 0 []) 0 40 := by unfold am_ck; decide +kernel
theorem am_kK_0 : ∀ r ∈ (am_tC.getD 0 []).drop 0, am_ckK 0 r = true := am_ckS am_kK_0_0 rfl (am_ck0 (by decide +kernel))
theorem am_kK_1 : ∀ r ∈ (am_tC.getD 1 []).drop 0, am_ckK 1 r = true := am_ck0 (by decide +kernel)
set_option maxRecDepth 100000 in
theorem am_kK_2_0 : am_ck (am_ckK 2) (am_tC.getD 2 []) 0 40 := by unfold am_ck; decide +kernel
theorem am_kK_2 : ∀ r ∈ (am_tC.getD 2 []).drop 0, am_ckK 2 r = true := am_ckS am_kK_2_0 rfl (am_ck0 (by decide +kernel))
set_option maxRecDepth 100000 in
theorem am_kK_3_0 : am_ck (am_ckK 3) (am_tC.getD 3 []) 0 40 := by unfold am_ck; decide +kernel
theorem am_kK_3 : ∀ r ∈ (am_tC.getD 3 []).drop 0, am_ckK 3 r = true := am_ckS am_kK_3_0 rfl (am_ck0 (by decide +kernel))
theorem am_kK_4 : ∀ r ∈ (am_tC.getD 4 []).drop 0, am_ckK 4 r = true := am_ck0 (by decide +kernel)
theorem am_kK_5 : ∀ r ∈ (am_tC.getD 5 []).drop 0, am_ckK 5 r = true := am_ck0 (by decide +kernel)
theorem am_kK_6 : ∀ r ∈ (am_tC.getD 6 []).drop 0, am_ckK 6 r = true := am_ck0 (by decide +kernel)
theorem am_kK_7 : ∀ r ∈ (am_tC.getD 7 []).drop 0, am_ckK 7 r = true := am_ck0 (by decide +kernel)
theorem am_kK_8 : ∀ r ∈ (am_tC.getD 8 []).drop 0, am_ckK 8 r = true := am_ck0 (by decide +kernel)
theorem am_kK_9 : ∀ r ∈ (am_tC.getD 9 []).drop 0, am_ckK 9 r = true := am_ck0 (by decide +kernel)
set_option maxRecDepth 100000 in
theorem am_kK_10_0 : am_ck (am_ckK 10) (am_tC.getD 10 []) 0 40 := by unfold am_ck; decide +kernel
theorem am_kK_10 : ∀ r ∈ (am_tC.getD 10 []).drop 0, am_ckK 10 r = true := am_ckS am_kK_10_0 rfl (am_ck0 (by decide +kernel))
theorem am_kK_11 : ∀ r ∈ (am_tC.getD 11 []).drop 0, am_ckK 11 r = true := am_ck0 (by decide +kernel)
theorem am_kK_12 : ∀ r ∈ (am_tC.getD 12 []).drop 0, am_ckK 12 r = true := am_ck0 (by decide +kernel)
theorem am_kK_13 : ∀ r ∈ (am_tC.getD 13 []).drop 0, am_ckK 13 r = true := am_ck0 (by decide +kernel)
set_option maxRecDepth 100000 in
theorem am_kK_14_0 : am_ck (am_ckK 14) (am_tC.getD 14 []) 0 40 := by unfold am_ck; decide +kernel
theorem am_kK_14 : ∀ r ∈ (am_tC.getD 14 []).drop 0, am_ckK 14 r = true := am_ckS am_kK_14_0 rfl (am_ck0 (by decide +kernel))
set_option maxRecDepth 100000 in
theorem am_kK_15_0 : am_ck (am_ckK 15) (am_tC.getD 15 []) 0 40 := by unfold am_ck; decide +kernel
theorem am_kK_15 : ∀ r ∈ (am_tC.getD 15 []).drop 0, am_ckK 15 r = true := am_ckS am_kK_15_0 rfl (am_ck0 (by decide +kernel))
theorem am_kK_16 : ∀ r ∈ (am_tC.getD 16 []).drop 0, am_ckK 16 r = true := am_ck0 (by decide +kernel)
theorem am_kK_17 : ∀ r ∈ (am_tC.getD 17 []).drop 0, am_ckK 17 r = true := am_ck0 (by decide +kernel)
theorem am_kK_18 : ∀ r ∈ (am_tC.getD 18 []).drop 0, am_ckK 18 r = true := am_ck0 (by decide +kernel)
theorem am_kK_19 : ∀ r ∈ (am_tC.getD 19 []).drop 0, am_ckK 19 r = true := am_ck0 (by decide +kernel)
theorem am_kK_20 : ∀ r ∈ (am_tC.getD 20 []).drop 0, am_ckK 20 r = true := am_ck0 (by decide +kernel)
theorem am_kK_21 : ∀ r ∈ (am_tC.getD 21 []).drop 0, am_ckK 21 r = true := am_ck0 (by decide +kernel)
theorem am_kK_22 : ∀ r ∈ (am_tC.getD 22 []).drop 0, am_ckK 22 r = true := am_ck0 (by decide +kernel)
theorem am_kK_23 : ∀ r ∈ (am_tC.getD 23 []).drop 0, am_ckK 23 r = true := am_ck0 (by decide +kernel)
theorem am_kK_24 : ∀ r ∈ (am_tC.getD 24 []).drop 0, am_ckK 24 r = true := am_ck0 (by decide +kernel)
theorem am_kK_25 : ∀ r ∈ (am_tC.getD 25 []).drop 0, am_ckK 25 r = true := am_ck0 (by decide +kernel)
set_option maxRecDepth 100000 in
theorem am_kK_26_0 : am_ck (am_ckK 26) (am_tC.getD 26 []) 0 40 := by unfold am_ck; decide +kernel
theorem am_kK_26 : ∀ r ∈ (am_tC.getD 26 []).drop 0, am_ckK 26 r = true := am_ckS am_kK_26_0 rfl (am_ck0 (by decide +kernel))
theorem am_kK_27 : ∀ r ∈ (am_tC.getD 27 []).drop 0, am_ckK 27 r = true := am_ck0 (by decide +kernel)
theorem am_kK_28 : ∀ r ∈ (am_tC.getD 28 []).drop 0, am_ckK 28 r = true := am_ck0 (by decide +kernel)
theorem am_kK_29 : ∀ r ∈ (am_tC.getD 29 []).drop 0, am_ckK 29 r = true := am_ck0 (by decide +kernel)
set_option maxRecDepth 100000 in
theorem am_kK_30_0 : am_ck (am_ckK 30) (am_tC.getD 30 []) 0 40 := by unfold am_ck; decide +kernel
theorem am_kK_30 : ∀ r ∈ (am_tC.getD 30 []).drop 0, am_ckK 30 r = true := am_ckS am_kK_30_0 rfl (am_ck0 (by decide +kernel))
theorem am_kK_31 : ∀ r ∈ (am_tC.getD 31 []).drop 0, am_ckK 31 r = true := am_ck0 (by decide +kernel)
theorem am_kK : ∀ o, o < 32 → ∀ r ∈ am_tC.getD o [], am_ckK o r = true := by
  intro o ho r hr
  have h : ∀ r ∈ (am_tC.getD o []).drop 0, am_ckK o r = true := by
    clear hr
    match o, ho with
    | 0, _ => exact am_kK_0
    | 1, _ => exact am_kK_1
    | 2, _ => exact am_kK_2
    | 3, _ => exact am_kK_3
    | 4, _ => exact am_kK_4
    | 5, _ => exact am_kK_5
    | 6, _ => exact am_kK_6
    | 7, _ => exact am_kK_7
    | 8, _ => exact am_kK_8
    | 9, _ => exact am_kK_9
    | 10, _ => exact am_kK_10
    | 11, _ => exact am_kK_11
    | 12, _ => exact am_kK_12
    | 13, _ => exact am_kK_13
    | 14, _ => exact am_kK_14
    | 15, _ => exact am_kK_15
    | 16, _ => exact am_kK_16
    | 17, _ => exact am_kK_17
    | 18, _ => exact am_kK_18
    | 19, _ => exact am_kK_19
    | 20, _ => exact am_kK_20
    | 21, _ => exact am_kK_21
    | 22, _ => exact am_kK_22
    | 23, _ => exact am_kK_23
    | 24, _ => exact am_kK_24
    | 25, _ => exact am_kK_25
    | 26, _ => exact am_kK_26
    | 27, _ => exact am_kK_27
    | 28, _ => exact am_kK_28
    | 29, _ => exact am_kK_29
    | 30, _ => exact am_kK_30
    | 31, _ => exact am_kK_31
    | n + 32, h => omega
  exact h r (by rw [List.drop_zero]; exact hr)
theorem am_kL_0 : ∀ r ∈ (am_tL.getD 0 []).drop 0, am_ckL 0 r = true := am_ck0 (by decide +kernel)
set_option maxRecDepth 100000 in
theorem am_kL_1_0 : am_ck (am_ckL 1) (am_tL.getD 1 []) 0 40 := by unfold am_ck; decide +kernel
theorem am_kL_1 : ∀ r ∈ (am_tL.getD 1 []).drop 0, am_ckL 1 r = true := am_ckS am_kL_1_0 rfl (am_ck0 (by decide +kernel))
theorem am_kL_2 : ∀ r ∈ (am_tL.getD 2 []).drop 0, am_ckL 2 r = true := am_ck0 (by decide +kernel)
theorem am_kL_3 : ∀ r ∈ (am_tL.getD 3 []).drop 0, am_ckL 3 r = true := am_ck0 (by decide +kernel)
theorem am_kL_4 : ∀ r ∈ (am_tL.getD 4 []).drop 0, am_ckL 4 r = true := am_ck0 (by decide +kernel)
theorem am_kL_5 : ∀ r ∈ (am_tL.getD 5 []).drop 0, am_ckL 5 r = true := am_ck0 (by decide +kernel)
theorem am_kL_6 : ∀ r ∈ (am_tL.getD 6 []).drop 0, am_ckL 6 r = true := am_ck0 (by decide +kernel)
theorem am_kL_7 : ∀ r ∈ (am_tL.getD 7 []).drop 0, am_ckL 7 r = true := am_ck0 (by decide +kernel)
theorem am_kL_8 : ∀ r ∈ (am_tL.getD 8 []).drop 0, am_ckL 8 r = true := am_ck0 (by decide +kernel)
theorem am_kL_9 : ∀ r ∈ (am_tL.getD 9 []).drop 0, am_ckL 9 r = true := am_ck0 (by decide +kernel)
theorem am_kL_10 : ∀ r ∈ (am_tL.getD 10 []).drop 0, am_ckL 10 r = true := am_ck0 (by decide +kernel)
theorem am_kL_11 : ∀ r ∈ (am_tL.getD 11 []).drop 0, am_ckL 11 r = true := am_ck0 (by decide +kernel)
theorem am_kL_12 : ∀ r ∈ (am_tL.getD 12 []).drop 0, am_ckL 12 r = true := am_ck0 (by decide +kernel)
set_option maxRecDepth 100000 in
theorem am_kL_13_0 : am_ck (am_ckL 13) (am_tL.getD 13 []) 0 40 := by unfold am_ck; decide +kernel
theorem am_kL_13 : ∀ r ∈ (am_tL.getD 13 []).drop 0, am_ckL 13 r = true := am_ckS am_kL_13_0 rfl (am_ck0 (by decide +kernel))
theorem am_kL_14 : ∀ r ∈ (am_tL.getD 14 []).drop 0, am_ckL 14 r = true := am_ck0 (by decide +kernel)
theorem am_kL_15 : ∀ r ∈ (am_tL.getD 15 []).drop 0, am_ckL 15 r = true := am_ck0 (by decide +kernel)
theorem am_kL_16 : ∀ r ∈ (am_tL.getD 16 []).drop 0, am_ckL 16 r = true := am_ck0 (by decide +kernel)
theorem am_kL_17 : ∀ r ∈ (am_tL.getD 17 []).drop 0, am_ckL 17 r = true := am_ck0 (by decide +kernel)
theorem am_kL_18 : ∀ r ∈ (am_tL.getD 18 []).drop 0, am_ckL 18 r = true := am_ck0 (by decide +kernel)
theorem am_kL_19 : ∀ r ∈ (am_tL.getD 19 []).drop 0, am_ckL 19 r = true := am_ck0 (by decide +kernel)
theorem am_kL_20 : ∀ r ∈ (am_tL.getD 20 []).drop 0, am_ckL 20 r = true := am_ck0 (by decide +kernel)
theorem am_kL_21 : ∀ r ∈ (am_tL.getD 21 []).drop 0, am_ckL 21 r = true := am_ck0 (by decide +kernel)
theorem am_kL_22 : ∀ r ∈ (am_tL.getD 22 []).drop 0, am_ckL 22 r = true := am_ck0 (by decide +kernel)
theorem am_kL_23 : ∀ r ∈ (am_tL.getD 23 []).drop 0, am_ckL 23 r = true := am_ck0 (by decide +kernel)
theorem am_kL_24 : ∀ r ∈ (am_tL.getD 24 []).drop 0, am_ckL 24 r = true := am_ck0 (by decide +kernel)
theorem am_kL_25 : ∀ r ∈ (am_tL.getD 25 []).drop 0, am_ckL 25 r = true := am_ck0 (by decide +kernel)
theorem am_kL_26 : ∀ r ∈ (am_tL.getD 26 []).drop 0, am_ckL 26 r = true := am_ck0 (by decide +kernel)
theorem am_kL_27 : ∀ r ∈ (am_tL.getD 27 []).drop 0, am_ckL 27 r = true := am_ck0 (by decide +kernel)
theorem am_kL_28 : ∀ r ∈ (am_tL.getD 28 []).drop 0, am_ckL 28 r = true := am_ck0 (by decide +kernel)
theorem am_kL_29 : ∀ r ∈ (am_tL.getD 29 []).drop 0, am_ckL 29 r = true := am_ck0 (by decide +kernel)
theorem am_kL_30 : ∀ r ∈ (am_tL.getD 30 []).drop 0, am_ckL 30 r = true := am_ck0 (by decide +kernel)
theorem am_kL_31 : ∀ r ∈ (am_tL.getD 31 []).drop 0, am_ckL 31 r = true := am_ck0 (by decide +kernel)
theorem am_kL : ∀ o, o < 32 → ∀ r ∈ am_tL.getD o [], am_ckL o r = true := by
  intro o ho r hr
  have h : ∀ r ∈ (am_tL.getD o []).drop 0, am_ckL o r = true := by
    clear hr
    match o, ho with
    | 0, _ => exact am_kL_0
    | 1, _ => exact am_kL_1
    | 2, _ => exact am_kL_2
    | 3, _ => exact am_kL_3
    | 4, _ => exact am_kL_4
    | 5, _ => exact am_kL_5
    | 6, _ => exact am_kL_6
    | 7, _ => exact am_kL_7
    | 8, _ => exact am_kL_8
    | 9, _ => exact am_kL_9
    | 10, _ => exact am_kL_10
    | 11, _ => exact am_kL_11
    | 12, _ => exact am_kL_12
    | 13, _ => exact am_kL_13
    | 14, _ => exact am_kL_14
    | 15, _ => exact am_kL_15
    | 16, _ => exact am_kL_16
    | 17, _ => exact am_kL_17
    | 18, _ => exact am_kL_18
    | 19, _ => exact am_kL_19
    | 20, _ => exact am_kL_20
    | 21, _ => exact am_kL_21
    | 22, _ => exact am_kL_22
    | 23, _ => exact am_kL_23
    | 24, _ => exact am_kL_24
    | 25, _ => exact am_kL_25
    | 26, _ => exact am_kL_26
    | 27, _ => exact am_kL_27
    | 28, _ => exact am_kL_28
    | 29, _ => exact am_kL_29
    | 30, _ => exact am_kL_30
    | 31, _ => exact am_kL_31
    | n + 32, h => omega
  exact h r (by rw [List.drop_zero]; exact hr)
set_option maxRecDepth 100000 in
theorem am_kC_0 : am_ckC 0 = true := by decide +kernel
set_option maxRecDepth 100000 in
theorem am_kC_1 : am_ckC 1 = true := by decide +kernel
set_option maxRecDepth 100000 in
theorem am_kC_2 : am_ckC 2 = true := by decide +kernel
set_option maxRecDepth 100000 in
theorem am_kC_3 : am_ckC 3 = true := by decide +kernel
set_option maxRecDepth 100000 in
theorem am_kC_4 : am_ckC 4 = true := by decide +kernel
set_option maxRecDepth 100000 in
theorem am_kC_5 : am_ckC 5 = true := by decide +kernel
set_option maxRecDepth 100000 in
theorem am_kC_6 : am_ckC 6 = true := by decide +kernel
set_option maxRecDepth 100000 in
theorem am_kC_7 : am_ckC 7 = true := by decide +kernel
set_option maxRecDepth 100000 in
theorem am_kC_8 : am_ckC 8 = true := by decide +kernel
set_option maxRecDepth 100000 in
theorem am_kC_9 : am_ckC 9 = true := by decide +kernel
set_option maxRecDepth 100000 in
theorem am_kC_10 : am_ckC 10 = true := by decide +kernel
set_option maxRecDepth 100000 in
theorem am_kC_11 : am_ckC 11 = true := by decide +kernel
set_option maxRecDepth 100000 in
theorem am_kC_12 : am_ckC 12 = true := by decide +kernel
theorem am_kC : ∀ c, c < 13 → am_ckC c = true := by
  intro c hc
  match c, hc with
  | 0, _ => exact am_kC_0
  | 1, _ => exact am_kC_1
  | 2, _ => exact am_kC_2
  | 3, _ => exact am_kC_3
  | 4, _ => exact am_kC_4
  | 5, _ => exact am_kC_5
  | 6, _ => exact am_kC_6
  | 7, _ => exact am_kC_7
  | 8, _ => exact am_kC_8
  | 9, _ => exact am_kC_9
  | 10, _ => exact am_kC_10
  | 11, _ => exact am_kC_11
  | 12, _ => exact am_kC_12
  | n + 13, h => omega
set_option maxRecDepth 100000 in
theorem am_kM_0 : am_ck am_ckM (List.range 318) 0 40 := by unfold am_ck; decide +kernel
set_option maxRecDepth 100000 in
theorem am_kM_40 : am_ck am_ckM (List.range 318) 40 40 := by unfold am_ck; decide +kernel
set_option maxRecDepth 100000 in
theorem am_kM_80 : am_ck am_ckM (List.range 318) 80 40 := by unfold am_ck; decide +kernel
set_option maxRecDepth 100000 in
theorem am_kM_120 : am_ck am_ckM (List.range 318) 120 40 := by unfold am_ck; decide +kernel
set_option maxRecDepth 100000 in
theorem am_kM_160 : am_ck am_ckM (List.range 318) 160 40 := by unfold am_ck; decide +kernel
set_option maxRecDepth 100000 in
theorem am_kM_200 : am_ck am_ckM (List.range 318) 200 40 := by unfold am_ck; decide +kernel
set_option maxRecDepth 100000 in
theorem am_kM_240 : am_ck am_ckM (List.range 318) 240 40 := by unfold am_ck; decide +kernel
set_option maxRecDepth 100000 in
theorem am_kM_280 : am_ck am_ckM (List.range 318) 280 40 := by unfold am_ck; decide +kernel
theorem am_kM : ∀ P, P < 318 → am_ckM P = true := by
  intro P hP
  have h : ∀ r ∈ (List.range 318).drop 0, am_ckM r = true := am_ckS am_kM_0 rfl (am_ckS am_kM_40 rfl (am_ckS am_kM_80 rfl (am_ckS am_kM_120 rfl (am_ckS am_kM_160 rfl (am_ckS am_kM_200 rfl (am_ckS am_kM_240 rfl (am_ckS am_kM_280 rfl (am_ck0 (by decide +kernel)))))))))
  exact h P (by rw [List.drop_zero]; exact List.mem_range.mpr hP)
