/-! The cells of the law as one memory of integers: shapes, reads, writes; locals. Written by program (wip/gen/gen40.py). -/
abbrev mm_M : Type := Nat → Int → Int
abbrev mm_N : Type := Nat × Nat × Nat
abbrev mm_X : Type := Nat → Option am_A
abbrev mm_Z : Type := Nat × (Nat → Int32) × Value × (Nat → Bool)
def mm_tr (z : Int) : Nat := if z = 0 then 35 else if z = 1 then 41 else 47
def mm_rl (z : Int) : Nat := if z = 0 then 55 else if z = 1 then 60 else if z = 2 then 65 else if z = 3 then 70 else if z = 4 then 75 else if z = 5 then 80 else if z = 6 then 85 else 90
def mm_inr (z : Int) : Nat := if z = 0 then 97 else if z = 1 then 98 else 99
def mm_row (z : Int) : Nat := if 0 ≤ z ∧ z < 12 then 109 + z.toNat else 109
def mm_shL : List (Nat × Nat) := [(1, 0), (1, 8), (7, 3), (1, 10), (2, 6), (2, 6), (2, 6), (2, 6), (2, 6), (1, 10), (2, 6), (2, 6), (2, 6), (2, 6), (2, 6), (1, 10), (2, 6), (2, 6), (2, 6), (2, 6), (2, 6), (1, 7), (7, 8), (1, 6), (2, 3), (2, 3), (2, 24), (2, 24), (1, 6), (2, 3), (2, 3), (2, 24), (2, 24), (1, 6), (2, 3), (2, 3), (2, 24), (2, 24), (1, 6), (2, 3), (2, 3), (2, 24), (2, 24), (1, 6), (2, 3), (2, 3), (2, 24), (2, 24), (1, 6), (2, 3), (2, 3), (2, 24), (2, 24), (1, 6), (2, 3), (2, 3), (2, 24), (2, 24), (1, 6), (2, 3), (2, 3), (2, 24), (2, 24), (1, 2), (7, 3), (2, 216), (2, 216), (2, 216), (1, 4), (4, 24), (1, 6), (2, 3), (2, 3), (2, 24), (2, 24), (1, 3), (7, 12), (2, 216), (2, 216), (2, 216), (2, 216), (2, 216), (2, 216), (2, 216), (2, 216), (2, 216), (2, 216), (2, 216), (2, 216), (2, 12), (1, 1), (2, 216), (5, 200), (1, 9), (2, 216), (1, 5), (2, 3), (1, 11), (3, 18), (2, 18), (2, 18), (2, 18), (2, 3), (2, 8), (2, 3), (3, 648), (2, 648), (2, 24), (2, 24), (2, 8), (2, 512), (2, 512), (2, 512), (2, 8), (2, 192), (2, 192), (2, 3), (2, 3), (4, 24), (2, 32), (2, 32), (2, 32), (2, 32), (2, 32), (2, 32), (2, 12), (2, 12), (2, 2592), (3, 2592), (2, 2592), (3, 2592), (2, 2592), (2, 20), (2, 20), (2, 20), (2, 20), (2, 20), (2, 20), (5, 20), (2, 20), (2, 20), (2, 640), (5, 640), (2, 3), (2, 216), (4, 16), (5, 1), (6, 1)]
def mm_sh (b : Nat) : Nat × Nat := mm_shL.getD (b - 32) (0, 0)
def mm_fkL : List (List Nat) := [[2, 2, 2, 2, 2, 2, 2, 2, 2, 2], [2, 2, 2, 2, 2, 0, 0, 0, 0, 0], [2, 0], [2, 2, 2, 0, 0, 0], [2, 0], [2, 2, 0], [2, 2, 2, 2, 0], [2, 0], [2], [2, 2, 2, 2, 1, 0], [2, 2, 2, 2, 2, 0, 0], [0, 2, 2, 2, 2, 2, 2, 2, 0, 2, 2, 0, 2, 2, 2, 2, 2, 2, 2, 2, 2, 2, 2, 0, 2, 0, 2, 2, 2, 2, 2, 0, 2, 0, 0, 0, 0, 0, 0, 2, 2, 2, 2, 2, 2, 2, 0, 0, 0, 0, 2, 2, 2, 2, 2, 2, 2, 2, 2, 0, 2, 2, 0, 1, 0, 0, 2, 2, 2]]
def mm_fk (c k : Nat) : Nat := (mm_fkL.getD c []).getD k 0
def mm_rfL : List (List Nat) := [[33, 53, 95, 107, 122, 125, 100, 102, 127, 128], [34], [], [36, 37, 38, 39, 40, 0, 0], [], [], [], [], [], [42, 43, 44, 45, 46, 0, 0], [], [], [], [], [], [48, 49, 50, 51, 52, 0, 0], [], [], [], [], [], [54, 0], [], [56, 57, 58, 59, 0], [], [], [], [], [61, 62, 63, 64, 0], [], [], [], [], [66, 67, 68, 69, 0], [], [], [], [], [71, 72, 73, 74, 0], [], [], [], [], [76, 77, 78, 79, 0], [], [], [], [], [81, 82, 83, 84, 0], [], [], [], [], [86, 87, 88, 89, 0], [], [], [], [], [91, 92, 93, 94, 0], [], [], [], [], [96, 0], [], [], [], [], [101, 0], [], [103, 104, 105, 106, 0], [], [], [], [], [95, 108, 121, 0, 0, 0], [], [], [], [], [], [], [], [], [], [], [], [], [], [], [33, 53, 95, 123, 124, 0, 0, 0, 0, 0], [], [], [33, 53, 95, 126, 0, 0], [], [100, 102, 0], [], [0, 130, 131, 132, 133, 134, 135, 136, 0, 137, 138, 0, 139, 140, 141, 142, 143, 144, 145, 146, 147, 148, 149, 0, 150, 0, 151, 152, 153, 154, 155, 0, 156, 0, 0, 0, 0, 0, 0, 157, 158, 159, 160, 161, 162, 163, 0, 0, 0, 0, 164, 165, 166, 167, 168, 169, 170, 171, 172, 0, 173, 174, 0, 0, 0, 0, 175, 176, 177], [], [], [], [], [], [], [], [], [], [], [], [], [], [], [], [], [], [], [], [], [], [], [], [], [], [], [], [], [], [], [], [], [], [], [], [], [], [], [], [], [], [], [], [], [], [], [], [], [], []]
def mm_rf (a k : Nat) : Nat := (mm_rfL.getD (a - 32) []).getD k 0
def mm_ob (μ : mm_M) (c a k : Nat) : Value := if mm_fk c k = 0 then .int (Int32.ofInt (μ a k)) else if mm_fk c k = 1 then .long (Int64.ofInt (μ a k)) else .ref (mm_rf a k)
def mm_ra (μ : mm_M) (a j : Nat) : Nat := if a = 34 then mm_tr j else if a = 54 then mm_rl (μ 54 j) else if a = 96 then mm_inr j else mm_row j
def mm_et (a : Nat) : FieldType := if a = 34 then .object "ModelSheet$Tree" else if a = 54 then .object "ModelSheet$Rule" else .array .int
/-- the cell b, as the memory has it -/
def mm_c (μ : mm_M) (b : Nat) : Option am_A := match mm_sh b with
  | (1, c) => some (.inr (c, fun k => mm_ob μ c b k))
  | (2, n) => some (.inl (.int, n, .inl fun j => Int32.ofInt (μ b j)))
  | (3, n) => some (.inl (.boolean, n, .inl fun j => Int32.ofInt (μ b j)))
  | (4, n) => some (.inl (.char, n, .inl fun j => Int32.ofInt (μ b j)))
  | (5, n) => some (.inl (.long, n, .inr (.inl fun j => Int64.ofInt (μ b j))))
  | (6, n) => some (.inl (.double, n, .inr (.inr (.inr (.inl fun j => UInt64.ofNat (μ b j).toNat)))))
  | (7, n) => some (.inl (mm_et b, n, .inr (.inr (.inr (.inr fun j => if j < n then some (mm_ra μ b j) else none)))))
  | _ => none
/-- all cells: the old ones, the law's own by the memory, then what calls leave behind -/
def mm_hp (w : mm_Z) (μ : mm_M) (X : mm_X) (n : mm_N) : am_G := (fun b => if b < 32 then am_g0m w.1 w.2.1 w.2.2.1 b else if w.2.2.2 b = true then mm_c μ b else X b, n)
/-- these cells stand as the memory has them -/
def mm_P (w : mm_Z) : Prop := ∀ b, 32 ≤ b → b < 178 → w.2.2.2 b = true
def mm_Q (w : mm_Z) : Prop := ∀ b, 32 ≤ b → b < 180 → w.2.2.2 b = true
def mm_T (w : mm_Z) (z : Int) : Prop := ∀ i, i < 6 → w.2.2.2 (mm_tr z + i) = true
def mm_w (z : Int) : Int := (Int32.ofInt z).toInt
def mm_w8 (z : Int) : Int := (Int64.ofInt z).toInt
def mm_u (μ : mm_M) (a : Nat) (k z : Int) : mm_M := fun b j => if b = a ∧ j = k then z else μ b j
def mm_cp (μ : mm_M) (a0 a : Nat) (n : Int) : mm_M := fun b j => if b = a ∧ 0 ≤ j ∧ j < n then μ a0 j else μ b j
def mm_b1 (y : Int) : Int := (Int32.ofInt y &&& 1).toInt
def mm_c16 (y : Int) : Int := (vp_nar .char (Int32.ofInt y)).toInt
def mm_dv (a b : Int) : Int := (Int32.ofInt a / Int32.ofInt b).toInt
def mm_d8 (a b : Int) : Int := (Int64.ofInt a / Int64.ofInt b).toInt
def mm_an (a b : Int) : Int := (Int32.ofInt a &&& Int32.ofInt b).toInt
def mm_ch (a : Int) : Int := ((Int32.ofInt a).toUInt32 % 65536).toInt32.toInt
def mm_th (n : mm_N) : mm_N := (n.1 + 1, n.2.1 - 1, n.2.2 - 6)
def mm_span (z : Int) : Int := if z = 0 then 36 else if z = 1 then 6 else 1
def mm_xs (w : mm_Z) (z : Int) : Int := (w.2.1 z.toNat).toInt
def am_n2 : Option Value → Bool
  | some v => v.category != 2
  | none => true
section MM
variable {w : mm_Z} {μ : mm_M} {X : mm_X} {n : mm_N} {a b c k N : Nat} {z y : Int} {v : Value}
theorem mm_at (h1 : 32 ≤ a) (h2 : w.2.2.2 a = true) : (mm_hp w μ X n).1 a = mm_c μ a := by
  show (if a < 32 then _ else if w.2.2.2 a = true then mm_c μ a else X a) = _
  rw [if_neg (by omega), if_pos h2]
theorem mm_uu {k' z' : Int} (h : b ≠ a) : mm_u μ a k' z' b = μ b := funext fun j => if_neg fun q => h q.1
theorem mm_un {a : Nat} {k z j : Int} (h : j ≠ k) : mm_u μ a k z a j = μ a j := if_neg fun q => h q.2
theorem mm_us {a : Nat} {k z : Int} : mm_u μ a k z a k = z := if_pos ⟨rfl, rfl⟩
theorem mm_c_of {μ' : mm_M} (h : μ' b = μ b) (h2 : b = 54 → μ' 54 = μ 54) : mm_c μ' b = mm_c μ b := by
  have h1 : ∀ c k, mm_ob μ' c b k = mm_ob μ c b k := by intro c k; unfold mm_ob; rw [h]
  have h3 : mm_ra μ' b = mm_ra μ b := by
    funext j
    unfold mm_ra
    by_cases e : b = 54
    · rw [h2 e]
    · rw [if_neg e, if_neg e]
  unfold mm_c
  rw [h, h3]
  simp only [h1]
theorem mm_c_u {k' z' : Int} (h : b ≠ a) : mm_c (mm_u μ a k' z') b = mm_c μ b := mm_c_of (mm_uu h) (fun e => by subst e; exact mm_uu h)
theorem mm_c_1 (h : mm_sh b = (1, c)) : mm_c μ b = some (.inr (c, fun k => mm_ob μ c b k)) := by unfold mm_c; rw [h]; rfl
theorem mm_c_2 (h : mm_sh b = (2, N)) : mm_c μ b = some (.inl (.int, N, .inl fun j => Int32.ofInt (μ b j))) := by unfold mm_c; rw [h]; rfl
theorem mm_c_3 (h : mm_sh b = (3, N)) : mm_c μ b = some (.inl (.boolean, N, .inl fun j => Int32.ofInt (μ b j))) := by unfold mm_c; rw [h]; rfl
theorem mm_c_4 (h : mm_sh b = (4, N)) : mm_c μ b = some (.inl (.char, N, .inl fun j => Int32.ofInt (μ b j))) := by unfold mm_c; rw [h]; rfl
theorem mm_c_5 (h : mm_sh b = (5, N)) : mm_c μ b = some (.inl (.long, N, .inr (.inl fun j => Int64.ofInt (μ b j)))) := by unfold mm_c; rw [h]; rfl
theorem mm_c_6 (h : mm_sh b = (6, N)) : mm_c μ b = some (.inl (.double, N, .inr (.inr (.inr (.inl fun j => UInt64.ofNat (μ b j).toNat))))) := by unfold mm_c; rw [h]; rfl
theorem mm_c_7 (h : mm_sh b = (7, N)) : mm_c μ b = some (.inl (mm_et b, N, .inr (.inr (.inr (.inr fun j => if j < N then some (mm_ra μ b j) else none))))) := by unfold mm_c; rw [h]; rfl
/-- a cell of the memory written anew -/
theorem mm_set {μ' : mm_M} {q : am_A} (h1 : 32 ≤ a) (h2 : w.2.2.2 a = true) (hq : mm_c μ' a = some q) (ho : ∀ b, b ≠ a → mm_c μ' b = mm_c μ b) : am_set (mm_hp w μ X n) a q = mm_hp w μ' X n := by
  refine Prod.ext (funext fun b => ?_) rfl
  show (if b = a then some q else (mm_hp w μ X n).1 b) = _
  by_cases e : b = a
  · subst e
    rw [if_pos rfl, mm_at h1 h2, hq]
  · rw [if_neg e]
    show (if b < 32 then _ else if w.2.2.2 b = true then mm_c μ b else X b) = (if b < 32 then _ else if w.2.2.2 b = true then mm_c μ' b else X b)
    rw [ho b e]
theorem mm_gf (h1 : 32 ≤ a) (h2 : w.2.2.2 a = true) (h : mm_sh a = (1, c)) (hv : mm_ob μ c a k = v) : am_gf (mm_hp w μ X n) a c k = some v := by
  unfold am_gf
  rw [mm_at h1 h2, mm_c_1 h, ← hv]
  exact if_pos rfl
theorem mm_oc (h1 : 32 ≤ a) (h2 : w.2.2.2 a = true) (h : mm_sh a = (1, c)) : am_oc (mm_hp w μ X n) a = some c := by
  unfold am_oc
  rw [mm_at h1 h2, mm_c_1 h]
theorem mm_pf (h1 : 32 ≤ a) (h2 : w.2.2.2 a = true) (h : mm_sh a = (1, c)) (hv : mm_ob (mm_u μ a k z) c a k = v) : am_pf (mm_hp w μ X n) a c k v = some (mm_hp w (mm_u μ a k z) X n) := by
  have hc : mm_c μ a = some (.inr (c, fun k => mm_ob μ c a k)) := mm_c_1 h
  unfold am_pf
  rw [mm_at h1 h2, hc]
  dsimp only
  rw [if_pos ⟨rfl, h1⟩]
  refine congrArg some (mm_set h1 h2 ?_ fun b e => mm_c_u e)
  rw [mm_c_1 h]
  refine congrArg (fun q => some (Sum.inr (c, q))) (funext fun j => ?_)
  unfold updV
  by_cases e : j = k
  · subst e
    rw [if_pos rfl, hv]
  · rw [if_neg e]
    unfold mm_ob
    rw [mm_un (show (j : Int) ≠ (k : Int) by omega)]
theorem mm_outx : am_out (Int32.ofInt z) N = !decide (0 ≤ mm_w z ∧ mm_w z < (N : Int)) := by
  unfold am_out mm_w
  rw [← Int32.toNat_toInt]
  have e : decide (Int32.ofInt z < 0) = decide ((Int32.ofInt z).toInt < 0) := by
    refine decide_eq_decide.mpr ?_
    rw [Int32.lt_iff_toInt_lt]
    exact Iff.rfl
  rw [e]
  generalize (Int32.ofInt z).toInt = t
  by_cases h1 : t < 0
  · have h2 : ¬ (0 ≤ t ∧ t < (N : Int)) := by omega
    rw [decide_eq_true h1, decide_eq_false h2]
    rfl
  · by_cases h2 : t < (N : Int)
    · have h3 : 0 ≤ t ∧ t < (N : Int) := by omega
      have h4 : ¬ N ≤ t.toNat := by omega
      rw [decide_eq_false h1, decide_eq_true h3, decide_eq_false h4]
      rfl
    · have h3 : ¬ (0 ≤ t ∧ t < (N : Int)) := by omega
      have h4 : N ≤ t.toNat := by omega
      rw [decide_eq_false h1, decide_eq_false h3, decide_eq_true h4]
      rfl
theorem mm_cast (h : 0 ≤ mm_w z ∧ mm_w z < (N : Int)) : (((Int32.ofInt z).toNatClampNeg : Nat) : Int) = mm_w z := by
  rw [← Int32.toNat_toInt]
  exact Int.toNat_of_nonneg h.1
theorem mm_iteb {α : Type} {p : Prop} [Decidable p] {x y : α} : (if (!decide p) = true then x else y) = if p then y else x := by
  by_cases h : p <;> simp [h]
theorem mm_ial (h1 : 32 ≤ a) (h2 : w.2.2.2 a = true) (h : mm_sh a = (2, N)) : am_iat .iaload (mm_hp w μ X n) a (Int32.ofInt z) = if 0 ≤ mm_w z ∧ mm_w z < (N : Int) then some (.int (Int32.ofInt (μ a (mm_w z)))) else none := by
  have hc : am_ai (mm_hp w μ X n) a .int = some (N, fun j : Nat => Int32.ofInt (μ a j)) := by unfold am_ai; rw [mm_at h1 h2]; rw [mm_c_2 h]; exact if_pos rfl
  unfold am_iat
  dsimp only
  rw [hc, Option.bind_some, mm_outx, mm_iteb]
  by_cases e : 0 ≤ mm_w z ∧ mm_w z < (N : Int)
  · rw [if_pos e, if_pos e, ← mm_cast e]
  · rw [if_neg e, if_neg e]
theorem mm_bal (h1 : 32 ≤ a) (h2 : w.2.2.2 a = true) (h : mm_sh a = (3, N)) : am_iat .baload (mm_hp w μ X n) a (Int32.ofInt z) = if 0 ≤ mm_w z ∧ mm_w z < (N : Int) then some (.int (Int32.ofInt (μ a (mm_w z)))) else none := by
  have hc : am_ai (mm_hp w μ X n) a .boolean = some (N, fun j : Nat => Int32.ofInt (μ a j)) := by unfold am_ai; rw [mm_at h1 h2]; rw [mm_c_3 h]; exact if_pos rfl
  have hd : am_ai (mm_hp w μ X n) a .byte = none := by unfold am_ai; rw [mm_at h1 h2]; rw [mm_c_3 h]; exact if_neg (by decide)
  unfold am_iat
  dsimp only
  rw [hc, hd, Option.bind_some, mm_outx, mm_iteb]
  by_cases e : 0 ≤ mm_w z ∧ mm_w z < (N : Int)
  · rw [if_pos e, if_pos e, ← mm_cast e]; rfl
  · rw [if_neg e, if_neg e]; rfl
theorem mm_cal (h1 : 32 ≤ a) (h2 : w.2.2.2 a = true) (h : mm_sh a = (4, N)) : am_iat .caload (mm_hp w μ X n) a (Int32.ofInt z) = if 0 ≤ mm_w z ∧ mm_w z < (N : Int) then some (.int (Int32.ofInt (μ a (mm_w z)))) else none := by
  have hc : am_ai (mm_hp w μ X n) a .char = some (N, fun j : Nat => Int32.ofInt (μ a j)) := by unfold am_ai; rw [mm_at h1 h2]; rw [mm_c_4 h]; exact if_pos rfl
  unfold am_iat
  dsimp only
  rw [hc, Option.bind_some, mm_outx, mm_iteb]
  by_cases e : 0 ≤ mm_w z ∧ mm_w z < (N : Int)
  · rw [if_pos e, if_pos e, ← mm_cast e]
  · rw [if_neg e, if_neg e]
theorem mm_lal (h1 : 32 ≤ a) (h2 : w.2.2.2 a = true) (h : mm_sh a = (5, N)) : am_iat .laload (mm_hp w μ X n) a (Int32.ofInt z) = if 0 ≤ mm_w z ∧ mm_w z < (N : Int) then some (.long (Int64.ofInt (μ a (mm_w z)))) else none := by
  have hc : am_al (mm_hp w μ X n) a = some (N, fun j : Nat => Int64.ofInt (μ a j)) := by unfold am_al; rw [mm_at h1 h2]; rw [mm_c_5 h]; exact if_pos rfl
  unfold am_iat
  dsimp only
  rw [hc, Option.bind_some, mm_outx, mm_iteb]
  by_cases e : 0 ≤ mm_w z ∧ mm_w z < (N : Int)
  · rw [if_pos e, if_pos e, ← mm_cast e]
  · rw [if_neg e, if_neg e]
theorem mm_dal (h1 : 32 ≤ a) (h2 : w.2.2.2 a = true) (h : mm_sh a = (6, N)) : am_iat .daload (mm_hp w μ X n) a (Int32.ofInt z) = if 0 ≤ mm_w z ∧ mm_w z < (N : Int) then some (.double (UInt64.ofNat (μ a (mm_w z)).toNat)) else none := by
  have hc : am_ad (mm_hp w μ X n) a = some (N, fun j : Nat => UInt64.ofNat (μ a j).toNat) := by unfold am_ad; rw [mm_at h1 h2]; rw [mm_c_6 h]; exact if_pos rfl
  unfold am_iat
  dsimp only
  rw [hc, Option.bind_some, mm_outx, mm_iteb]
  by_cases e : 0 ≤ mm_w z ∧ mm_w z < (N : Int)
  · rw [if_pos e, if_pos e, ← mm_cast e]
  · rw [if_neg e, if_neg e]
theorem mm_aal (h1 : 32 ≤ a) (h2 : w.2.2.2 a = true) (h : mm_sh a = (7, N)) (ht : (mm_et a).isReference = true) : am_iat .aaload (mm_hp w μ X n) a (Int32.ofInt z) = if 0 ≤ mm_w z ∧ mm_w z < (N : Int) then some (.ref (mm_ra μ a (mm_w z).toNat)) else none := by
  have hc : am_ar (mm_hp w μ X n) a = some (mm_et a, N, fun j => if j < N then some (mm_ra μ a j) else none) := by unfold am_ar; rw [mm_at h1 h2]; rw [mm_c_7 h]; exact if_pos ht
  unfold am_iat
  dsimp only
  rw [hc, Option.bind_some]
  dsimp only
  rw [mm_outx, mm_iteb]
  by_cases e : 0 ≤ mm_w z ∧ mm_w z < (N : Int)
  · have e1 : (Int32.ofInt z).toNatClampNeg = (mm_w z).toNat := by have := mm_cast e; omega
    rw [if_pos e, if_pos e, e1, if_pos (by omega)]; rfl
  · rw [if_neg e, if_neg e]
theorem mm_ias (h1 : 32 ≤ a) (h2 : w.2.2.2 a = true) (h : mm_sh a = (2, N)) : am_sat .iastore (mm_hp w μ X n) a (Int32.ofInt z) (.int (Int32.ofInt y)) = if 0 ≤ mm_w z ∧ mm_w z < (N : Int) then some (mm_hp w (mm_u μ a (mm_w z) y) X n) else none := by
  have hc : am_ai (mm_hp w μ X n) a .int = some (N, fun j : Nat => Int32.ofInt (μ a j)) := by unfold am_ai; rw [mm_at h1 h2]; rw [mm_c_2 h]; exact if_pos rfl
  unfold am_sat
  rw [if_neg (by omega)]
  dsimp only
  rw [hc, Option.bind_some, mm_outx, mm_iteb]
  by_cases e : 0 ≤ mm_w z ∧ mm_w z < (N : Int)
  · rw [if_pos e, if_pos e]
    refine congrArg some (mm_set h1 h2 ?_ fun b e => mm_c_u e)
    have hk := mm_cast e
    rw [mm_c_2 h]
    refine congrArg (fun q => some (Sum.inl (FieldType.int, N, Sum.inl q))) (funext fun j => ?_)
    unfold upd
    by_cases ej : j = (Int32.ofInt z).toNatClampNeg
    · rw [if_pos ej, ej, hk, mm_us]
    · rw [if_neg ej, mm_un (by omega)]
  · rw [if_neg e, if_neg e]
theorem mm_bas (h1 : 32 ≤ a) (h2 : w.2.2.2 a = true) (h : mm_sh a = (3, N)) : am_sat .bastore (mm_hp w μ X n) a (Int32.ofInt z) (.int (Int32.ofInt y)) = if 0 ≤ mm_w z ∧ mm_w z < (N : Int) then some (mm_hp w (mm_u μ a (mm_w z) (mm_b1 y)) X n) else none := by
  have hc : am_ai (mm_hp w μ X n) a .boolean = some (N, fun j : Nat => Int32.ofInt (μ a j)) := by unfold am_ai; rw [mm_at h1 h2]; rw [mm_c_3 h]; exact if_pos rfl
  have hd : am_ai (mm_hp w μ X n) a .byte = none := by unfold am_ai; rw [mm_at h1 h2]; rw [mm_c_3 h]; exact if_neg (by decide)
  have hb : vp_nar .boolean (Int32.ofInt y) = Int32.ofInt (mm_b1 y) := by unfold mm_b1; rw [Int32.ofInt_toInt]; rfl
  unfold am_sat
  rw [if_neg (by omega)]
  dsimp only
  rw [hc, hd, Option.bind_some, mm_outx, mm_iteb, hb]
  by_cases e : 0 ≤ mm_w z ∧ mm_w z < (N : Int)
  · rw [if_pos e, if_pos e]
    refine congrArg some (mm_set h1 h2 ?_ fun b e => mm_c_u e)
    have hk := mm_cast e
    rw [mm_c_3 h]
    refine congrArg (fun q => some (Sum.inl (FieldType.boolean, N, Sum.inl q))) (funext fun j => ?_)
    unfold upd
    by_cases ej : j = (Int32.ofInt z).toNatClampNeg
    · rw [if_pos ej, ej, hk, mm_us]
    · rw [if_neg ej, mm_un (by omega)]
  · rw [if_neg e, if_neg e]; rfl
theorem mm_cas (h1 : 32 ≤ a) (h2 : w.2.2.2 a = true) (h : mm_sh a = (4, N)) : am_sat .castore (mm_hp w μ X n) a (Int32.ofInt z) (.int (Int32.ofInt y)) = if 0 ≤ mm_w z ∧ mm_w z < (N : Int) then some (mm_hp w (mm_u μ a (mm_w z) (mm_c16 y)) X n) else none := by
  have hc : am_ai (mm_hp w μ X n) a .char = some (N, fun j : Nat => Int32.ofInt (μ a j)) := by unfold am_ai; rw [mm_at h1 h2]; rw [mm_c_4 h]; exact if_pos rfl
  have hb : vp_nar .char (Int32.ofInt y) = Int32.ofInt (mm_c16 y) := by unfold mm_c16; rw [Int32.ofInt_toInt]
  unfold am_sat
  rw [if_neg (by omega)]
  dsimp only
  rw [hc, Option.bind_some, mm_outx, mm_iteb, hb]
  by_cases e : 0 ≤ mm_w z ∧ mm_w z < (N : Int)
  · rw [if_pos e, if_pos e]
    refine congrArg some (mm_set h1 h2 ?_ fun b e => mm_c_u e)
    have hk := mm_cast e
    rw [mm_c_4 h]
    refine congrArg (fun q => some (Sum.inl (FieldType.char, N, Sum.inl q))) (funext fun j => ?_)
    unfold upd
    by_cases ej : j = (Int32.ofInt z).toNatClampNeg
    · rw [if_pos ej, ej, hk, mm_us]
    · rw [if_neg ej, mm_un (by omega)]
  · rw [if_neg e, if_neg e]
theorem mm_las (h1 : 32 ≤ a) (h2 : w.2.2.2 a = true) (h : mm_sh a = (5, N)) : am_sat .lastore (mm_hp w μ X n) a (Int32.ofInt z) (.long (Int64.ofInt y)) = if 0 ≤ mm_w z ∧ mm_w z < (N : Int) then some (mm_hp w (mm_u μ a (mm_w z) y) X n) else none := by
  have hc : am_al (mm_hp w μ X n) a = some (N, fun j : Nat => Int64.ofInt (μ a j)) := by unfold am_al; rw [mm_at h1 h2]; rw [mm_c_5 h]; exact if_pos rfl
  unfold am_sat
  rw [if_neg (by omega)]
  dsimp only
  rw [hc, Option.bind_some, mm_outx, mm_iteb]
  by_cases e : 0 ≤ mm_w z ∧ mm_w z < (N : Int)
  · rw [if_pos e, if_pos e]
    refine congrArg some (mm_set h1 h2 ?_ fun b e => mm_c_u e)
    have hk := mm_cast e
    rw [mm_c_5 h]
    refine congrArg (fun q => some (Sum.inl (FieldType.long, N, Sum.inr (Sum.inl q)))) (funext fun j => ?_)
    unfold vp_updL
    by_cases ej : j = (Int32.ofInt z).toNatClampNeg
    · rw [if_pos ej, ej, hk, mm_us]
    · rw [if_neg ej, mm_un (by omega)]
  · rw [if_neg e, if_neg e]
theorem mm_das {y : UInt64} (h1 : 32 ≤ a) (h2 : w.2.2.2 a = true) (h : mm_sh a = (6, N)) : am_sat .dastore (mm_hp w μ X n) a (Int32.ofInt z) (.double y) = if 0 ≤ mm_w z ∧ mm_w z < (N : Int) then some (mm_hp w (mm_u μ a (mm_w z) (y.toNat : Int)) X n) else none := by
  have hc : am_ad (mm_hp w μ X n) a = some (N, fun j : Nat => UInt64.ofNat (μ a j).toNat) := by unfold am_ad; rw [mm_at h1 h2]; rw [mm_c_6 h]; exact if_pos rfl
  unfold am_sat
  rw [if_neg (by omega)]
  dsimp only
  rw [hc, Option.bind_some, mm_outx, mm_iteb]
  by_cases e : 0 ≤ mm_w z ∧ mm_w z < (N : Int)
  · rw [if_pos e, if_pos e]
    refine congrArg some (mm_set h1 h2 ?_ fun b e => mm_c_u e)
    have hk := mm_cast e
    rw [mm_c_6 h]
    refine congrArg (fun q => some (Sum.inl (FieldType.double, N, Sum.inr (Sum.inr (Sum.inr (Sum.inl q)))))) (funext fun j => ?_)
    unfold vf_upd
    by_cases ej : j = (Int32.ofInt z).toNatClampNeg
    · rw [if_pos ej, ej, hk, mm_us]
      show UInt64.ofNat (Int.toNat (y.toNat : Int)) = y
      rw [Int.toNat_natCast]
      exact UInt64.ofNat_toNat
    · rw [if_neg ej, mm_un (by omega)]
  · rw [if_neg e, if_neg e]
theorem mm_rl_b : 55 ≤ mm_rl z ∧ mm_rl z ≤ 90 := by
  unfold mm_rl
  repeat (split; · decide)
  decide
theorem mm_rl_sh : mm_sh (mm_rl z) = (1, 6) ∧ mm_sh (mm_rl z + 1) = (2, 3) ∧ mm_sh (mm_rl z + 2) = (2, 3) ∧ mm_sh (mm_rl z + 3) = (2, 24) ∧ mm_sh (mm_rl z + 4) = (2, 24) ∧ mm_rf (mm_rl z) 0 = mm_rl z + 1 ∧ mm_rf (mm_rl z) 1 = mm_rl z + 2 ∧ mm_rf (mm_rl z) 2 = mm_rl z + 3 ∧ mm_rf (mm_rl z) 3 = mm_rl z + 4 := by
  unfold mm_rl
  repeat (split; · decide)
  decide
theorem mm_tr_b : 35 ≤ mm_tr z ∧ mm_tr z ≤ 47 := by
  unfold mm_tr
  repeat (split; · decide)
  decide
theorem mm_tr_sh : mm_sh (mm_tr z) = (1, 10) ∧ mm_sh (mm_tr z + 1) = (2, 6) ∧ mm_sh (mm_tr z + 2) = (2, 6) ∧ mm_sh (mm_tr z + 3) = (2, 6) ∧ mm_sh (mm_tr z + 4) = (2, 6) ∧ mm_sh (mm_tr z + 5) = (2, 6) ∧ mm_rf (mm_tr z) 0 = mm_tr z + 1 ∧ mm_rf (mm_tr z) 1 = mm_tr z + 2 ∧ mm_rf (mm_tr z) 2 = mm_tr z + 3 ∧ mm_rf (mm_tr z) 3 = mm_tr z + 4 ∧ mm_rf (mm_tr z) 4 = mm_tr z + 5 := by
  unfold mm_tr
  repeat (split; · decide)
  decide
theorem mm_inr_b : 97 ≤ mm_inr z ∧ mm_inr z ≤ 99 := by
  unfold mm_inr
  repeat (split; · decide)
  decide
theorem mm_inr_sh : mm_sh (mm_inr z) = (2, 216) := by
  unfold mm_inr
  repeat (split; · decide)
  decide
theorem mm_row_b : 109 ≤ mm_row z ∧ mm_row z ≤ 120 := by
  unfold mm_row
  split <;> omega
theorem mm_row_sh : mm_sh (mm_row z) = (2, 216) := by
  have h : ∀ m : Nat, m < 12 → mm_sh (109 + m) = (2, 216) := by decide
  unfold mm_row
  split
  · exact h _ (by omega)
  · decide
/-- a row of the rule book written -/
theorem mm_aas (hq : mm_P w) : am_sat .aastore (mm_hp w μ X n) 54 (Int32.ofInt z) (.ref (mm_rl y)) = if 0 ≤ mm_w z ∧ mm_w z < 8 then some (mm_hp w (mm_u μ 54 (mm_w z) y) X n) else none := by
  have h : mm_sh 54 = (7, 8) := by decide
  have hc : am_ar (mm_hp w μ X n) 54 = some (FieldType.object "ModelSheet$Rule", 8, fun j : Nat => if j < 8 then some (mm_rl (μ 54 j)) else none) := by unfold am_ar; rw [mm_at (by decide) (hq _ (by decide) (by decide))]; rw [mm_c_7 h]; exact if_pos rfl
  have hb := mm_rl_b (z := y)
  have ho : am_oc (mm_hp w μ X n) (mm_rl y) = some 6 := mm_oc (by omega) (hq _ (by omega) (by omega)) mm_rl_sh.1
  unfold am_sat
  rw [if_neg (by omega)]
  dsimp only
  rw [hc, Option.bind_some, ho, Option.bind_some]
  dsimp only
  rw [mm_outx]
  by_cases e : 0 ≤ mm_w z ∧ mm_w z < 8
  · rw [if_pos e, if_neg (by rw [decide_eq_true (show 0 ≤ mm_w z ∧ mm_w z < ((8 : Nat) : Int) from e)]; decide)]
    refine congrArg some (mm_set (by decide) (hq _ (by decide) (by decide)) ?_ fun b e => mm_c_u e)
    have hk := mm_cast (N := 8) e
    rw [mm_c_7 h]
    refine congrArg (fun q => some (Sum.inl (FieldType.object "ModelSheet$Rule", 8, Sum.inr (Sum.inr (Sum.inr (Sum.inr q)))))) (funext fun j => ?_)
    unfold va_up
    by_cases ej : j = (Int32.ofInt z).toNatClampNeg
    · rw [if_pos ej, if_pos (by omega)]
      show some (mm_rl (mm_u μ 54 (mm_w z) y 54 j)) = _
      rw [ej, hk, mm_us]
    · rw [if_neg ej]
      show (if j < 8 then some (mm_rl (mm_u μ 54 (mm_w z) y 54 j)) else none) = _
      rw [mm_un (by omega)]
  · rw [if_neg e, if_pos (Or.inl (by rw [decide_eq_false (show ¬ (0 ≤ mm_w z ∧ mm_w z < ((8 : Nat) : Int)) from e)]; rfl))]
theorem mm_aln (h1 : 32 ≤ a) (h2 : w.2.2.2 a = true) (h : mm_sh a = (2, N)) : am_sz (mm_hp w μ X n) a = some N := by
  unfold am_sz; rw [mm_at h1 h2, mm_c_2 h]
theorem mm_scr : am_iat .iaload (mm_hp w μ X n) 0 (Int32.ofInt z) = if 0 ≤ mm_w z ∧ mm_w z < (w.1 : Int) then some (.int (Int32.ofInt (mm_xs w (mm_w z)))) else none := by
  have hc : am_ai (mm_hp w μ X n) 0 .int = some (w.1, w.2.1) := rfl
  unfold am_iat
  dsimp only
  rw [hc, Option.bind_some]
  dsimp only
  rw [mm_outx, mm_iteb]
  by_cases e : 0 ≤ mm_w z ∧ mm_w z < (w.1 : Int)
  · have e1 : (Int32.ofInt z).toNatClampNeg = (mm_w z).toNat := by have := mm_cast e; omega
    rw [if_pos e, if_pos e, e1]
    unfold mm_xs
    rw [Int32.ofInt_toInt]
  · rw [if_neg e, if_neg e]
theorem mm_scl : am_sz (mm_hp w μ X n) 0 = some w.1 := rfl
theorem mm_spn : am_iat .iaload (mm_hp w μ X n) 1 (Int32.ofInt z) = if 0 ≤ mm_w z ∧ mm_w z < 3 then some (.int (Int32.ofInt (mm_span (mm_w z)))) else none := by
  have hc : am_ai (mm_hp w μ X n) 1 .int = some (3, fun j => (am_oll 1).getD j 0) := rfl
  unfold am_iat
  dsimp only
  rw [hc, Option.bind_some]
  dsimp only
  rw [mm_outx, mm_iteb]
  by_cases e : 0 ≤ mm_w z ∧ mm_w z < ((3 : Nat) : Int)
  · have e1 : (Int32.ofInt z).toNatClampNeg = (mm_w z).toNat := by have := mm_cast (N := 3) e; omega
    rw [if_pos e, e1]
    refine Eq.trans ?_ (if_pos e).symm
    generalize mm_w z = t at e
    rcases (by omega : t = 0 ∨ t = 1 ∨ t = 2) with rfl | rfl | rfl <;> rfl
  · rw [if_neg e]
    exact (if_neg e).symm
theorem mm_cpy {a0 N0 : Nat} {m : Int} (h1 : 32 ≤ a) (h2 : w.2.2.2 a = true) (h : mm_sh a = (2, N)) (g1 : 32 ≤ a0) (g2 : w.2.2.2 a0 = true) (g : mm_sh a0 = (2, N0)) (hm : 0 ≤ m) (hm1 : m ≤ N) (hm2 : m ≤ N0) (hm3 : m < 1000) : am_cp .int (mm_hp w μ X n) a0 a (Int32.ofInt 0) (Int32.ofInt 0) (Int32.ofInt m) = some (mm_hp w (mm_cp μ a0 a m) X n) := by
  have hc : am_ai (mm_hp w μ X n) a .int = some (N, fun j : Nat => Int32.ofInt (μ a j)) := by unfold am_ai; rw [mm_at h1 h2]; rw [mm_c_2 h]; exact if_pos rfl
  have hc0 : am_ai (mm_hp w μ X n) a0 .int = some (N0, fun j : Nat => Int32.ofInt (μ a0 j)) := by unfold am_ai; rw [mm_at g1 g2]; rw [mm_c_2 g]; exact if_pos rfl
  have e0 : (Int32.ofInt 0).toNatClampNeg = 0 := by decide
  have em : (Int32.ofInt m).toNatClampNeg = m.toNat := Int32.toNatClampNeg_ofInt_of_le (by omega) (by omega)
  have en : ¬ Int32.ofInt m < 0 := by
    rw [Int32.lt_iff_toInt_lt, Int32.toInt_ofInt_of_le (by omega) (by omega)]
    show ¬ m < 0
    omega
  unfold am_cp
  rw [hc0, Option.bind_some, hc, Option.bind_some]
  dsimp only
  rw [em, e0, if_pos ⟨en, by decide, by decide, by omega, by omega, h1, by simp [fits]⟩]
  refine congrArg some (mm_set h1 h2 ?_ fun b e => mm_c_of (funext fun j => if_neg fun q => e q.1) (fun q => funext fun j => if_neg fun q2 => e (q.trans q2.1)))
  rw [mm_c_2 h]
  refine congrArg (fun q => some (Sum.inl (FieldType.int, N, Sum.inl q))) (funext fun j => ?_)
  unfold va_cpy mm_cp
  by_cases ej : 0 ≤ j ∧ j < 0 + m.toNat
  · rw [if_pos ej, if_pos ⟨rfl, by omega, by omega⟩]
    congr 2
    omega
  · rw [if_neg ej, if_neg (by omega)]
end MM
section MMI
variable {w : mm_Z} {μ : mm_M} {X : mm_X} {n : mm_N} {z y : Int} {t : UInt64}
theorem mm_oc_32 (hq : mm_P w) : am_oc (mm_hp w μ X n) 32 = some 0 := mm_oc (by decide) (hq _ (by decide) (by decide)) (by decide)
theorem mm_g_32_0 (hq : mm_P w) : am_gf (mm_hp w μ X n) (32) 0 0 = some (.ref (33)) := mm_gf (by decide) (hq _ (by decide) (by decide)) (by decide) rfl
theorem mm_g_32_1 (hq : mm_P w) : am_gf (mm_hp w μ X n) (32) 0 1 = some (.ref (53)) := mm_gf (by decide) (hq _ (by decide) (by decide)) (by decide) rfl
theorem mm_g_32_2 (hq : mm_P w) : am_gf (mm_hp w μ X n) (32) 0 2 = some (.ref (95)) := mm_gf (by decide) (hq _ (by decide) (by decide)) (by decide) rfl
theorem mm_g_32_3 (hq : mm_P w) : am_gf (mm_hp w μ X n) (32) 0 3 = some (.ref (107)) := mm_gf (by decide) (hq _ (by decide) (by decide)) (by decide) rfl
theorem mm_g_32_4 (hq : mm_P w) : am_gf (mm_hp w μ X n) (32) 0 4 = some (.ref (122)) := mm_gf (by decide) (hq _ (by decide) (by decide)) (by decide) rfl
theorem mm_g_32_5 (hq : mm_P w) : am_gf (mm_hp w μ X n) (32) 0 5 = some (.ref (125)) := mm_gf (by decide) (hq _ (by decide) (by decide)) (by decide) rfl
theorem mm_g_32_6 (hq : mm_P w) : am_gf (mm_hp w μ X n) (32) 0 6 = some (.ref (100)) := mm_gf (by decide) (hq _ (by decide) (by decide)) (by decide) rfl
theorem mm_g_32_7 (hq : mm_P w) : am_gf (mm_hp w μ X n) (32) 0 7 = some (.ref (102)) := mm_gf (by decide) (hq _ (by decide) (by decide)) (by decide) rfl
theorem mm_g_32_8 (hq : mm_P w) : am_gf (mm_hp w μ X n) (32) 0 8 = some (.ref (127)) := mm_gf (by decide) (hq _ (by decide) (by decide)) (by decide) rfl
theorem mm_g_32_9 (hq : mm_P w) : am_gf (mm_hp w μ X n) (32) 0 9 = some (.ref (128)) := mm_gf (by decide) (hq _ (by decide) (by decide)) (by decide) rfl
theorem mm_oc_33 (hq : mm_P w) : am_oc (mm_hp w μ X n) 33 = some 8 := mm_oc (by decide) (hq _ (by decide) (by decide)) (by decide)
theorem mm_g_33_0 (hq : mm_P w) : am_gf (mm_hp w μ X n) (33) 8 0 = some (.ref (34)) := mm_gf (by decide) (hq _ (by decide) (by decide)) (by decide) rfl
theorem mm_l_34 (hq : mm_P w) : am_iat .aaload (mm_hp w μ X n) 34 (Int32.ofInt z) = if 0 ≤ mm_w z ∧ mm_w z < 3 then some (.ref (mm_tr (mm_w z))) else none := by
  rw [mm_aal (N := 3) (by decide) (hq _ (by decide) (by decide)) (by decide) (by decide)]
  by_cases e : 0 ≤ mm_w z ∧ mm_w z < 3
  · rw [if_pos e]
    refine (if_pos e).trans ?_
    have h : (((mm_w z).toNat : Nat) : Int) = mm_w z := Int.toNat_of_nonneg e.1
    show some (Value.ref (mm_tr ((((mm_w z).toNat : Nat) : Int)))) = _
    rw [h]
  · rw [if_neg e]
    exact if_neg e
theorem mm_oc_53 (hq : mm_P w) : am_oc (mm_hp w μ X n) 53 = some 7 := mm_oc (by decide) (hq _ (by decide) (by decide)) (by decide)
theorem mm_g_53_0 (hq : mm_P w) : am_gf (mm_hp w μ X n) (53) 7 0 = some (.ref (54)) := mm_gf (by decide) (hq _ (by decide) (by decide)) (by decide) rfl
theorem mm_g_53_1 (hq : mm_P w) : am_gf (mm_hp w μ X n) (53) 7 1 = some (.int (Int32.ofInt (μ (53) 1))) := mm_gf (by decide) (hq _ (by decide) (by decide)) (by decide) rfl
theorem mm_p_53_1 (hq : mm_P w) : am_pf (mm_hp w μ X n) (53) 7 1 (.int (Int32.ofInt y)) = some (mm_hp w (mm_u μ (53) 1 y) X n) := mm_pf (by decide) (hq _ (by decide) (by decide)) (by decide) (by unfold mm_ob; rw [show ((1 : Nat) : Int) = 1 from rfl, mm_us]; rfl)
theorem mm_l_54 (hq : mm_P w) : am_iat .aaload (mm_hp w μ X n) 54 (Int32.ofInt z) = if 0 ≤ mm_w z ∧ mm_w z < 8 then some (.ref (mm_rl (μ 54 (mm_w z)))) else none := by
  rw [mm_aal (N := 8) (by decide) (hq _ (by decide) (by decide)) (by decide) (by decide)]
  by_cases e : 0 ≤ mm_w z ∧ mm_w z < 8
  · rw [if_pos e]
    refine (if_pos e).trans ?_
    have h : (((mm_w z).toNat : Nat) : Int) = mm_w z := Int.toNat_of_nonneg e.1
    show some (Value.ref (mm_rl (μ 54 ((((mm_w z).toNat : Nat) : Int))))) = _
    rw [h]
  · rw [if_neg e]
    exact if_neg e
theorem mm_oc_95 (hq : mm_P w) : am_oc (mm_hp w μ X n) 95 = some 2 := mm_oc (by decide) (hq _ (by decide) (by decide)) (by decide)
theorem mm_g_95_0 (hq : mm_P w) : am_gf (mm_hp w μ X n) (95) 2 0 = some (.ref (96)) := mm_gf (by decide) (hq _ (by decide) (by decide)) (by decide) rfl
theorem mm_g_95_1 (hq : mm_P w) : am_gf (mm_hp w μ X n) (95) 2 1 = some (.int (Int32.ofInt (μ (95) 1))) := mm_gf (by decide) (hq _ (by decide) (by decide)) (by decide) rfl
theorem mm_p_95_1 (hq : mm_P w) : am_pf (mm_hp w μ X n) (95) 2 1 (.int (Int32.ofInt y)) = some (mm_hp w (mm_u μ (95) 1 y) X n) := mm_pf (by decide) (hq _ (by decide) (by decide)) (by decide) (by unfold mm_ob; rw [show ((1 : Nat) : Int) = 1 from rfl, mm_us]; rfl)
theorem mm_l_96 (hq : mm_P w) : am_iat .aaload (mm_hp w μ X n) 96 (Int32.ofInt z) = if 0 ≤ mm_w z ∧ mm_w z < 3 then some (.ref (mm_inr (mm_w z))) else none := by
  rw [mm_aal (N := 3) (by decide) (hq _ (by decide) (by decide)) (by decide) (by decide)]
  by_cases e : 0 ≤ mm_w z ∧ mm_w z < 3
  · rw [if_pos e]
    refine (if_pos e).trans ?_
    have h : (((mm_w z).toNat : Nat) : Int) = mm_w z := Int.toNat_of_nonneg e.1
    show some (Value.ref (mm_inr ((((mm_w z).toNat : Nat) : Int)))) = _
    rw [h]
  · rw [if_neg e]
    exact if_neg e
theorem mm_oc_100 (hq : mm_P w) : am_oc (mm_hp w μ X n) 100 = some 4 := mm_oc (by decide) (hq _ (by decide) (by decide)) (by decide)
theorem mm_g_100_0 (hq : mm_P w) : am_gf (mm_hp w μ X n) (100) 4 0 = some (.ref (101)) := mm_gf (by decide) (hq _ (by decide) (by decide)) (by decide) rfl
theorem mm_g_100_1 (hq : mm_P w) : am_gf (mm_hp w μ X n) (100) 4 1 = some (.int (Int32.ofInt (μ (100) 1))) := mm_gf (by decide) (hq _ (by decide) (by decide)) (by decide) rfl
theorem mm_p_100_1 (hq : mm_P w) : am_pf (mm_hp w μ X n) (100) 4 1 (.int (Int32.ofInt y)) = some (mm_hp w (mm_u μ (100) 1 y) X n) := mm_pf (by decide) (hq _ (by decide) (by decide)) (by decide) (by unfold mm_ob; rw [show ((1 : Nat) : Int) = 1 from rfl, mm_us]; rfl)
theorem mm_l_101 (hq : mm_P w) : am_iat .caload (mm_hp w μ X n) 101 (Int32.ofInt z) = if 0 ≤ mm_w z ∧ mm_w z < 24 then some (.int (Int32.ofInt (μ 101 (mm_w z)))) else none := mm_cal (N := 24) (by decide) (hq _ (by decide) (by decide)) (by decide)
theorem mm_s_101 (hq : mm_P w) : am_sat .castore (mm_hp w μ X n) 101 (Int32.ofInt z) (.int (Int32.ofInt y)) = if 0 ≤ mm_w z ∧ mm_w z < 24 then some (mm_hp w (mm_u μ 101 (mm_w z) (mm_c16 y)) X n) else none := mm_cas (N := 24) (by decide) (hq _ (by decide) (by decide)) (by decide)
theorem mm_oc_102 (hq : mm_P w) : am_oc (mm_hp w μ X n) 102 = some 6 := mm_oc (by decide) (hq _ (by decide) (by decide)) (by decide)
theorem mm_g_102_0 (hq : mm_P w) : am_gf (mm_hp w μ X n) (102) 6 0 = some (.ref (103)) := mm_gf (by decide) (hq _ (by decide) (by decide)) (by decide) rfl
theorem mm_g_102_1 (hq : mm_P w) : am_gf (mm_hp w μ X n) (102) 6 1 = some (.ref (104)) := mm_gf (by decide) (hq _ (by decide) (by decide)) (by decide) rfl
theorem mm_g_102_2 (hq : mm_P w) : am_gf (mm_hp w μ X n) (102) 6 2 = some (.ref (105)) := mm_gf (by decide) (hq _ (by decide) (by decide)) (by decide) rfl
theorem mm_g_102_3 (hq : mm_P w) : am_gf (mm_hp w μ X n) (102) 6 3 = some (.ref (106)) := mm_gf (by decide) (hq _ (by decide) (by decide)) (by decide) rfl
theorem mm_g_102_4 (hq : mm_P w) : am_gf (mm_hp w μ X n) (102) 6 4 = some (.int (Int32.ofInt (μ (102) 4))) := mm_gf (by decide) (hq _ (by decide) (by decide)) (by decide) rfl
theorem mm_p_102_4 (hq : mm_P w) : am_pf (mm_hp w μ X n) (102) 6 4 (.int (Int32.ofInt y)) = some (mm_hp w (mm_u μ (102) 4 y) X n) := mm_pf (by decide) (hq _ (by decide) (by decide)) (by decide) (by unfold mm_ob; rw [show ((4 : Nat) : Int) = 4 from rfl, mm_us]; rfl)
theorem mm_l_103 (hq : mm_P w) : am_iat .iaload (mm_hp w μ X n) 103 (Int32.ofInt z) = if 0 ≤ mm_w z ∧ mm_w z < 3 then some (.int (Int32.ofInt (μ 103 (mm_w z)))) else none := mm_ial (N := 3) (by decide) (hq _ (by decide) (by decide)) (by decide)
theorem mm_s_103 (hq : mm_P w) : am_sat .iastore (mm_hp w μ X n) 103 (Int32.ofInt z) (.int (Int32.ofInt y)) = if 0 ≤ mm_w z ∧ mm_w z < 3 then some (mm_hp w (mm_u μ 103 (mm_w z) y) X n) else none := mm_ias (N := 3) (by decide) (hq _ (by decide) (by decide)) (by decide)
theorem mm_z_103 (hq : mm_P w) : am_sz (mm_hp w μ X n) 103 = some 3 := mm_aln (by decide) (hq _ (by decide) (by decide)) (by decide)
theorem mm_l_104 (hq : mm_P w) : am_iat .iaload (mm_hp w μ X n) 104 (Int32.ofInt z) = if 0 ≤ mm_w z ∧ mm_w z < 3 then some (.int (Int32.ofInt (μ 104 (mm_w z)))) else none := mm_ial (N := 3) (by decide) (hq _ (by decide) (by decide)) (by decide)
theorem mm_s_104 (hq : mm_P w) : am_sat .iastore (mm_hp w μ X n) 104 (Int32.ofInt z) (.int (Int32.ofInt y)) = if 0 ≤ mm_w z ∧ mm_w z < 3 then some (mm_hp w (mm_u μ 104 (mm_w z) y) X n) else none := mm_ias (N := 3) (by decide) (hq _ (by decide) (by decide)) (by decide)
theorem mm_z_104 (hq : mm_P w) : am_sz (mm_hp w μ X n) 104 = some 3 := mm_aln (by decide) (hq _ (by decide) (by decide)) (by decide)
theorem mm_l_105 (hq : mm_P w) : am_iat .iaload (mm_hp w μ X n) 105 (Int32.ofInt z) = if 0 ≤ mm_w z ∧ mm_w z < 24 then some (.int (Int32.ofInt (μ 105 (mm_w z)))) else none := mm_ial (N := 24) (by decide) (hq _ (by decide) (by decide)) (by decide)
theorem mm_s_105 (hq : mm_P w) : am_sat .iastore (mm_hp w μ X n) 105 (Int32.ofInt z) (.int (Int32.ofInt y)) = if 0 ≤ mm_w z ∧ mm_w z < 24 then some (mm_hp w (mm_u μ 105 (mm_w z) y) X n) else none := mm_ias (N := 24) (by decide) (hq _ (by decide) (by decide)) (by decide)
theorem mm_z_105 (hq : mm_P w) : am_sz (mm_hp w μ X n) 105 = some 24 := mm_aln (by decide) (hq _ (by decide) (by decide)) (by decide)
theorem mm_l_106 (hq : mm_P w) : am_iat .iaload (mm_hp w μ X n) 106 (Int32.ofInt z) = if 0 ≤ mm_w z ∧ mm_w z < 24 then some (.int (Int32.ofInt (μ 106 (mm_w z)))) else none := mm_ial (N := 24) (by decide) (hq _ (by decide) (by decide)) (by decide)
theorem mm_s_106 (hq : mm_P w) : am_sat .iastore (mm_hp w μ X n) 106 (Int32.ofInt z) (.int (Int32.ofInt y)) = if 0 ≤ mm_w z ∧ mm_w z < 24 then some (mm_hp w (mm_u μ 106 (mm_w z) y) X n) else none := mm_ias (N := 24) (by decide) (hq _ (by decide) (by decide)) (by decide)
theorem mm_z_106 (hq : mm_P w) : am_sz (mm_hp w μ X n) 106 = some 24 := mm_aln (by decide) (hq _ (by decide) (by decide)) (by decide)
theorem mm_oc_107 (hq : mm_P w) : am_oc (mm_hp w μ X n) 107 = some 3 := mm_oc (by decide) (hq _ (by decide) (by decide)) (by decide)
theorem mm_g_107_0 (hq : mm_P w) : am_gf (mm_hp w μ X n) (107) 3 0 = some (.ref (95)) := mm_gf (by decide) (hq _ (by decide) (by decide)) (by decide) rfl
theorem mm_g_107_1 (hq : mm_P w) : am_gf (mm_hp w μ X n) (107) 3 1 = some (.ref (108)) := mm_gf (by decide) (hq _ (by decide) (by decide)) (by decide) rfl
theorem mm_g_107_2 (hq : mm_P w) : am_gf (mm_hp w μ X n) (107) 3 2 = some (.ref (121)) := mm_gf (by decide) (hq _ (by decide) (by decide)) (by decide) rfl
theorem mm_g_107_3 (hq : mm_P w) : am_gf (mm_hp w μ X n) (107) 3 3 = some (.int (Int32.ofInt (μ (107) 3))) := mm_gf (by decide) (hq _ (by decide) (by decide)) (by decide) rfl
theorem mm_p_107_3 (hq : mm_P w) : am_pf (mm_hp w μ X n) (107) 3 3 (.int (Int32.ofInt y)) = some (mm_hp w (mm_u μ (107) 3 y) X n) := mm_pf (by decide) (hq _ (by decide) (by decide)) (by decide) (by unfold mm_ob; rw [show ((3 : Nat) : Int) = 3 from rfl, mm_us]; rfl)
theorem mm_g_107_4 (hq : mm_P w) : am_gf (mm_hp w μ X n) (107) 3 4 = some (.int (Int32.ofInt (μ (107) 4))) := mm_gf (by decide) (hq _ (by decide) (by decide)) (by decide) rfl
theorem mm_p_107_4 (hq : mm_P w) : am_pf (mm_hp w μ X n) (107) 3 4 (.int (Int32.ofInt y)) = some (mm_hp w (mm_u μ (107) 4 y) X n) := mm_pf (by decide) (hq _ (by decide) (by decide)) (by decide) (by unfold mm_ob; rw [show ((4 : Nat) : Int) = 4 from rfl, mm_us]; rfl)
theorem mm_g_107_5 (hq : mm_P w) : am_gf (mm_hp w μ X n) (107) 3 5 = some (.int (Int32.ofInt (μ (107) 5))) := mm_gf (by decide) (hq _ (by decide) (by decide)) (by decide) rfl
theorem mm_p_107_5 (hq : mm_P w) : am_pf (mm_hp w μ X n) (107) 3 5 (.int (Int32.ofInt y)) = some (mm_hp w (mm_u μ (107) 5 y) X n) := mm_pf (by decide) (hq _ (by decide) (by decide)) (by decide) (by unfold mm_ob; rw [show ((5 : Nat) : Int) = 5 from rfl, mm_us]; rfl)
theorem mm_l_108 (hq : mm_P w) : am_iat .aaload (mm_hp w μ X n) 108 (Int32.ofInt z) = if 0 ≤ mm_w z ∧ mm_w z < 12 then some (.ref (mm_row (mm_w z))) else none := by
  rw [mm_aal (N := 12) (by decide) (hq _ (by decide) (by decide)) (by decide) (by decide)]
  by_cases e : 0 ≤ mm_w z ∧ mm_w z < 12
  · rw [if_pos e]
    refine (if_pos e).trans ?_
    have h : (((mm_w z).toNat : Nat) : Int) = mm_w z := Int.toNat_of_nonneg e.1
    show some (Value.ref (mm_row ((((mm_w z).toNat : Nat) : Int)))) = _
    rw [h]
  · rw [if_neg e]
    exact if_neg e
theorem mm_l_121 (hq : mm_P w) : am_iat .iaload (mm_hp w μ X n) 121 (Int32.ofInt z) = if 0 ≤ mm_w z ∧ mm_w z < 12 then some (.int (Int32.ofInt (μ 121 (mm_w z)))) else none := mm_ial (N := 12) (by decide) (hq _ (by decide) (by decide)) (by decide)
theorem mm_s_121 (hq : mm_P w) : am_sat .iastore (mm_hp w μ X n) 121 (Int32.ofInt z) (.int (Int32.ofInt y)) = if 0 ≤ mm_w z ∧ mm_w z < 12 then some (mm_hp w (mm_u μ 121 (mm_w z) y) X n) else none := mm_ias (N := 12) (by decide) (hq _ (by decide) (by decide)) (by decide)
theorem mm_z_121 (hq : mm_P w) : am_sz (mm_hp w μ X n) 121 = some 12 := mm_aln (by decide) (hq _ (by decide) (by decide)) (by decide)
theorem mm_oc_122 (hq : mm_P w) : am_oc (mm_hp w μ X n) 122 = some 1 := mm_oc (by decide) (hq _ (by decide) (by decide)) (by decide)
theorem mm_g_122_0 (hq : mm_P w) : am_gf (mm_hp w μ X n) (122) 1 0 = some (.ref (33)) := mm_gf (by decide) (hq _ (by decide) (by decide)) (by decide) rfl
theorem mm_g_122_1 (hq : mm_P w) : am_gf (mm_hp w μ X n) (122) 1 1 = some (.ref (53)) := mm_gf (by decide) (hq _ (by decide) (by decide)) (by decide) rfl
theorem mm_g_122_2 (hq : mm_P w) : am_gf (mm_hp w μ X n) (122) 1 2 = some (.ref (95)) := mm_gf (by decide) (hq _ (by decide) (by decide)) (by decide) rfl
theorem mm_g_122_3 (hq : mm_P w) : am_gf (mm_hp w μ X n) (122) 1 3 = some (.ref (123)) := mm_gf (by decide) (hq _ (by decide) (by decide)) (by decide) rfl
theorem mm_g_122_4 (hq : mm_P w) : am_gf (mm_hp w μ X n) (122) 1 4 = some (.ref (124)) := mm_gf (by decide) (hq _ (by decide) (by decide)) (by decide) rfl
theorem mm_g_122_5 (hq : mm_P w) : am_gf (mm_hp w μ X n) (122) 1 5 = some (.int (Int32.ofInt (μ (122) 5))) := mm_gf (by decide) (hq _ (by decide) (by decide)) (by decide) rfl
theorem mm_p_122_5 (hq : mm_P w) : am_pf (mm_hp w μ X n) (122) 1 5 (.int (Int32.ofInt y)) = some (mm_hp w (mm_u μ (122) 5 y) X n) := mm_pf (by decide) (hq _ (by decide) (by decide)) (by decide) (by unfold mm_ob; rw [show ((5 : Nat) : Int) = 5 from rfl, mm_us]; rfl)
theorem mm_g_122_6 (hq : mm_P w) : am_gf (mm_hp w μ X n) (122) 1 6 = some (.int (Int32.ofInt (μ (122) 6))) := mm_gf (by decide) (hq _ (by decide) (by decide)) (by decide) rfl
theorem mm_p_122_6 (hq : mm_P w) : am_pf (mm_hp w μ X n) (122) 1 6 (.int (Int32.ofInt y)) = some (mm_hp w (mm_u μ (122) 6 y) X n) := mm_pf (by decide) (hq _ (by decide) (by decide)) (by decide) (by unfold mm_ob; rw [show ((6 : Nat) : Int) = 6 from rfl, mm_us]; rfl)
theorem mm_g_122_7 (hq : mm_P w) : am_gf (mm_hp w μ X n) (122) 1 7 = some (.int (Int32.ofInt (μ (122) 7))) := mm_gf (by decide) (hq _ (by decide) (by decide)) (by decide) rfl
theorem mm_p_122_7 (hq : mm_P w) : am_pf (mm_hp w μ X n) (122) 1 7 (.int (Int32.ofInt y)) = some (mm_hp w (mm_u μ (122) 7 y) X n) := mm_pf (by decide) (hq _ (by decide) (by decide)) (by decide) (by unfold mm_ob; rw [show ((7 : Nat) : Int) = 7 from rfl, mm_us]; rfl)
theorem mm_g_122_8 (hq : mm_P w) : am_gf (mm_hp w μ X n) (122) 1 8 = some (.int (Int32.ofInt (μ (122) 8))) := mm_gf (by decide) (hq _ (by decide) (by decide)) (by decide) rfl
theorem mm_p_122_8 (hq : mm_P w) : am_pf (mm_hp w μ X n) (122) 1 8 (.int (Int32.ofInt y)) = some (mm_hp w (mm_u μ (122) 8 y) X n) := mm_pf (by decide) (hq _ (by decide) (by decide)) (by decide) (by unfold mm_ob; rw [show ((8 : Nat) : Int) = 8 from rfl, mm_us]; rfl)
theorem mm_g_122_9 (hq : mm_P w) : am_gf (mm_hp w μ X n) (122) 1 9 = some (.int (Int32.ofInt (μ (122) 9))) := mm_gf (by decide) (hq _ (by decide) (by decide)) (by decide) rfl
theorem mm_p_122_9 (hq : mm_P w) : am_pf (mm_hp w μ X n) (122) 1 9 (.int (Int32.ofInt y)) = some (mm_hp w (mm_u μ (122) 9 y) X n) := mm_pf (by decide) (hq _ (by decide) (by decide)) (by decide) (by unfold mm_ob; rw [show ((9 : Nat) : Int) = 9 from rfl, mm_us]; rfl)
theorem mm_l_123 (hq : mm_P w) : am_iat .iaload (mm_hp w μ X n) 123 (Int32.ofInt z) = if 0 ≤ mm_w z ∧ mm_w z < 216 then some (.int (Int32.ofInt (μ 123 (mm_w z)))) else none := mm_ial (N := 216) (by decide) (hq _ (by decide) (by decide)) (by decide)
theorem mm_s_123 (hq : mm_P w) : am_sat .iastore (mm_hp w μ X n) 123 (Int32.ofInt z) (.int (Int32.ofInt y)) = if 0 ≤ mm_w z ∧ mm_w z < 216 then some (mm_hp w (mm_u μ 123 (mm_w z) y) X n) else none := mm_ias (N := 216) (by decide) (hq _ (by decide) (by decide)) (by decide)
theorem mm_z_123 (hq : mm_P w) : am_sz (mm_hp w μ X n) 123 = some 216 := mm_aln (by decide) (hq _ (by decide) (by decide)) (by decide)
theorem mm_l_124 (hq : mm_P w) : am_iat .laload (mm_hp w μ X n) 124 (Int32.ofInt z) = if 0 ≤ mm_w z ∧ mm_w z < 200 then some (.long (Int64.ofInt (μ 124 (mm_w z)))) else none := mm_lal (N := 200) (by decide) (hq _ (by decide) (by decide)) (by decide)
theorem mm_s_124 (hq : mm_P w) : am_sat .lastore (mm_hp w μ X n) 124 (Int32.ofInt z) (.long (Int64.ofInt y)) = if 0 ≤ mm_w z ∧ mm_w z < 200 then some (mm_hp w (mm_u μ 124 (mm_w z) y) X n) else none := mm_las (N := 200) (by decide) (hq _ (by decide) (by decide)) (by decide)
theorem mm_oc_125 (hq : mm_P w) : am_oc (mm_hp w μ X n) 125 = some 9 := mm_oc (by decide) (hq _ (by decide) (by decide)) (by decide)
theorem mm_g_125_0 (hq : mm_P w) : am_gf (mm_hp w μ X n) (125) 9 0 = some (.ref (33)) := mm_gf (by decide) (hq _ (by decide) (by decide)) (by decide) rfl
theorem mm_g_125_1 (hq : mm_P w) : am_gf (mm_hp w μ X n) (125) 9 1 = some (.ref (53)) := mm_gf (by decide) (hq _ (by decide) (by decide)) (by decide) rfl
theorem mm_g_125_2 (hq : mm_P w) : am_gf (mm_hp w μ X n) (125) 9 2 = some (.ref (95)) := mm_gf (by decide) (hq _ (by decide) (by decide)) (by decide) rfl
theorem mm_g_125_3 (hq : mm_P w) : am_gf (mm_hp w μ X n) (125) 9 3 = some (.ref (126)) := mm_gf (by decide) (hq _ (by decide) (by decide)) (by decide) rfl
theorem mm_g_125_4 (hq : mm_P w) : am_gf (mm_hp w μ X n) (125) 9 4 = some (.long (Int64.ofInt (μ (125) 4))) := mm_gf (by decide) (hq _ (by decide) (by decide)) (by decide) rfl
theorem mm_p_125_4 (hq : mm_P w) : am_pf (mm_hp w μ X n) (125) 9 4 (.long (Int64.ofInt y)) = some (mm_hp w (mm_u μ (125) 4 y) X n) := mm_pf (by decide) (hq _ (by decide) (by decide)) (by decide) (by unfold mm_ob; rw [show ((4 : Nat) : Int) = 4 from rfl, mm_us]; rfl)
theorem mm_g_125_5 (hq : mm_P w) : am_gf (mm_hp w μ X n) (125) 9 5 = some (.int (Int32.ofInt (μ (125) 5))) := mm_gf (by decide) (hq _ (by decide) (by decide)) (by decide) rfl
theorem mm_p_125_5 (hq : mm_P w) : am_pf (mm_hp w μ X n) (125) 9 5 (.int (Int32.ofInt y)) = some (mm_hp w (mm_u μ (125) 5 y) X n) := mm_pf (by decide) (hq _ (by decide) (by decide)) (by decide) (by unfold mm_ob; rw [show ((5 : Nat) : Int) = 5 from rfl, mm_us]; rfl)
theorem mm_l_126 (hq : mm_P w) : am_iat .iaload (mm_hp w μ X n) 126 (Int32.ofInt z) = if 0 ≤ mm_w z ∧ mm_w z < 216 then some (.int (Int32.ofInt (μ 126 (mm_w z)))) else none := mm_ial (N := 216) (by decide) (hq _ (by decide) (by decide)) (by decide)
theorem mm_s_126 (hq : mm_P w) : am_sat .iastore (mm_hp w μ X n) 126 (Int32.ofInt z) (.int (Int32.ofInt y)) = if 0 ≤ mm_w z ∧ mm_w z < 216 then some (mm_hp w (mm_u μ 126 (mm_w z) y) X n) else none := mm_ias (N := 216) (by decide) (hq _ (by decide) (by decide)) (by decide)
theorem mm_z_126 (hq : mm_P w) : am_sz (mm_hp w μ X n) 126 = some 216 := mm_aln (by decide) (hq _ (by decide) (by decide)) (by decide)
theorem mm_oc_127 (hq : mm_P w) : am_oc (mm_hp w μ X n) 127 = some 5 := mm_oc (by decide) (hq _ (by decide) (by decide)) (by decide)
theorem mm_g_127_0 (hq : mm_P w) : am_gf (mm_hp w μ X n) (127) 5 0 = some (.ref (100)) := mm_gf (by decide) (hq _ (by decide) (by decide)) (by decide) rfl
theorem mm_g_127_1 (hq : mm_P w) : am_gf (mm_hp w μ X n) (127) 5 1 = some (.ref (102)) := mm_gf (by decide) (hq _ (by decide) (by decide)) (by decide) rfl
theorem mm_g_127_2 (hq : mm_P w) : am_gf (mm_hp w μ X n) (127) 5 2 = some (.int (Int32.ofInt (μ (127) 2))) := mm_gf (by decide) (hq _ (by decide) (by decide)) (by decide) rfl
theorem mm_p_127_2 (hq : mm_P w) : am_pf (mm_hp w μ X n) (127) 5 2 (.int (Int32.ofInt y)) = some (mm_hp w (mm_u μ (127) 2 y) X n) := mm_pf (by decide) (hq _ (by decide) (by decide)) (by decide) (by unfold mm_ob; rw [show ((2 : Nat) : Int) = 2 from rfl, mm_us]; rfl)
theorem mm_l_128 (hq : mm_P w) : am_iat .iaload (mm_hp w μ X n) 128 (Int32.ofInt z) = if 0 ≤ mm_w z ∧ mm_w z < 3 then some (.int (Int32.ofInt (μ 128 (mm_w z)))) else none := mm_ial (N := 3) (by decide) (hq _ (by decide) (by decide)) (by decide)
theorem mm_s_128 (hq : mm_P w) : am_sat .iastore (mm_hp w μ X n) 128 (Int32.ofInt z) (.int (Int32.ofInt y)) = if 0 ≤ mm_w z ∧ mm_w z < 3 then some (mm_hp w (mm_u μ 128 (mm_w z) y) X n) else none := mm_ias (N := 3) (by decide) (hq _ (by decide) (by decide)) (by decide)
theorem mm_z_128 (hq : mm_P w) : am_sz (mm_hp w μ X n) 128 = some 3 := mm_aln (by decide) (hq _ (by decide) (by decide)) (by decide)
theorem mm_oc_129 (hq : mm_P w) : am_oc (mm_hp w μ X n) 129 = some 11 := mm_oc (by decide) (hq _ (by decide) (by decide)) (by decide)
theorem mm_g_129_0 (hq : mm_P w) : am_gf (mm_hp w μ X n) (129) 11 0 = some (.int (Int32.ofInt (μ (129) 0))) := mm_gf (by decide) (hq _ (by decide) (by decide)) (by decide) rfl
theorem mm_p_129_0 (hq : mm_P w) : am_pf (mm_hp w μ X n) (129) 11 0 (.int (Int32.ofInt y)) = some (mm_hp w (mm_u μ (129) 0 y) X n) := mm_pf (by decide) (hq _ (by decide) (by decide)) (by decide) (by unfold mm_ob; rw [show ((0 : Nat) : Int) = 0 from rfl, mm_us]; rfl)
theorem mm_g_129_1 (hq : mm_P w) : am_gf (mm_hp w μ X n) (129) 11 1 = some (.ref (130)) := mm_gf (by decide) (hq _ (by decide) (by decide)) (by decide) rfl
theorem mm_g_129_2 (hq : mm_P w) : am_gf (mm_hp w μ X n) (129) 11 2 = some (.ref (131)) := mm_gf (by decide) (hq _ (by decide) (by decide)) (by decide) rfl
theorem mm_g_129_3 (hq : mm_P w) : am_gf (mm_hp w μ X n) (129) 11 3 = some (.ref (132)) := mm_gf (by decide) (hq _ (by decide) (by decide)) (by decide) rfl
theorem mm_g_129_4 (hq : mm_P w) : am_gf (mm_hp w μ X n) (129) 11 4 = some (.ref (133)) := mm_gf (by decide) (hq _ (by decide) (by decide)) (by decide) rfl
theorem mm_g_129_5 (hq : mm_P w) : am_gf (mm_hp w μ X n) (129) 11 5 = some (.ref (134)) := mm_gf (by decide) (hq _ (by decide) (by decide)) (by decide) rfl
theorem mm_g_129_6 (hq : mm_P w) : am_gf (mm_hp w μ X n) (129) 11 6 = some (.ref (135)) := mm_gf (by decide) (hq _ (by decide) (by decide)) (by decide) rfl
theorem mm_g_129_7 (hq : mm_P w) : am_gf (mm_hp w μ X n) (129) 11 7 = some (.ref (136)) := mm_gf (by decide) (hq _ (by decide) (by decide)) (by decide) rfl
theorem mm_g_129_8 (hq : mm_P w) : am_gf (mm_hp w μ X n) (129) 11 8 = some (.int (Int32.ofInt (μ (129) 8))) := mm_gf (by decide) (hq _ (by decide) (by decide)) (by decide) rfl
theorem mm_p_129_8 (hq : mm_P w) : am_pf (mm_hp w μ X n) (129) 11 8 (.int (Int32.ofInt y)) = some (mm_hp w (mm_u μ (129) 8 y) X n) := mm_pf (by decide) (hq _ (by decide) (by decide)) (by decide) (by unfold mm_ob; rw [show ((8 : Nat) : Int) = 8 from rfl, mm_us]; rfl)
theorem mm_g_129_9 (hq : mm_P w) : am_gf (mm_hp w μ X n) (129) 11 9 = some (.ref (137)) := mm_gf (by decide) (hq _ (by decide) (by decide)) (by decide) rfl
theorem mm_g_129_10 (hq : mm_P w) : am_gf (mm_hp w μ X n) (129) 11 10 = some (.ref (138)) := mm_gf (by decide) (hq _ (by decide) (by decide)) (by decide) rfl
theorem mm_g_129_11 (hq : mm_P w) : am_gf (mm_hp w μ X n) (129) 11 11 = some (.int (Int32.ofInt (μ (129) 11))) := mm_gf (by decide) (hq _ (by decide) (by decide)) (by decide) rfl
theorem mm_p_129_11 (hq : mm_P w) : am_pf (mm_hp w μ X n) (129) 11 11 (.int (Int32.ofInt y)) = some (mm_hp w (mm_u μ (129) 11 y) X n) := mm_pf (by decide) (hq _ (by decide) (by decide)) (by decide) (by unfold mm_ob; rw [show ((11 : Nat) : Int) = 11 from rfl, mm_us]; rfl)
theorem mm_g_129_12 (hq : mm_P w) : am_gf (mm_hp w μ X n) (129) 11 12 = some (.ref (139)) := mm_gf (by decide) (hq _ (by decide) (by decide)) (by decide) rfl
theorem mm_g_129_13 (hq : mm_P w) : am_gf (mm_hp w μ X n) (129) 11 13 = some (.ref (140)) := mm_gf (by decide) (hq _ (by decide) (by decide)) (by decide) rfl
theorem mm_g_129_14 (hq : mm_P w) : am_gf (mm_hp w μ X n) (129) 11 14 = some (.ref (141)) := mm_gf (by decide) (hq _ (by decide) (by decide)) (by decide) rfl
theorem mm_g_129_15 (hq : mm_P w) : am_gf (mm_hp w μ X n) (129) 11 15 = some (.ref (142)) := mm_gf (by decide) (hq _ (by decide) (by decide)) (by decide) rfl
theorem mm_g_129_16 (hq : mm_P w) : am_gf (mm_hp w μ X n) (129) 11 16 = some (.ref (143)) := mm_gf (by decide) (hq _ (by decide) (by decide)) (by decide) rfl
theorem mm_g_129_17 (hq : mm_P w) : am_gf (mm_hp w μ X n) (129) 11 17 = some (.ref (144)) := mm_gf (by decide) (hq _ (by decide) (by decide)) (by decide) rfl
theorem mm_g_129_18 (hq : mm_P w) : am_gf (mm_hp w μ X n) (129) 11 18 = some (.ref (145)) := mm_gf (by decide) (hq _ (by decide) (by decide)) (by decide) rfl
theorem mm_g_129_19 (hq : mm_P w) : am_gf (mm_hp w μ X n) (129) 11 19 = some (.ref (146)) := mm_gf (by decide) (hq _ (by decide) (by decide)) (by decide) rfl
theorem mm_g_129_20 (hq : mm_P w) : am_gf (mm_hp w μ X n) (129) 11 20 = some (.ref (147)) := mm_gf (by decide) (hq _ (by decide) (by decide)) (by decide) rfl
theorem mm_g_129_21 (hq : mm_P w) : am_gf (mm_hp w μ X n) (129) 11 21 = some (.ref (148)) := mm_gf (by decide) (hq _ (by decide) (by decide)) (by decide) rfl
theorem mm_g_129_22 (hq : mm_P w) : am_gf (mm_hp w μ X n) (129) 11 22 = some (.ref (149)) := mm_gf (by decide) (hq _ (by decide) (by decide)) (by decide) rfl
theorem mm_g_129_23 (hq : mm_P w) : am_gf (mm_hp w μ X n) (129) 11 23 = some (.int (Int32.ofInt (μ (129) 23))) := mm_gf (by decide) (hq _ (by decide) (by decide)) (by decide) rfl
theorem mm_p_129_23 (hq : mm_P w) : am_pf (mm_hp w μ X n) (129) 11 23 (.int (Int32.ofInt y)) = some (mm_hp w (mm_u μ (129) 23 y) X n) := mm_pf (by decide) (hq _ (by decide) (by decide)) (by decide) (by unfold mm_ob; rw [show ((23 : Nat) : Int) = 23 from rfl, mm_us]; rfl)
theorem mm_g_129_24 (hq : mm_P w) : am_gf (mm_hp w μ X n) (129) 11 24 = some (.ref (150)) := mm_gf (by decide) (hq _ (by decide) (by decide)) (by decide) rfl
theorem mm_g_129_25 (hq : mm_P w) : am_gf (mm_hp w μ X n) (129) 11 25 = some (.int (Int32.ofInt (μ (129) 25))) := mm_gf (by decide) (hq _ (by decide) (by decide)) (by decide) rfl
theorem mm_p_129_25 (hq : mm_P w) : am_pf (mm_hp w μ X n) (129) 11 25 (.int (Int32.ofInt y)) = some (mm_hp w (mm_u μ (129) 25 y) X n) := mm_pf (by decide) (hq _ (by decide) (by decide)) (by decide) (by unfold mm_ob; rw [show ((25 : Nat) : Int) = 25 from rfl, mm_us]; rfl)
theorem mm_g_129_26 (hq : mm_P w) : am_gf (mm_hp w μ X n) (129) 11 26 = some (.ref (151)) := mm_gf (by decide) (hq _ (by decide) (by decide)) (by decide) rfl
theorem mm_g_129_27 (hq : mm_P w) : am_gf (mm_hp w μ X n) (129) 11 27 = some (.ref (152)) := mm_gf (by decide) (hq _ (by decide) (by decide)) (by decide) rfl
theorem mm_g_129_28 (hq : mm_P w) : am_gf (mm_hp w μ X n) (129) 11 28 = some (.ref (153)) := mm_gf (by decide) (hq _ (by decide) (by decide)) (by decide) rfl
theorem mm_g_129_29 (hq : mm_P w) : am_gf (mm_hp w μ X n) (129) 11 29 = some (.ref (154)) := mm_gf (by decide) (hq _ (by decide) (by decide)) (by decide) rfl
theorem mm_g_129_30 (hq : mm_P w) : am_gf (mm_hp w μ X n) (129) 11 30 = some (.ref (155)) := mm_gf (by decide) (hq _ (by decide) (by decide)) (by decide) rfl
theorem mm_g_129_31 (hq : mm_P w) : am_gf (mm_hp w μ X n) (129) 11 31 = some (.int (Int32.ofInt (μ (129) 31))) := mm_gf (by decide) (hq _ (by decide) (by decide)) (by decide) rfl
theorem mm_p_129_31 (hq : mm_P w) : am_pf (mm_hp w μ X n) (129) 11 31 (.int (Int32.ofInt y)) = some (mm_hp w (mm_u μ (129) 31 y) X n) := mm_pf (by decide) (hq _ (by decide) (by decide)) (by decide) (by unfold mm_ob; rw [show ((31 : Nat) : Int) = 31 from rfl, mm_us]; rfl)
theorem mm_g_129_32 (hq : mm_P w) : am_gf (mm_hp w μ X n) (129) 11 32 = some (.ref (156)) := mm_gf (by decide) (hq _ (by decide) (by decide)) (by decide) rfl
theorem mm_g_129_33 (hq : mm_P w) : am_gf (mm_hp w μ X n) (129) 11 33 = some (.int (Int32.ofInt (μ (129) 33))) := mm_gf (by decide) (hq _ (by decide) (by decide)) (by decide) rfl
theorem mm_p_129_33 (hq : mm_P w) : am_pf (mm_hp w μ X n) (129) 11 33 (.int (Int32.ofInt y)) = some (mm_hp w (mm_u μ (129) 33 y) X n) := mm_pf (by decide) (hq _ (by decide) (by decide)) (by decide) (by unfold mm_ob; rw [show ((33 : Nat) : Int) = 33 from rfl, mm_us]; rfl)
theorem mm_g_129_34 (hq : mm_P w) : am_gf (mm_hp w μ X n) (129) 11 34 = some (.int (Int32.ofInt (μ (129) 34))) := mm_gf (by decide) (hq _ (by decide) (by decide)) (by decide) rfl
theorem mm_p_129_34 (hq : mm_P w) : am_pf (mm_hp w μ X n) (129) 11 34 (.int (Int32.ofInt y)) = some (mm_hp w (mm_u μ (129) 34 y) X n) := mm_pf (by decide) (hq _ (by decide) (by decide)) (by decide) (by unfold mm_ob; rw [show ((34 : Nat) : Int) = 34 from rfl, mm_us]; rfl)
theorem mm_g_129_35 (hq : mm_P w) : am_gf (mm_hp w μ X n) (129) 11 35 = some (.int (Int32.ofInt (μ (129) 35))) := mm_gf (by decide) (hq _ (by decide) (by decide)) (by decide) rfl
theorem mm_p_129_35 (hq : mm_P w) : am_pf (mm_hp w μ X n) (129) 11 35 (.int (Int32.ofInt y)) = some (mm_hp w (mm_u μ (129) 35 y) X n) := mm_pf (by decide) (hq _ (by decide) (by decide)) (by decide) (by unfold mm_ob; rw [show ((35 : Nat) : Int) = 35 from rfl, mm_us]; rfl)
theorem mm_g_129_36 (hq : mm_P w) : am_gf (mm_hp w μ X n) (129) 11 36 = some (.int (Int32.ofInt (μ (129) 36))) := mm_gf (by decide) (hq _ (by decide) (by decide)) (by decide) rfl
theorem mm_p_129_36 (hq : mm_P w) : am_pf (mm_hp w μ X n) (129) 11 36 (.int (Int32.ofInt y)) = some (mm_hp w (mm_u μ (129) 36 y) X n) := mm_pf (by decide) (hq _ (by decide) (by decide)) (by decide) (by unfold mm_ob; rw [show ((36 : Nat) : Int) = 36 from rfl, mm_us]; rfl)
theorem mm_g_129_37 (hq : mm_P w) : am_gf (mm_hp w μ X n) (129) 11 37 = some (.int (Int32.ofInt (μ (129) 37))) := mm_gf (by decide) (hq _ (by decide) (by decide)) (by decide) rfl
theorem mm_p_129_37 (hq : mm_P w) : am_pf (mm_hp w μ X n) (129) 11 37 (.int (Int32.ofInt y)) = some (mm_hp w (mm_u μ (129) 37 y) X n) := mm_pf (by decide) (hq _ (by decide) (by decide)) (by decide) (by unfold mm_ob; rw [show ((37 : Nat) : Int) = 37 from rfl, mm_us]; rfl)
theorem mm_g_129_38 (hq : mm_P w) : am_gf (mm_hp w μ X n) (129) 11 38 = some (.int (Int32.ofInt (μ (129) 38))) := mm_gf (by decide) (hq _ (by decide) (by decide)) (by decide) rfl
theorem mm_p_129_38 (hq : mm_P w) : am_pf (mm_hp w μ X n) (129) 11 38 (.int (Int32.ofInt y)) = some (mm_hp w (mm_u μ (129) 38 y) X n) := mm_pf (by decide) (hq _ (by decide) (by decide)) (by decide) (by unfold mm_ob; rw [show ((38 : Nat) : Int) = 38 from rfl, mm_us]; rfl)
theorem mm_g_129_39 (hq : mm_P w) : am_gf (mm_hp w μ X n) (129) 11 39 = some (.ref (157)) := mm_gf (by decide) (hq _ (by decide) (by decide)) (by decide) rfl
theorem mm_g_129_40 (hq : mm_P w) : am_gf (mm_hp w μ X n) (129) 11 40 = some (.ref (158)) := mm_gf (by decide) (hq _ (by decide) (by decide)) (by decide) rfl
theorem mm_g_129_41 (hq : mm_P w) : am_gf (mm_hp w μ X n) (129) 11 41 = some (.ref (159)) := mm_gf (by decide) (hq _ (by decide) (by decide)) (by decide) rfl
theorem mm_g_129_42 (hq : mm_P w) : am_gf (mm_hp w μ X n) (129) 11 42 = some (.ref (160)) := mm_gf (by decide) (hq _ (by decide) (by decide)) (by decide) rfl
theorem mm_g_129_43 (hq : mm_P w) : am_gf (mm_hp w μ X n) (129) 11 43 = some (.ref (161)) := mm_gf (by decide) (hq _ (by decide) (by decide)) (by decide) rfl
theorem mm_g_129_44 (hq : mm_P w) : am_gf (mm_hp w μ X n) (129) 11 44 = some (.ref (162)) := mm_gf (by decide) (hq _ (by decide) (by decide)) (by decide) rfl
theorem mm_g_129_45 (hq : mm_P w) : am_gf (mm_hp w μ X n) (129) 11 45 = some (.ref (163)) := mm_gf (by decide) (hq _ (by decide) (by decide)) (by decide) rfl
theorem mm_g_129_46 (hq : mm_P w) : am_gf (mm_hp w μ X n) (129) 11 46 = some (.int (Int32.ofInt (μ (129) 46))) := mm_gf (by decide) (hq _ (by decide) (by decide)) (by decide) rfl
theorem mm_p_129_46 (hq : mm_P w) : am_pf (mm_hp w μ X n) (129) 11 46 (.int (Int32.ofInt y)) = some (mm_hp w (mm_u μ (129) 46 y) X n) := mm_pf (by decide) (hq _ (by decide) (by decide)) (by decide) (by unfold mm_ob; rw [show ((46 : Nat) : Int) = 46 from rfl, mm_us]; rfl)
theorem mm_g_129_47 (hq : mm_P w) : am_gf (mm_hp w μ X n) (129) 11 47 = some (.int (Int32.ofInt (μ (129) 47))) := mm_gf (by decide) (hq _ (by decide) (by decide)) (by decide) rfl
theorem mm_p_129_47 (hq : mm_P w) : am_pf (mm_hp w μ X n) (129) 11 47 (.int (Int32.ofInt y)) = some (mm_hp w (mm_u μ (129) 47 y) X n) := mm_pf (by decide) (hq _ (by decide) (by decide)) (by decide) (by unfold mm_ob; rw [show ((47 : Nat) : Int) = 47 from rfl, mm_us]; rfl)
theorem mm_g_129_48 (hq : mm_P w) : am_gf (mm_hp w μ X n) (129) 11 48 = some (.int (Int32.ofInt (μ (129) 48))) := mm_gf (by decide) (hq _ (by decide) (by decide)) (by decide) rfl
theorem mm_p_129_48 (hq : mm_P w) : am_pf (mm_hp w μ X n) (129) 11 48 (.int (Int32.ofInt y)) = some (mm_hp w (mm_u μ (129) 48 y) X n) := mm_pf (by decide) (hq _ (by decide) (by decide)) (by decide) (by unfold mm_ob; rw [show ((48 : Nat) : Int) = 48 from rfl, mm_us]; rfl)
theorem mm_g_129_49 (hq : mm_P w) : am_gf (mm_hp w μ X n) (129) 11 49 = some (.int (Int32.ofInt (μ (129) 49))) := mm_gf (by decide) (hq _ (by decide) (by decide)) (by decide) rfl
theorem mm_p_129_49 (hq : mm_P w) : am_pf (mm_hp w μ X n) (129) 11 49 (.int (Int32.ofInt y)) = some (mm_hp w (mm_u μ (129) 49 y) X n) := mm_pf (by decide) (hq _ (by decide) (by decide)) (by decide) (by unfold mm_ob; rw [show ((49 : Nat) : Int) = 49 from rfl, mm_us]; rfl)
theorem mm_g_129_50 (hq : mm_P w) : am_gf (mm_hp w μ X n) (129) 11 50 = some (.ref (164)) := mm_gf (by decide) (hq _ (by decide) (by decide)) (by decide) rfl
theorem mm_g_129_51 (hq : mm_P w) : am_gf (mm_hp w μ X n) (129) 11 51 = some (.ref (165)) := mm_gf (by decide) (hq _ (by decide) (by decide)) (by decide) rfl
theorem mm_g_129_52 (hq : mm_P w) : am_gf (mm_hp w μ X n) (129) 11 52 = some (.ref (166)) := mm_gf (by decide) (hq _ (by decide) (by decide)) (by decide) rfl
theorem mm_g_129_53 (hq : mm_P w) : am_gf (mm_hp w μ X n) (129) 11 53 = some (.ref (167)) := mm_gf (by decide) (hq _ (by decide) (by decide)) (by decide) rfl
theorem mm_g_129_54 (hq : mm_P w) : am_gf (mm_hp w μ X n) (129) 11 54 = some (.ref (168)) := mm_gf (by decide) (hq _ (by decide) (by decide)) (by decide) rfl
theorem mm_g_129_55 (hq : mm_P w) : am_gf (mm_hp w μ X n) (129) 11 55 = some (.ref (169)) := mm_gf (by decide) (hq _ (by decide) (by decide)) (by decide) rfl
theorem mm_g_129_56 (hq : mm_P w) : am_gf (mm_hp w μ X n) (129) 11 56 = some (.ref (170)) := mm_gf (by decide) (hq _ (by decide) (by decide)) (by decide) rfl
theorem mm_g_129_57 (hq : mm_P w) : am_gf (mm_hp w μ X n) (129) 11 57 = some (.ref (171)) := mm_gf (by decide) (hq _ (by decide) (by decide)) (by decide) rfl
theorem mm_g_129_58 (hq : mm_P w) : am_gf (mm_hp w μ X n) (129) 11 58 = some (.ref (172)) := mm_gf (by decide) (hq _ (by decide) (by decide)) (by decide) rfl
theorem mm_g_129_59 (hq : mm_P w) : am_gf (mm_hp w μ X n) (129) 11 59 = some (.int (Int32.ofInt (μ (129) 59))) := mm_gf (by decide) (hq _ (by decide) (by decide)) (by decide) rfl
theorem mm_p_129_59 (hq : mm_P w) : am_pf (mm_hp w μ X n) (129) 11 59 (.int (Int32.ofInt y)) = some (mm_hp w (mm_u μ (129) 59 y) X n) := mm_pf (by decide) (hq _ (by decide) (by decide)) (by decide) (by unfold mm_ob; rw [show ((59 : Nat) : Int) = 59 from rfl, mm_us]; rfl)
theorem mm_g_129_60 (hq : mm_P w) : am_gf (mm_hp w μ X n) (129) 11 60 = some (.ref (173)) := mm_gf (by decide) (hq _ (by decide) (by decide)) (by decide) rfl
theorem mm_g_129_61 (hq : mm_P w) : am_gf (mm_hp w μ X n) (129) 11 61 = some (.ref (174)) := mm_gf (by decide) (hq _ (by decide) (by decide)) (by decide) rfl
theorem mm_g_129_62 (hq : mm_P w) : am_gf (mm_hp w μ X n) (129) 11 62 = some (.int (Int32.ofInt (μ (129) 62))) := mm_gf (by decide) (hq _ (by decide) (by decide)) (by decide) rfl
theorem mm_p_129_62 (hq : mm_P w) : am_pf (mm_hp w μ X n) (129) 11 62 (.int (Int32.ofInt y)) = some (mm_hp w (mm_u μ (129) 62 y) X n) := mm_pf (by decide) (hq _ (by decide) (by decide)) (by decide) (by unfold mm_ob; rw [show ((62 : Nat) : Int) = 62 from rfl, mm_us]; rfl)
theorem mm_g_129_63 (hq : mm_P w) : am_gf (mm_hp w μ X n) (129) 11 63 = some (.long (Int64.ofInt (μ (129) 63))) := mm_gf (by decide) (hq _ (by decide) (by decide)) (by decide) rfl
theorem mm_p_129_63 (hq : mm_P w) : am_pf (mm_hp w μ X n) (129) 11 63 (.long (Int64.ofInt y)) = some (mm_hp w (mm_u μ (129) 63 y) X n) := mm_pf (by decide) (hq _ (by decide) (by decide)) (by decide) (by unfold mm_ob; rw [show ((63 : Nat) : Int) = 63 from rfl, mm_us]; rfl)
theorem mm_g_129_64 (hq : mm_P w) : am_gf (mm_hp w μ X n) (129) 11 64 = some (.int (Int32.ofInt (μ (129) 64))) := mm_gf (by decide) (hq _ (by decide) (by decide)) (by decide) rfl
theorem mm_p_129_64 (hq : mm_P w) : am_pf (mm_hp w μ X n) (129) 11 64 (.int (Int32.ofInt y)) = some (mm_hp w (mm_u μ (129) 64 y) X n) := mm_pf (by decide) (hq _ (by decide) (by decide)) (by decide) (by unfold mm_ob; rw [show ((64 : Nat) : Int) = 64 from rfl, mm_us]; rfl)
theorem mm_g_129_65 (hq : mm_P w) : am_gf (mm_hp w μ X n) (129) 11 65 = some (.int (Int32.ofInt (μ (129) 65))) := mm_gf (by decide) (hq _ (by decide) (by decide)) (by decide) rfl
theorem mm_p_129_65 (hq : mm_P w) : am_pf (mm_hp w μ X n) (129) 11 65 (.int (Int32.ofInt y)) = some (mm_hp w (mm_u μ (129) 65 y) X n) := mm_pf (by decide) (hq _ (by decide) (by decide)) (by decide) (by unfold mm_ob; rw [show ((65 : Nat) : Int) = 65 from rfl, mm_us]; rfl)
theorem mm_g_129_66 (hq : mm_P w) : am_gf (mm_hp w μ X n) (129) 11 66 = some (.ref (175)) := mm_gf (by decide) (hq _ (by decide) (by decide)) (by decide) rfl
theorem mm_g_129_67 (hq : mm_P w) : am_gf (mm_hp w μ X n) (129) 11 67 = some (.ref (176)) := mm_gf (by decide) (hq _ (by decide) (by decide)) (by decide) rfl
theorem mm_g_129_68 (hq : mm_P w) : am_gf (mm_hp w μ X n) (129) 11 68 = some (.ref (177)) := mm_gf (by decide) (hq _ (by decide) (by decide)) (by decide) rfl
theorem mm_l_130 (hq : mm_P w) : am_iat .baload (mm_hp w μ X n) 130 (Int32.ofInt z) = if 0 ≤ mm_w z ∧ mm_w z < 18 then some (.int (Int32.ofInt (μ 130 (mm_w z)))) else none := mm_bal (N := 18) (by decide) (hq _ (by decide) (by decide)) (by decide)
theorem mm_s_130 (hq : mm_P w) : am_sat .bastore (mm_hp w μ X n) 130 (Int32.ofInt z) (.int (Int32.ofInt y)) = if 0 ≤ mm_w z ∧ mm_w z < 18 then some (mm_hp w (mm_u μ 130 (mm_w z) (mm_b1 y)) X n) else none := mm_bas (N := 18) (by decide) (hq _ (by decide) (by decide)) (by decide)
theorem mm_l_131 (hq : mm_P w) : am_iat .iaload (mm_hp w μ X n) 131 (Int32.ofInt z) = if 0 ≤ mm_w z ∧ mm_w z < 18 then some (.int (Int32.ofInt (μ 131 (mm_w z)))) else none := mm_ial (N := 18) (by decide) (hq _ (by decide) (by decide)) (by decide)
theorem mm_s_131 (hq : mm_P w) : am_sat .iastore (mm_hp w μ X n) 131 (Int32.ofInt z) (.int (Int32.ofInt y)) = if 0 ≤ mm_w z ∧ mm_w z < 18 then some (mm_hp w (mm_u μ 131 (mm_w z) y) X n) else none := mm_ias (N := 18) (by decide) (hq _ (by decide) (by decide)) (by decide)
theorem mm_z_131 (hq : mm_P w) : am_sz (mm_hp w μ X n) 131 = some 18 := mm_aln (by decide) (hq _ (by decide) (by decide)) (by decide)
theorem mm_l_132 (hq : mm_P w) : am_iat .iaload (mm_hp w μ X n) 132 (Int32.ofInt z) = if 0 ≤ mm_w z ∧ mm_w z < 18 then some (.int (Int32.ofInt (μ 132 (mm_w z)))) else none := mm_ial (N := 18) (by decide) (hq _ (by decide) (by decide)) (by decide)
theorem mm_s_132 (hq : mm_P w) : am_sat .iastore (mm_hp w μ X n) 132 (Int32.ofInt z) (.int (Int32.ofInt y)) = if 0 ≤ mm_w z ∧ mm_w z < 18 then some (mm_hp w (mm_u μ 132 (mm_w z) y) X n) else none := mm_ias (N := 18) (by decide) (hq _ (by decide) (by decide)) (by decide)
theorem mm_z_132 (hq : mm_P w) : am_sz (mm_hp w μ X n) 132 = some 18 := mm_aln (by decide) (hq _ (by decide) (by decide)) (by decide)
theorem mm_l_133 (hq : mm_P w) : am_iat .iaload (mm_hp w μ X n) 133 (Int32.ofInt z) = if 0 ≤ mm_w z ∧ mm_w z < 18 then some (.int (Int32.ofInt (μ 133 (mm_w z)))) else none := mm_ial (N := 18) (by decide) (hq _ (by decide) (by decide)) (by decide)
theorem mm_s_133 (hq : mm_P w) : am_sat .iastore (mm_hp w μ X n) 133 (Int32.ofInt z) (.int (Int32.ofInt y)) = if 0 ≤ mm_w z ∧ mm_w z < 18 then some (mm_hp w (mm_u μ 133 (mm_w z) y) X n) else none := mm_ias (N := 18) (by decide) (hq _ (by decide) (by decide)) (by decide)
theorem mm_z_133 (hq : mm_P w) : am_sz (mm_hp w μ X n) 133 = some 18 := mm_aln (by decide) (hq _ (by decide) (by decide)) (by decide)
theorem mm_l_134 (hq : mm_P w) : am_iat .iaload (mm_hp w μ X n) 134 (Int32.ofInt z) = if 0 ≤ mm_w z ∧ mm_w z < 3 then some (.int (Int32.ofInt (μ 134 (mm_w z)))) else none := mm_ial (N := 3) (by decide) (hq _ (by decide) (by decide)) (by decide)
theorem mm_s_134 (hq : mm_P w) : am_sat .iastore (mm_hp w μ X n) 134 (Int32.ofInt z) (.int (Int32.ofInt y)) = if 0 ≤ mm_w z ∧ mm_w z < 3 then some (mm_hp w (mm_u μ 134 (mm_w z) y) X n) else none := mm_ias (N := 3) (by decide) (hq _ (by decide) (by decide)) (by decide)
theorem mm_z_134 (hq : mm_P w) : am_sz (mm_hp w μ X n) 134 = some 3 := mm_aln (by decide) (hq _ (by decide) (by decide)) (by decide)
theorem mm_l_135 (hq : mm_P w) : am_iat .iaload (mm_hp w μ X n) 135 (Int32.ofInt z) = if 0 ≤ mm_w z ∧ mm_w z < 8 then some (.int (Int32.ofInt (μ 135 (mm_w z)))) else none := mm_ial (N := 8) (by decide) (hq _ (by decide) (by decide)) (by decide)
theorem mm_s_135 (hq : mm_P w) : am_sat .iastore (mm_hp w μ X n) 135 (Int32.ofInt z) (.int (Int32.ofInt y)) = if 0 ≤ mm_w z ∧ mm_w z < 8 then some (mm_hp w (mm_u μ 135 (mm_w z) y) X n) else none := mm_ias (N := 8) (by decide) (hq _ (by decide) (by decide)) (by decide)
theorem mm_z_135 (hq : mm_P w) : am_sz (mm_hp w μ X n) 135 = some 8 := mm_aln (by decide) (hq _ (by decide) (by decide)) (by decide)
theorem mm_l_136 (hq : mm_P w) : am_iat .iaload (mm_hp w μ X n) 136 (Int32.ofInt z) = if 0 ≤ mm_w z ∧ mm_w z < 3 then some (.int (Int32.ofInt (μ 136 (mm_w z)))) else none := mm_ial (N := 3) (by decide) (hq _ (by decide) (by decide)) (by decide)
theorem mm_s_136 (hq : mm_P w) : am_sat .iastore (mm_hp w μ X n) 136 (Int32.ofInt z) (.int (Int32.ofInt y)) = if 0 ≤ mm_w z ∧ mm_w z < 3 then some (mm_hp w (mm_u μ 136 (mm_w z) y) X n) else none := mm_ias (N := 3) (by decide) (hq _ (by decide) (by decide)) (by decide)
theorem mm_z_136 (hq : mm_P w) : am_sz (mm_hp w μ X n) 136 = some 3 := mm_aln (by decide) (hq _ (by decide) (by decide)) (by decide)
theorem mm_l_137 (hq : mm_P w) : am_iat .baload (mm_hp w μ X n) 137 (Int32.ofInt z) = if 0 ≤ mm_w z ∧ mm_w z < 648 then some (.int (Int32.ofInt (μ 137 (mm_w z)))) else none := mm_bal (N := 648) (by decide) (hq _ (by decide) (by decide)) (by decide)
theorem mm_s_137 (hq : mm_P w) : am_sat .bastore (mm_hp w μ X n) 137 (Int32.ofInt z) (.int (Int32.ofInt y)) = if 0 ≤ mm_w z ∧ mm_w z < 648 then some (mm_hp w (mm_u μ 137 (mm_w z) (mm_b1 y)) X n) else none := mm_bas (N := 648) (by decide) (hq _ (by decide) (by decide)) (by decide)
theorem mm_l_138 (hq : mm_P w) : am_iat .iaload (mm_hp w μ X n) 138 (Int32.ofInt z) = if 0 ≤ mm_w z ∧ mm_w z < 648 then some (.int (Int32.ofInt (μ 138 (mm_w z)))) else none := mm_ial (N := 648) (by decide) (hq _ (by decide) (by decide)) (by decide)
theorem mm_s_138 (hq : mm_P w) : am_sat .iastore (mm_hp w μ X n) 138 (Int32.ofInt z) (.int (Int32.ofInt y)) = if 0 ≤ mm_w z ∧ mm_w z < 648 then some (mm_hp w (mm_u μ 138 (mm_w z) y) X n) else none := mm_ias (N := 648) (by decide) (hq _ (by decide) (by decide)) (by decide)
theorem mm_z_138 (hq : mm_P w) : am_sz (mm_hp w μ X n) 138 = some 648 := mm_aln (by decide) (hq _ (by decide) (by decide)) (by decide)
theorem mm_l_139 (hq : mm_P w) : am_iat .iaload (mm_hp w μ X n) 139 (Int32.ofInt z) = if 0 ≤ mm_w z ∧ mm_w z < 24 then some (.int (Int32.ofInt (μ 139 (mm_w z)))) else none := mm_ial (N := 24) (by decide) (hq _ (by decide) (by decide)) (by decide)
theorem mm_s_139 (hq : mm_P w) : am_sat .iastore (mm_hp w μ X n) 139 (Int32.ofInt z) (.int (Int32.ofInt y)) = if 0 ≤ mm_w z ∧ mm_w z < 24 then some (mm_hp w (mm_u μ 139 (mm_w z) y) X n) else none := mm_ias (N := 24) (by decide) (hq _ (by decide) (by decide)) (by decide)
theorem mm_z_139 (hq : mm_P w) : am_sz (mm_hp w μ X n) 139 = some 24 := mm_aln (by decide) (hq _ (by decide) (by decide)) (by decide)
theorem mm_l_140 (hq : mm_P w) : am_iat .iaload (mm_hp w μ X n) 140 (Int32.ofInt z) = if 0 ≤ mm_w z ∧ mm_w z < 24 then some (.int (Int32.ofInt (μ 140 (mm_w z)))) else none := mm_ial (N := 24) (by decide) (hq _ (by decide) (by decide)) (by decide)
theorem mm_s_140 (hq : mm_P w) : am_sat .iastore (mm_hp w μ X n) 140 (Int32.ofInt z) (.int (Int32.ofInt y)) = if 0 ≤ mm_w z ∧ mm_w z < 24 then some (mm_hp w (mm_u μ 140 (mm_w z) y) X n) else none := mm_ias (N := 24) (by decide) (hq _ (by decide) (by decide)) (by decide)
theorem mm_z_140 (hq : mm_P w) : am_sz (mm_hp w μ X n) 140 = some 24 := mm_aln (by decide) (hq _ (by decide) (by decide)) (by decide)
theorem mm_l_141 (hq : mm_P w) : am_iat .iaload (mm_hp w μ X n) 141 (Int32.ofInt z) = if 0 ≤ mm_w z ∧ mm_w z < 8 then some (.int (Int32.ofInt (μ 141 (mm_w z)))) else none := mm_ial (N := 8) (by decide) (hq _ (by decide) (by decide)) (by decide)
theorem mm_s_141 (hq : mm_P w) : am_sat .iastore (mm_hp w μ X n) 141 (Int32.ofInt z) (.int (Int32.ofInt y)) = if 0 ≤ mm_w z ∧ mm_w z < 8 then some (mm_hp w (mm_u μ 141 (mm_w z) y) X n) else none := mm_ias (N := 8) (by decide) (hq _ (by decide) (by decide)) (by decide)
theorem mm_z_141 (hq : mm_P w) : am_sz (mm_hp w μ X n) 141 = some 8 := mm_aln (by decide) (hq _ (by decide) (by decide)) (by decide)
theorem mm_l_142 (hq : mm_P w) : am_iat .iaload (mm_hp w μ X n) 142 (Int32.ofInt z) = if 0 ≤ mm_w z ∧ mm_w z < 512 then some (.int (Int32.ofInt (μ 142 (mm_w z)))) else none := mm_ial (N := 512) (by decide) (hq _ (by decide) (by decide)) (by decide)
theorem mm_s_142 (hq : mm_P w) : am_sat .iastore (mm_hp w μ X n) 142 (Int32.ofInt z) (.int (Int32.ofInt y)) = if 0 ≤ mm_w z ∧ mm_w z < 512 then some (mm_hp w (mm_u μ 142 (mm_w z) y) X n) else none := mm_ias (N := 512) (by decide) (hq _ (by decide) (by decide)) (by decide)
theorem mm_z_142 (hq : mm_P w) : am_sz (mm_hp w μ X n) 142 = some 512 := mm_aln (by decide) (hq _ (by decide) (by decide)) (by decide)
theorem mm_l_143 (hq : mm_P w) : am_iat .iaload (mm_hp w μ X n) 143 (Int32.ofInt z) = if 0 ≤ mm_w z ∧ mm_w z < 512 then some (.int (Int32.ofInt (μ 143 (mm_w z)))) else none := mm_ial (N := 512) (by decide) (hq _ (by decide) (by decide)) (by decide)
theorem mm_s_143 (hq : mm_P w) : am_sat .iastore (mm_hp w μ X n) 143 (Int32.ofInt z) (.int (Int32.ofInt y)) = if 0 ≤ mm_w z ∧ mm_w z < 512 then some (mm_hp w (mm_u μ 143 (mm_w z) y) X n) else none := mm_ias (N := 512) (by decide) (hq _ (by decide) (by decide)) (by decide)
theorem mm_z_143 (hq : mm_P w) : am_sz (mm_hp w μ X n) 143 = some 512 := mm_aln (by decide) (hq _ (by decide) (by decide)) (by decide)
theorem mm_l_144 (hq : mm_P w) : am_iat .iaload (mm_hp w μ X n) 144 (Int32.ofInt z) = if 0 ≤ mm_w z ∧ mm_w z < 512 then some (.int (Int32.ofInt (μ 144 (mm_w z)))) else none := mm_ial (N := 512) (by decide) (hq _ (by decide) (by decide)) (by decide)
theorem mm_s_144 (hq : mm_P w) : am_sat .iastore (mm_hp w μ X n) 144 (Int32.ofInt z) (.int (Int32.ofInt y)) = if 0 ≤ mm_w z ∧ mm_w z < 512 then some (mm_hp w (mm_u μ 144 (mm_w z) y) X n) else none := mm_ias (N := 512) (by decide) (hq _ (by decide) (by decide)) (by decide)
theorem mm_z_144 (hq : mm_P w) : am_sz (mm_hp w μ X n) 144 = some 512 := mm_aln (by decide) (hq _ (by decide) (by decide)) (by decide)
theorem mm_l_145 (hq : mm_P w) : am_iat .iaload (mm_hp w μ X n) 145 (Int32.ofInt z) = if 0 ≤ mm_w z ∧ mm_w z < 8 then some (.int (Int32.ofInt (μ 145 (mm_w z)))) else none := mm_ial (N := 8) (by decide) (hq _ (by decide) (by decide)) (by decide)
theorem mm_s_145 (hq : mm_P w) : am_sat .iastore (mm_hp w μ X n) 145 (Int32.ofInt z) (.int (Int32.ofInt y)) = if 0 ≤ mm_w z ∧ mm_w z < 8 then some (mm_hp w (mm_u μ 145 (mm_w z) y) X n) else none := mm_ias (N := 8) (by decide) (hq _ (by decide) (by decide)) (by decide)
theorem mm_z_145 (hq : mm_P w) : am_sz (mm_hp w μ X n) 145 = some 8 := mm_aln (by decide) (hq _ (by decide) (by decide)) (by decide)
theorem mm_l_146 (hq : mm_P w) : am_iat .iaload (mm_hp w μ X n) 146 (Int32.ofInt z) = if 0 ≤ mm_w z ∧ mm_w z < 192 then some (.int (Int32.ofInt (μ 146 (mm_w z)))) else none := mm_ial (N := 192) (by decide) (hq _ (by decide) (by decide)) (by decide)
theorem mm_s_146 (hq : mm_P w) : am_sat .iastore (mm_hp w μ X n) 146 (Int32.ofInt z) (.int (Int32.ofInt y)) = if 0 ≤ mm_w z ∧ mm_w z < 192 then some (mm_hp w (mm_u μ 146 (mm_w z) y) X n) else none := mm_ias (N := 192) (by decide) (hq _ (by decide) (by decide)) (by decide)
theorem mm_z_146 (hq : mm_P w) : am_sz (mm_hp w μ X n) 146 = some 192 := mm_aln (by decide) (hq _ (by decide) (by decide)) (by decide)
theorem mm_l_147 (hq : mm_P w) : am_iat .iaload (mm_hp w μ X n) 147 (Int32.ofInt z) = if 0 ≤ mm_w z ∧ mm_w z < 192 then some (.int (Int32.ofInt (μ 147 (mm_w z)))) else none := mm_ial (N := 192) (by decide) (hq _ (by decide) (by decide)) (by decide)
theorem mm_s_147 (hq : mm_P w) : am_sat .iastore (mm_hp w μ X n) 147 (Int32.ofInt z) (.int (Int32.ofInt y)) = if 0 ≤ mm_w z ∧ mm_w z < 192 then some (mm_hp w (mm_u μ 147 (mm_w z) y) X n) else none := mm_ias (N := 192) (by decide) (hq _ (by decide) (by decide)) (by decide)
theorem mm_z_147 (hq : mm_P w) : am_sz (mm_hp w μ X n) 147 = some 192 := mm_aln (by decide) (hq _ (by decide) (by decide)) (by decide)
theorem mm_l_148 (hq : mm_P w) : am_iat .iaload (mm_hp w μ X n) 148 (Int32.ofInt z) = if 0 ≤ mm_w z ∧ mm_w z < 3 then some (.int (Int32.ofInt (μ 148 (mm_w z)))) else none := mm_ial (N := 3) (by decide) (hq _ (by decide) (by decide)) (by decide)
theorem mm_s_148 (hq : mm_P w) : am_sat .iastore (mm_hp w μ X n) 148 (Int32.ofInt z) (.int (Int32.ofInt y)) = if 0 ≤ mm_w z ∧ mm_w z < 3 then some (mm_hp w (mm_u μ 148 (mm_w z) y) X n) else none := mm_ias (N := 3) (by decide) (hq _ (by decide) (by decide)) (by decide)
theorem mm_z_148 (hq : mm_P w) : am_sz (mm_hp w μ X n) 148 = some 3 := mm_aln (by decide) (hq _ (by decide) (by decide)) (by decide)
theorem mm_l_149 (hq : mm_P w) : am_iat .iaload (mm_hp w μ X n) 149 (Int32.ofInt z) = if 0 ≤ mm_w z ∧ mm_w z < 3 then some (.int (Int32.ofInt (μ 149 (mm_w z)))) else none := mm_ial (N := 3) (by decide) (hq _ (by decide) (by decide)) (by decide)
theorem mm_s_149 (hq : mm_P w) : am_sat .iastore (mm_hp w μ X n) 149 (Int32.ofInt z) (.int (Int32.ofInt y)) = if 0 ≤ mm_w z ∧ mm_w z < 3 then some (mm_hp w (mm_u μ 149 (mm_w z) y) X n) else none := mm_ias (N := 3) (by decide) (hq _ (by decide) (by decide)) (by decide)
theorem mm_z_149 (hq : mm_P w) : am_sz (mm_hp w μ X n) 149 = some 3 := mm_aln (by decide) (hq _ (by decide) (by decide)) (by decide)
theorem mm_l_150 (hq : mm_P w) : am_iat .caload (mm_hp w μ X n) 150 (Int32.ofInt z) = if 0 ≤ mm_w z ∧ mm_w z < 24 then some (.int (Int32.ofInt (μ 150 (mm_w z)))) else none := mm_cal (N := 24) (by decide) (hq _ (by decide) (by decide)) (by decide)
theorem mm_s_150 (hq : mm_P w) : am_sat .castore (mm_hp w μ X n) 150 (Int32.ofInt z) (.int (Int32.ofInt y)) = if 0 ≤ mm_w z ∧ mm_w z < 24 then some (mm_hp w (mm_u μ 150 (mm_w z) (mm_c16 y)) X n) else none := mm_cas (N := 24) (by decide) (hq _ (by decide) (by decide)) (by decide)
theorem mm_l_151 (hq : mm_P w) : am_iat .iaload (mm_hp w μ X n) 151 (Int32.ofInt z) = if 0 ≤ mm_w z ∧ mm_w z < 32 then some (.int (Int32.ofInt (μ 151 (mm_w z)))) else none := mm_ial (N := 32) (by decide) (hq _ (by decide) (by decide)) (by decide)
theorem mm_s_151 (hq : mm_P w) : am_sat .iastore (mm_hp w μ X n) 151 (Int32.ofInt z) (.int (Int32.ofInt y)) = if 0 ≤ mm_w z ∧ mm_w z < 32 then some (mm_hp w (mm_u μ 151 (mm_w z) y) X n) else none := mm_ias (N := 32) (by decide) (hq _ (by decide) (by decide)) (by decide)
theorem mm_z_151 (hq : mm_P w) : am_sz (mm_hp w μ X n) 151 = some 32 := mm_aln (by decide) (hq _ (by decide) (by decide)) (by decide)
theorem mm_l_152 (hq : mm_P w) : am_iat .iaload (mm_hp w μ X n) 152 (Int32.ofInt z) = if 0 ≤ mm_w z ∧ mm_w z < 32 then some (.int (Int32.ofInt (μ 152 (mm_w z)))) else none := mm_ial (N := 32) (by decide) (hq _ (by decide) (by decide)) (by decide)
theorem mm_s_152 (hq : mm_P w) : am_sat .iastore (mm_hp w μ X n) 152 (Int32.ofInt z) (.int (Int32.ofInt y)) = if 0 ≤ mm_w z ∧ mm_w z < 32 then some (mm_hp w (mm_u μ 152 (mm_w z) y) X n) else none := mm_ias (N := 32) (by decide) (hq _ (by decide) (by decide)) (by decide)
theorem mm_z_152 (hq : mm_P w) : am_sz (mm_hp w μ X n) 152 = some 32 := mm_aln (by decide) (hq _ (by decide) (by decide)) (by decide)
theorem mm_l_153 (hq : mm_P w) : am_iat .iaload (mm_hp w μ X n) 153 (Int32.ofInt z) = if 0 ≤ mm_w z ∧ mm_w z < 32 then some (.int (Int32.ofInt (μ 153 (mm_w z)))) else none := mm_ial (N := 32) (by decide) (hq _ (by decide) (by decide)) (by decide)
theorem mm_s_153 (hq : mm_P w) : am_sat .iastore (mm_hp w μ X n) 153 (Int32.ofInt z) (.int (Int32.ofInt y)) = if 0 ≤ mm_w z ∧ mm_w z < 32 then some (mm_hp w (mm_u μ 153 (mm_w z) y) X n) else none := mm_ias (N := 32) (by decide) (hq _ (by decide) (by decide)) (by decide)
theorem mm_z_153 (hq : mm_P w) : am_sz (mm_hp w μ X n) 153 = some 32 := mm_aln (by decide) (hq _ (by decide) (by decide)) (by decide)
theorem mm_l_154 (hq : mm_P w) : am_iat .iaload (mm_hp w μ X n) 154 (Int32.ofInt z) = if 0 ≤ mm_w z ∧ mm_w z < 32 then some (.int (Int32.ofInt (μ 154 (mm_w z)))) else none := mm_ial (N := 32) (by decide) (hq _ (by decide) (by decide)) (by decide)
theorem mm_s_154 (hq : mm_P w) : am_sat .iastore (mm_hp w μ X n) 154 (Int32.ofInt z) (.int (Int32.ofInt y)) = if 0 ≤ mm_w z ∧ mm_w z < 32 then some (mm_hp w (mm_u μ 154 (mm_w z) y) X n) else none := mm_ias (N := 32) (by decide) (hq _ (by decide) (by decide)) (by decide)
theorem mm_z_154 (hq : mm_P w) : am_sz (mm_hp w μ X n) 154 = some 32 := mm_aln (by decide) (hq _ (by decide) (by decide)) (by decide)
theorem mm_l_155 (hq : mm_P w) : am_iat .iaload (mm_hp w μ X n) 155 (Int32.ofInt z) = if 0 ≤ mm_w z ∧ mm_w z < 32 then some (.int (Int32.ofInt (μ 155 (mm_w z)))) else none := mm_ial (N := 32) (by decide) (hq _ (by decide) (by decide)) (by decide)
theorem mm_s_155 (hq : mm_P w) : am_sat .iastore (mm_hp w μ X n) 155 (Int32.ofInt z) (.int (Int32.ofInt y)) = if 0 ≤ mm_w z ∧ mm_w z < 32 then some (mm_hp w (mm_u μ 155 (mm_w z) y) X n) else none := mm_ias (N := 32) (by decide) (hq _ (by decide) (by decide)) (by decide)
theorem mm_z_155 (hq : mm_P w) : am_sz (mm_hp w μ X n) 155 = some 32 := mm_aln (by decide) (hq _ (by decide) (by decide)) (by decide)
theorem mm_l_156 (hq : mm_P w) : am_iat .iaload (mm_hp w μ X n) 156 (Int32.ofInt z) = if 0 ≤ mm_w z ∧ mm_w z < 32 then some (.int (Int32.ofInt (μ 156 (mm_w z)))) else none := mm_ial (N := 32) (by decide) (hq _ (by decide) (by decide)) (by decide)
theorem mm_s_156 (hq : mm_P w) : am_sat .iastore (mm_hp w μ X n) 156 (Int32.ofInt z) (.int (Int32.ofInt y)) = if 0 ≤ mm_w z ∧ mm_w z < 32 then some (mm_hp w (mm_u μ 156 (mm_w z) y) X n) else none := mm_ias (N := 32) (by decide) (hq _ (by decide) (by decide)) (by decide)
theorem mm_z_156 (hq : mm_P w) : am_sz (mm_hp w μ X n) 156 = some 32 := mm_aln (by decide) (hq _ (by decide) (by decide)) (by decide)
theorem mm_l_157 (hq : mm_P w) : am_iat .iaload (mm_hp w μ X n) 157 (Int32.ofInt z) = if 0 ≤ mm_w z ∧ mm_w z < 12 then some (.int (Int32.ofInt (μ 157 (mm_w z)))) else none := mm_ial (N := 12) (by decide) (hq _ (by decide) (by decide)) (by decide)
theorem mm_s_157 (hq : mm_P w) : am_sat .iastore (mm_hp w μ X n) 157 (Int32.ofInt z) (.int (Int32.ofInt y)) = if 0 ≤ mm_w z ∧ mm_w z < 12 then some (mm_hp w (mm_u μ 157 (mm_w z) y) X n) else none := mm_ias (N := 12) (by decide) (hq _ (by decide) (by decide)) (by decide)
theorem mm_z_157 (hq : mm_P w) : am_sz (mm_hp w μ X n) 157 = some 12 := mm_aln (by decide) (hq _ (by decide) (by decide)) (by decide)
theorem mm_l_158 (hq : mm_P w) : am_iat .iaload (mm_hp w μ X n) 158 (Int32.ofInt z) = if 0 ≤ mm_w z ∧ mm_w z < 12 then some (.int (Int32.ofInt (μ 158 (mm_w z)))) else none := mm_ial (N := 12) (by decide) (hq _ (by decide) (by decide)) (by decide)
theorem mm_s_158 (hq : mm_P w) : am_sat .iastore (mm_hp w μ X n) 158 (Int32.ofInt z) (.int (Int32.ofInt y)) = if 0 ≤ mm_w z ∧ mm_w z < 12 then some (mm_hp w (mm_u μ 158 (mm_w z) y) X n) else none := mm_ias (N := 12) (by decide) (hq _ (by decide) (by decide)) (by decide)
theorem mm_z_158 (hq : mm_P w) : am_sz (mm_hp w μ X n) 158 = some 12 := mm_aln (by decide) (hq _ (by decide) (by decide)) (by decide)
theorem mm_l_159 (hq : mm_P w) : am_iat .iaload (mm_hp w μ X n) 159 (Int32.ofInt z) = if 0 ≤ mm_w z ∧ mm_w z < 2592 then some (.int (Int32.ofInt (μ 159 (mm_w z)))) else none := mm_ial (N := 2592) (by decide) (hq _ (by decide) (by decide)) (by decide)
theorem mm_s_159 (hq : mm_P w) : am_sat .iastore (mm_hp w μ X n) 159 (Int32.ofInt z) (.int (Int32.ofInt y)) = if 0 ≤ mm_w z ∧ mm_w z < 2592 then some (mm_hp w (mm_u μ 159 (mm_w z) y) X n) else none := mm_ias (N := 2592) (by decide) (hq _ (by decide) (by decide)) (by decide)
theorem mm_z_159 (hq : mm_P w) : am_sz (mm_hp w μ X n) 159 = some 2592 := mm_aln (by decide) (hq _ (by decide) (by decide)) (by decide)
theorem mm_l_160 (hq : mm_P w) : am_iat .baload (mm_hp w μ X n) 160 (Int32.ofInt z) = if 0 ≤ mm_w z ∧ mm_w z < 2592 then some (.int (Int32.ofInt (μ 160 (mm_w z)))) else none := mm_bal (N := 2592) (by decide) (hq _ (by decide) (by decide)) (by decide)
theorem mm_s_160 (hq : mm_P w) : am_sat .bastore (mm_hp w μ X n) 160 (Int32.ofInt z) (.int (Int32.ofInt y)) = if 0 ≤ mm_w z ∧ mm_w z < 2592 then some (mm_hp w (mm_u μ 160 (mm_w z) (mm_b1 y)) X n) else none := mm_bas (N := 2592) (by decide) (hq _ (by decide) (by decide)) (by decide)
theorem mm_l_161 (hq : mm_P w) : am_iat .iaload (mm_hp w μ X n) 161 (Int32.ofInt z) = if 0 ≤ mm_w z ∧ mm_w z < 2592 then some (.int (Int32.ofInt (μ 161 (mm_w z)))) else none := mm_ial (N := 2592) (by decide) (hq _ (by decide) (by decide)) (by decide)
theorem mm_s_161 (hq : mm_P w) : am_sat .iastore (mm_hp w μ X n) 161 (Int32.ofInt z) (.int (Int32.ofInt y)) = if 0 ≤ mm_w z ∧ mm_w z < 2592 then some (mm_hp w (mm_u μ 161 (mm_w z) y) X n) else none := mm_ias (N := 2592) (by decide) (hq _ (by decide) (by decide)) (by decide)
theorem mm_z_161 (hq : mm_P w) : am_sz (mm_hp w μ X n) 161 = some 2592 := mm_aln (by decide) (hq _ (by decide) (by decide)) (by decide)
theorem mm_l_162 (hq : mm_P w) : am_iat .baload (mm_hp w μ X n) 162 (Int32.ofInt z) = if 0 ≤ mm_w z ∧ mm_w z < 2592 then some (.int (Int32.ofInt (μ 162 (mm_w z)))) else none := mm_bal (N := 2592) (by decide) (hq _ (by decide) (by decide)) (by decide)
theorem mm_s_162 (hq : mm_P w) : am_sat .bastore (mm_hp w μ X n) 162 (Int32.ofInt z) (.int (Int32.ofInt y)) = if 0 ≤ mm_w z ∧ mm_w z < 2592 then some (mm_hp w (mm_u μ 162 (mm_w z) (mm_b1 y)) X n) else none := mm_bas (N := 2592) (by decide) (hq _ (by decide) (by decide)) (by decide)
theorem mm_l_163 (hq : mm_P w) : am_iat .iaload (mm_hp w μ X n) 163 (Int32.ofInt z) = if 0 ≤ mm_w z ∧ mm_w z < 2592 then some (.int (Int32.ofInt (μ 163 (mm_w z)))) else none := mm_ial (N := 2592) (by decide) (hq _ (by decide) (by decide)) (by decide)
theorem mm_s_163 (hq : mm_P w) : am_sat .iastore (mm_hp w μ X n) 163 (Int32.ofInt z) (.int (Int32.ofInt y)) = if 0 ≤ mm_w z ∧ mm_w z < 2592 then some (mm_hp w (mm_u μ 163 (mm_w z) y) X n) else none := mm_ias (N := 2592) (by decide) (hq _ (by decide) (by decide)) (by decide)
theorem mm_z_163 (hq : mm_P w) : am_sz (mm_hp w μ X n) 163 = some 2592 := mm_aln (by decide) (hq _ (by decide) (by decide)) (by decide)
theorem mm_l_164 (hq : mm_P w) : am_iat .iaload (mm_hp w μ X n) 164 (Int32.ofInt z) = if 0 ≤ mm_w z ∧ mm_w z < 20 then some (.int (Int32.ofInt (μ 164 (mm_w z)))) else none := mm_ial (N := 20) (by decide) (hq _ (by decide) (by decide)) (by decide)
theorem mm_s_164 (hq : mm_P w) : am_sat .iastore (mm_hp w μ X n) 164 (Int32.ofInt z) (.int (Int32.ofInt y)) = if 0 ≤ mm_w z ∧ mm_w z < 20 then some (mm_hp w (mm_u μ 164 (mm_w z) y) X n) else none := mm_ias (N := 20) (by decide) (hq _ (by decide) (by decide)) (by decide)
theorem mm_z_164 (hq : mm_P w) : am_sz (mm_hp w μ X n) 164 = some 20 := mm_aln (by decide) (hq _ (by decide) (by decide)) (by decide)
theorem mm_l_165 (hq : mm_P w) : am_iat .iaload (mm_hp w μ X n) 165 (Int32.ofInt z) = if 0 ≤ mm_w z ∧ mm_w z < 20 then some (.int (Int32.ofInt (μ 165 (mm_w z)))) else none := mm_ial (N := 20) (by decide) (hq _ (by decide) (by decide)) (by decide)
theorem mm_s_165 (hq : mm_P w) : am_sat .iastore (mm_hp w μ X n) 165 (Int32.ofInt z) (.int (Int32.ofInt y)) = if 0 ≤ mm_w z ∧ mm_w z < 20 then some (mm_hp w (mm_u μ 165 (mm_w z) y) X n) else none := mm_ias (N := 20) (by decide) (hq _ (by decide) (by decide)) (by decide)
theorem mm_z_165 (hq : mm_P w) : am_sz (mm_hp w μ X n) 165 = some 20 := mm_aln (by decide) (hq _ (by decide) (by decide)) (by decide)
theorem mm_l_166 (hq : mm_P w) : am_iat .iaload (mm_hp w μ X n) 166 (Int32.ofInt z) = if 0 ≤ mm_w z ∧ mm_w z < 20 then some (.int (Int32.ofInt (μ 166 (mm_w z)))) else none := mm_ial (N := 20) (by decide) (hq _ (by decide) (by decide)) (by decide)
theorem mm_s_166 (hq : mm_P w) : am_sat .iastore (mm_hp w μ X n) 166 (Int32.ofInt z) (.int (Int32.ofInt y)) = if 0 ≤ mm_w z ∧ mm_w z < 20 then some (mm_hp w (mm_u μ 166 (mm_w z) y) X n) else none := mm_ias (N := 20) (by decide) (hq _ (by decide) (by decide)) (by decide)
theorem mm_z_166 (hq : mm_P w) : am_sz (mm_hp w μ X n) 166 = some 20 := mm_aln (by decide) (hq _ (by decide) (by decide)) (by decide)
theorem mm_l_167 (hq : mm_P w) : am_iat .iaload (mm_hp w μ X n) 167 (Int32.ofInt z) = if 0 ≤ mm_w z ∧ mm_w z < 20 then some (.int (Int32.ofInt (μ 167 (mm_w z)))) else none := mm_ial (N := 20) (by decide) (hq _ (by decide) (by decide)) (by decide)
theorem mm_s_167 (hq : mm_P w) : am_sat .iastore (mm_hp w μ X n) 167 (Int32.ofInt z) (.int (Int32.ofInt y)) = if 0 ≤ mm_w z ∧ mm_w z < 20 then some (mm_hp w (mm_u μ 167 (mm_w z) y) X n) else none := mm_ias (N := 20) (by decide) (hq _ (by decide) (by decide)) (by decide)
theorem mm_z_167 (hq : mm_P w) : am_sz (mm_hp w μ X n) 167 = some 20 := mm_aln (by decide) (hq _ (by decide) (by decide)) (by decide)
theorem mm_l_168 (hq : mm_P w) : am_iat .iaload (mm_hp w μ X n) 168 (Int32.ofInt z) = if 0 ≤ mm_w z ∧ mm_w z < 20 then some (.int (Int32.ofInt (μ 168 (mm_w z)))) else none := mm_ial (N := 20) (by decide) (hq _ (by decide) (by decide)) (by decide)
theorem mm_s_168 (hq : mm_P w) : am_sat .iastore (mm_hp w μ X n) 168 (Int32.ofInt z) (.int (Int32.ofInt y)) = if 0 ≤ mm_w z ∧ mm_w z < 20 then some (mm_hp w (mm_u μ 168 (mm_w z) y) X n) else none := mm_ias (N := 20) (by decide) (hq _ (by decide) (by decide)) (by decide)
theorem mm_z_168 (hq : mm_P w) : am_sz (mm_hp w μ X n) 168 = some 20 := mm_aln (by decide) (hq _ (by decide) (by decide)) (by decide)
theorem mm_l_169 (hq : mm_P w) : am_iat .iaload (mm_hp w μ X n) 169 (Int32.ofInt z) = if 0 ≤ mm_w z ∧ mm_w z < 20 then some (.int (Int32.ofInt (μ 169 (mm_w z)))) else none := mm_ial (N := 20) (by decide) (hq _ (by decide) (by decide)) (by decide)
theorem mm_s_169 (hq : mm_P w) : am_sat .iastore (mm_hp w μ X n) 169 (Int32.ofInt z) (.int (Int32.ofInt y)) = if 0 ≤ mm_w z ∧ mm_w z < 20 then some (mm_hp w (mm_u μ 169 (mm_w z) y) X n) else none := mm_ias (N := 20) (by decide) (hq _ (by decide) (by decide)) (by decide)
theorem mm_z_169 (hq : mm_P w) : am_sz (mm_hp w μ X n) 169 = some 20 := mm_aln (by decide) (hq _ (by decide) (by decide)) (by decide)
theorem mm_l_170 (hq : mm_P w) : am_iat .laload (mm_hp w μ X n) 170 (Int32.ofInt z) = if 0 ≤ mm_w z ∧ mm_w z < 20 then some (.long (Int64.ofInt (μ 170 (mm_w z)))) else none := mm_lal (N := 20) (by decide) (hq _ (by decide) (by decide)) (by decide)
theorem mm_s_170 (hq : mm_P w) : am_sat .lastore (mm_hp w μ X n) 170 (Int32.ofInt z) (.long (Int64.ofInt y)) = if 0 ≤ mm_w z ∧ mm_w z < 20 then some (mm_hp w (mm_u μ 170 (mm_w z) y) X n) else none := mm_las (N := 20) (by decide) (hq _ (by decide) (by decide)) (by decide)
theorem mm_l_171 (hq : mm_P w) : am_iat .iaload (mm_hp w μ X n) 171 (Int32.ofInt z) = if 0 ≤ mm_w z ∧ mm_w z < 20 then some (.int (Int32.ofInt (μ 171 (mm_w z)))) else none := mm_ial (N := 20) (by decide) (hq _ (by decide) (by decide)) (by decide)
theorem mm_s_171 (hq : mm_P w) : am_sat .iastore (mm_hp w μ X n) 171 (Int32.ofInt z) (.int (Int32.ofInt y)) = if 0 ≤ mm_w z ∧ mm_w z < 20 then some (mm_hp w (mm_u μ 171 (mm_w z) y) X n) else none := mm_ias (N := 20) (by decide) (hq _ (by decide) (by decide)) (by decide)
theorem mm_z_171 (hq : mm_P w) : am_sz (mm_hp w μ X n) 171 = some 20 := mm_aln (by decide) (hq _ (by decide) (by decide)) (by decide)
theorem mm_l_172 (hq : mm_P w) : am_iat .iaload (mm_hp w μ X n) 172 (Int32.ofInt z) = if 0 ≤ mm_w z ∧ mm_w z < 20 then some (.int (Int32.ofInt (μ 172 (mm_w z)))) else none := mm_ial (N := 20) (by decide) (hq _ (by decide) (by decide)) (by decide)
theorem mm_s_172 (hq : mm_P w) : am_sat .iastore (mm_hp w μ X n) 172 (Int32.ofInt z) (.int (Int32.ofInt y)) = if 0 ≤ mm_w z ∧ mm_w z < 20 then some (mm_hp w (mm_u μ 172 (mm_w z) y) X n) else none := mm_ias (N := 20) (by decide) (hq _ (by decide) (by decide)) (by decide)
theorem mm_z_172 (hq : mm_P w) : am_sz (mm_hp w μ X n) 172 = some 20 := mm_aln (by decide) (hq _ (by decide) (by decide)) (by decide)
theorem mm_l_173 (hq : mm_P w) : am_iat .iaload (mm_hp w μ X n) 173 (Int32.ofInt z) = if 0 ≤ mm_w z ∧ mm_w z < 640 then some (.int (Int32.ofInt (μ 173 (mm_w z)))) else none := mm_ial (N := 640) (by decide) (hq _ (by decide) (by decide)) (by decide)
theorem mm_s_173 (hq : mm_P w) : am_sat .iastore (mm_hp w μ X n) 173 (Int32.ofInt z) (.int (Int32.ofInt y)) = if 0 ≤ mm_w z ∧ mm_w z < 640 then some (mm_hp w (mm_u μ 173 (mm_w z) y) X n) else none := mm_ias (N := 640) (by decide) (hq _ (by decide) (by decide)) (by decide)
theorem mm_z_173 (hq : mm_P w) : am_sz (mm_hp w μ X n) 173 = some 640 := mm_aln (by decide) (hq _ (by decide) (by decide)) (by decide)
theorem mm_l_174 (hq : mm_P w) : am_iat .laload (mm_hp w μ X n) 174 (Int32.ofInt z) = if 0 ≤ mm_w z ∧ mm_w z < 640 then some (.long (Int64.ofInt (μ 174 (mm_w z)))) else none := mm_lal (N := 640) (by decide) (hq _ (by decide) (by decide)) (by decide)
theorem mm_s_174 (hq : mm_P w) : am_sat .lastore (mm_hp w μ X n) 174 (Int32.ofInt z) (.long (Int64.ofInt y)) = if 0 ≤ mm_w z ∧ mm_w z < 640 then some (mm_hp w (mm_u μ 174 (mm_w z) y) X n) else none := mm_las (N := 640) (by decide) (hq _ (by decide) (by decide)) (by decide)
theorem mm_l_175 (hq : mm_P w) : am_iat .iaload (mm_hp w μ X n) 175 (Int32.ofInt z) = if 0 ≤ mm_w z ∧ mm_w z < 3 then some (.int (Int32.ofInt (μ 175 (mm_w z)))) else none := mm_ial (N := 3) (by decide) (hq _ (by decide) (by decide)) (by decide)
theorem mm_s_175 (hq : mm_P w) : am_sat .iastore (mm_hp w μ X n) 175 (Int32.ofInt z) (.int (Int32.ofInt y)) = if 0 ≤ mm_w z ∧ mm_w z < 3 then some (mm_hp w (mm_u μ 175 (mm_w z) y) X n) else none := mm_ias (N := 3) (by decide) (hq _ (by decide) (by decide)) (by decide)
theorem mm_z_175 (hq : mm_P w) : am_sz (mm_hp w μ X n) 175 = some 3 := mm_aln (by decide) (hq _ (by decide) (by decide)) (by decide)
theorem mm_l_176 (hq : mm_P w) : am_iat .iaload (mm_hp w μ X n) 176 (Int32.ofInt z) = if 0 ≤ mm_w z ∧ mm_w z < 216 then some (.int (Int32.ofInt (μ 176 (mm_w z)))) else none := mm_ial (N := 216) (by decide) (hq _ (by decide) (by decide)) (by decide)
theorem mm_s_176 (hq : mm_P w) : am_sat .iastore (mm_hp w μ X n) 176 (Int32.ofInt z) (.int (Int32.ofInt y)) = if 0 ≤ mm_w z ∧ mm_w z < 216 then some (mm_hp w (mm_u μ 176 (mm_w z) y) X n) else none := mm_ias (N := 216) (by decide) (hq _ (by decide) (by decide)) (by decide)
theorem mm_z_176 (hq : mm_P w) : am_sz (mm_hp w μ X n) 176 = some 216 := mm_aln (by decide) (hq _ (by decide) (by decide)) (by decide)
theorem mm_l_177 (hq : mm_P w) : am_iat .caload (mm_hp w μ X n) 177 (Int32.ofInt z) = if 0 ≤ mm_w z ∧ mm_w z < 16 then some (.int (Int32.ofInt (μ 177 (mm_w z)))) else none := mm_cal (N := 16) (by decide) (hq _ (by decide) (by decide)) (by decide)
theorem mm_s_177 (hq : mm_P w) : am_sat .castore (mm_hp w μ X n) 177 (Int32.ofInt z) (.int (Int32.ofInt y)) = if 0 ≤ mm_w z ∧ mm_w z < 16 then some (mm_hp w (mm_u μ 177 (mm_w z) (mm_c16 y)) X n) else none := mm_cas (N := 16) (by decide) (hq _ (by decide) (by decide)) (by decide)
theorem mm_l_178 (hq : mm_Q w) : am_iat .laload (mm_hp w μ X n) 178 (Int32.ofInt z) = if 0 ≤ mm_w z ∧ mm_w z < 1 then some (.long (Int64.ofInt (μ 178 (mm_w z)))) else none := mm_lal (N := 1) (by decide) (hq _ (by decide) (by decide)) (by decide)
theorem mm_s_178 (hq : mm_Q w) : am_sat .lastore (mm_hp w μ X n) 178 (Int32.ofInt z) (.long (Int64.ofInt y)) = if 0 ≤ mm_w z ∧ mm_w z < 1 then some (mm_hp w (mm_u μ 178 (mm_w z) y) X n) else none := mm_las (N := 1) (by decide) (hq _ (by decide) (by decide)) (by decide)
theorem mm_l_179 (hq : mm_Q w) : am_iat .daload (mm_hp w μ X n) 179 (Int32.ofInt z) = if 0 ≤ mm_w z ∧ mm_w z < 1 then some (.double (UInt64.ofNat (μ 179 (mm_w z)).toNat)) else none := mm_dal (N := 1) (by decide) (hq _ (by decide) (by decide)) (by decide)
theorem mm_s_179 (hq : mm_Q w) : am_sat .dastore (mm_hp w μ X n) 179 (Int32.ofInt z) (.double t) = if 0 ≤ mm_w z ∧ mm_w z < 1 then some (mm_hp w (mm_u μ 179 (mm_w z) (t.toNat : Int)) X n) else none := mm_das (N := 1) (by decide) (hq _ (by decide) (by decide)) (by decide)
theorem mm_oc_tr (hq : mm_T w z) : am_oc (mm_hp w μ X n) (mm_tr z) = some 10 := mm_oc (by have := mm_tr_b (z := z); omega) (hq 0 (by decide)) mm_tr_sh.1
theorem mm_g_tr_0 (hq : mm_T w z) : am_gf (mm_hp w μ X n) (mm_tr z) 10 0 = some (.ref (mm_tr z + 1)) := mm_gf (by have := mm_tr_b (z := z); omega) (hq 0 (by decide)) mm_tr_sh.1 (congrArg Value.ref mm_tr_sh.2.2.2.2.2.2.1)
theorem mm_g_tr_1 (hq : mm_T w z) : am_gf (mm_hp w μ X n) (mm_tr z) 10 1 = some (.ref (mm_tr z + 2)) := mm_gf (by have := mm_tr_b (z := z); omega) (hq 0 (by decide)) mm_tr_sh.1 (congrArg Value.ref mm_tr_sh.2.2.2.2.2.2.2.1)
theorem mm_g_tr_2 (hq : mm_T w z) : am_gf (mm_hp w μ X n) (mm_tr z) 10 2 = some (.ref (mm_tr z + 3)) := mm_gf (by have := mm_tr_b (z := z); omega) (hq 0 (by decide)) mm_tr_sh.1 (congrArg Value.ref mm_tr_sh.2.2.2.2.2.2.2.2.1)
theorem mm_g_tr_3 (hq : mm_T w z) : am_gf (mm_hp w μ X n) (mm_tr z) 10 3 = some (.ref (mm_tr z + 4)) := mm_gf (by have := mm_tr_b (z := z); omega) (hq 0 (by decide)) mm_tr_sh.1 (congrArg Value.ref mm_tr_sh.2.2.2.2.2.2.2.2.2.1)
theorem mm_g_tr_4 (hq : mm_T w z) : am_gf (mm_hp w μ X n) (mm_tr z) 10 4 = some (.ref (mm_tr z + 5)) := mm_gf (by have := mm_tr_b (z := z); omega) (hq 0 (by decide)) mm_tr_sh.1 (congrArg Value.ref mm_tr_sh.2.2.2.2.2.2.2.2.2.2)
theorem mm_g_tr_5 (hq : mm_T w z) : am_gf (mm_hp w μ X n) (mm_tr z) 10 5 = some (.int (Int32.ofInt (μ (mm_tr z) 5))) := mm_gf (by have := mm_tr_b (z := z); omega) (hq 0 (by decide)) mm_tr_sh.1 rfl
theorem mm_p_tr_5 (hq : mm_T w z) : am_pf (mm_hp w μ X n) (mm_tr z) 10 5 (.int (Int32.ofInt y)) = some (mm_hp w (mm_u μ (mm_tr z) 5 y) X n) := mm_pf (by have := mm_tr_b (z := z); omega) (hq 0 (by decide)) mm_tr_sh.1 (by unfold mm_ob; rw [show ((5 : Nat) : Int) = 5 from rfl, mm_us]; rfl)
theorem mm_g_tr_6 (hq : mm_T w z) : am_gf (mm_hp w μ X n) (mm_tr z) 10 6 = some (.int (Int32.ofInt (μ (mm_tr z) 6))) := mm_gf (by have := mm_tr_b (z := z); omega) (hq 0 (by decide)) mm_tr_sh.1 rfl
theorem mm_p_tr_6 (hq : mm_T w z) : am_pf (mm_hp w μ X n) (mm_tr z) 10 6 (.int (Int32.ofInt y)) = some (mm_hp w (mm_u μ (mm_tr z) 6 y) X n) := mm_pf (by have := mm_tr_b (z := z); omega) (hq 0 (by decide)) mm_tr_sh.1 (by unfold mm_ob; rw [show ((6 : Nat) : Int) = 6 from rfl, mm_us]; rfl)
theorem mm_l_tr1 {q : Int} (hq : mm_T w q) : am_iat .iaload (mm_hp w μ X n) (mm_tr q + 1) (Int32.ofInt z) = if 0 ≤ mm_w z ∧ mm_w z < 6 then some (.int (Int32.ofInt (μ (mm_tr q + 1) (mm_w z)))) else none := mm_ial (N := 6) (by have := mm_tr_b (z := q); omega) (hq 1 (by decide)) mm_tr_sh.2.1
theorem mm_s_tr1 {q : Int} (hq : mm_T w q) : am_sat .iastore (mm_hp w μ X n) (mm_tr q + 1) (Int32.ofInt z) (.int (Int32.ofInt y)) = if 0 ≤ mm_w z ∧ mm_w z < 6 then some (mm_hp w (mm_u μ (mm_tr q + 1) (mm_w z) y) X n) else none := mm_ias (N := 6) (by have := mm_tr_b (z := q); omega) (hq 1 (by decide)) mm_tr_sh.2.1
theorem mm_l_tr2 {q : Int} (hq : mm_T w q) : am_iat .iaload (mm_hp w μ X n) (mm_tr q + 2) (Int32.ofInt z) = if 0 ≤ mm_w z ∧ mm_w z < 6 then some (.int (Int32.ofInt (μ (mm_tr q + 2) (mm_w z)))) else none := mm_ial (N := 6) (by have := mm_tr_b (z := q); omega) (hq 2 (by decide)) mm_tr_sh.2.2.1
theorem mm_s_tr2 {q : Int} (hq : mm_T w q) : am_sat .iastore (mm_hp w μ X n) (mm_tr q + 2) (Int32.ofInt z) (.int (Int32.ofInt y)) = if 0 ≤ mm_w z ∧ mm_w z < 6 then some (mm_hp w (mm_u μ (mm_tr q + 2) (mm_w z) y) X n) else none := mm_ias (N := 6) (by have := mm_tr_b (z := q); omega) (hq 2 (by decide)) mm_tr_sh.2.2.1
theorem mm_l_tr3 {q : Int} (hq : mm_T w q) : am_iat .iaload (mm_hp w μ X n) (mm_tr q + 3) (Int32.ofInt z) = if 0 ≤ mm_w z ∧ mm_w z < 6 then some (.int (Int32.ofInt (μ (mm_tr q + 3) (mm_w z)))) else none := mm_ial (N := 6) (by have := mm_tr_b (z := q); omega) (hq 3 (by decide)) mm_tr_sh.2.2.2.1
theorem mm_s_tr3 {q : Int} (hq : mm_T w q) : am_sat .iastore (mm_hp w μ X n) (mm_tr q + 3) (Int32.ofInt z) (.int (Int32.ofInt y)) = if 0 ≤ mm_w z ∧ mm_w z < 6 then some (mm_hp w (mm_u μ (mm_tr q + 3) (mm_w z) y) X n) else none := mm_ias (N := 6) (by have := mm_tr_b (z := q); omega) (hq 3 (by decide)) mm_tr_sh.2.2.2.1
theorem mm_l_tr4 {q : Int} (hq : mm_T w q) : am_iat .iaload (mm_hp w μ X n) (mm_tr q + 4) (Int32.ofInt z) = if 0 ≤ mm_w z ∧ mm_w z < 6 then some (.int (Int32.ofInt (μ (mm_tr q + 4) (mm_w z)))) else none := mm_ial (N := 6) (by have := mm_tr_b (z := q); omega) (hq 4 (by decide)) mm_tr_sh.2.2.2.2.1
theorem mm_s_tr4 {q : Int} (hq : mm_T w q) : am_sat .iastore (mm_hp w μ X n) (mm_tr q + 4) (Int32.ofInt z) (.int (Int32.ofInt y)) = if 0 ≤ mm_w z ∧ mm_w z < 6 then some (mm_hp w (mm_u μ (mm_tr q + 4) (mm_w z) y) X n) else none := mm_ias (N := 6) (by have := mm_tr_b (z := q); omega) (hq 4 (by decide)) mm_tr_sh.2.2.2.2.1
theorem mm_l_tr5 {q : Int} (hq : mm_T w q) : am_iat .iaload (mm_hp w μ X n) (mm_tr q + 5) (Int32.ofInt z) = if 0 ≤ mm_w z ∧ mm_w z < 6 then some (.int (Int32.ofInt (μ (mm_tr q + 5) (mm_w z)))) else none := mm_ial (N := 6) (by have := mm_tr_b (z := q); omega) (hq 5 (by decide)) mm_tr_sh.2.2.2.2.2.1
theorem mm_s_tr5 {q : Int} (hq : mm_T w q) : am_sat .iastore (mm_hp w μ X n) (mm_tr q + 5) (Int32.ofInt z) (.int (Int32.ofInt y)) = if 0 ≤ mm_w z ∧ mm_w z < 6 then some (mm_hp w (mm_u μ (mm_tr q + 5) (mm_w z) y) X n) else none := mm_ias (N := 6) (by have := mm_tr_b (z := q); omega) (hq 5 (by decide)) mm_tr_sh.2.2.2.2.2.1
theorem mm_oc_rl (hq : mm_P w) : am_oc (mm_hp w μ X n) (mm_rl z) = some 6 := mm_oc (by have := mm_rl_b (z := z); omega) (hq _ (by have := mm_rl_b (z := z); omega) (by have := mm_rl_b (z := z); omega)) mm_rl_sh.1
theorem mm_g_rl_0 (hq : mm_P w) : am_gf (mm_hp w μ X n) (mm_rl z) 6 0 = some (.ref (mm_rl z + 1)) := mm_gf (by have := mm_rl_b (z := z); omega) (hq _ (by have := mm_rl_b (z := z); omega) (by have := mm_rl_b (z := z); omega)) mm_rl_sh.1 (congrArg Value.ref mm_rl_sh.2.2.2.2.2.1)
theorem mm_g_rl_1 (hq : mm_P w) : am_gf (mm_hp w μ X n) (mm_rl z) 6 1 = some (.ref (mm_rl z + 2)) := mm_gf (by have := mm_rl_b (z := z); omega) (hq _ (by have := mm_rl_b (z := z); omega) (by have := mm_rl_b (z := z); omega)) mm_rl_sh.1 (congrArg Value.ref mm_rl_sh.2.2.2.2.2.2.1)
theorem mm_g_rl_2 (hq : mm_P w) : am_gf (mm_hp w μ X n) (mm_rl z) 6 2 = some (.ref (mm_rl z + 3)) := mm_gf (by have := mm_rl_b (z := z); omega) (hq _ (by have := mm_rl_b (z := z); omega) (by have := mm_rl_b (z := z); omega)) mm_rl_sh.1 (congrArg Value.ref mm_rl_sh.2.2.2.2.2.2.2.1)
theorem mm_g_rl_3 (hq : mm_P w) : am_gf (mm_hp w μ X n) (mm_rl z) 6 3 = some (.ref (mm_rl z + 4)) := mm_gf (by have := mm_rl_b (z := z); omega) (hq _ (by have := mm_rl_b (z := z); omega) (by have := mm_rl_b (z := z); omega)) mm_rl_sh.1 (congrArg Value.ref mm_rl_sh.2.2.2.2.2.2.2.2)
theorem mm_g_rl_4 (hq : mm_P w) : am_gf (mm_hp w μ X n) (mm_rl z) 6 4 = some (.int (Int32.ofInt (μ (mm_rl z) 4))) := mm_gf (by have := mm_rl_b (z := z); omega) (hq _ (by have := mm_rl_b (z := z); omega) (by have := mm_rl_b (z := z); omega)) mm_rl_sh.1 rfl
theorem mm_p_rl_4 (hq : mm_P w) : am_pf (mm_hp w μ X n) (mm_rl z) 6 4 (.int (Int32.ofInt y)) = some (mm_hp w (mm_u μ (mm_rl z) 4 y) X n) := mm_pf (by have := mm_rl_b (z := z); omega) (hq _ (by have := mm_rl_b (z := z); omega) (by have := mm_rl_b (z := z); omega)) mm_rl_sh.1 (by unfold mm_ob; rw [show ((4 : Nat) : Int) = 4 from rfl, mm_us]; rfl)
theorem mm_l_rl1 {q : Int} (hq : mm_P w) : am_iat .iaload (mm_hp w μ X n) (mm_rl q + 1) (Int32.ofInt z) = if 0 ≤ mm_w z ∧ mm_w z < 3 then some (.int (Int32.ofInt (μ (mm_rl q + 1) (mm_w z)))) else none := mm_ial (N := 3) (by have := mm_rl_b (z := q); omega) (hq _ (by have := mm_rl_b (z := q); omega) (by have := mm_rl_b (z := q); omega)) mm_rl_sh.2.1
theorem mm_l_rl2 {q : Int} (hq : mm_P w) : am_iat .iaload (mm_hp w μ X n) (mm_rl q + 2) (Int32.ofInt z) = if 0 ≤ mm_w z ∧ mm_w z < 3 then some (.int (Int32.ofInt (μ (mm_rl q + 2) (mm_w z)))) else none := mm_ial (N := 3) (by have := mm_rl_b (z := q); omega) (hq _ (by have := mm_rl_b (z := q); omega) (by have := mm_rl_b (z := q); omega)) mm_rl_sh.2.2.1
theorem mm_l_rl3 {q : Int} (hq : mm_P w) : am_iat .iaload (mm_hp w μ X n) (mm_rl q + 3) (Int32.ofInt z) = if 0 ≤ mm_w z ∧ mm_w z < 24 then some (.int (Int32.ofInt (μ (mm_rl q + 3) (mm_w z)))) else none := mm_ial (N := 24) (by have := mm_rl_b (z := q); omega) (hq _ (by have := mm_rl_b (z := q); omega) (by have := mm_rl_b (z := q); omega)) mm_rl_sh.2.2.2.1
theorem mm_l_rl4 {q : Int} (hq : mm_P w) : am_iat .iaload (mm_hp w μ X n) (mm_rl q + 4) (Int32.ofInt z) = if 0 ≤ mm_w z ∧ mm_w z < 24 then some (.int (Int32.ofInt (μ (mm_rl q + 4) (mm_w z)))) else none := mm_ial (N := 24) (by have := mm_rl_b (z := q); omega) (hq _ (by have := mm_rl_b (z := q); omega) (by have := mm_rl_b (z := q); omega)) mm_rl_sh.2.2.2.2.1
theorem mm_l_in {q : Int} (hq : mm_P w) : am_iat .iaload (mm_hp w μ X n) (mm_inr q) (Int32.ofInt z) = if 0 ≤ mm_w z ∧ mm_w z < 216 then some (.int (Int32.ofInt (μ (mm_inr q) (mm_w z)))) else none := mm_ial (N := 216) (by have := mm_inr_b (z := q); omega) (hq _ (by have := mm_inr_b (z := q); omega) (by have := mm_inr_b (z := q); omega)) mm_inr_sh
theorem mm_s_in {q : Int} (hq : mm_P w) : am_sat .iastore (mm_hp w μ X n) (mm_inr q) (Int32.ofInt z) (.int (Int32.ofInt y)) = if 0 ≤ mm_w z ∧ mm_w z < 216 then some (mm_hp w (mm_u μ (mm_inr q) (mm_w z) y) X n) else none := mm_ias (N := 216) (by have := mm_inr_b (z := q); omega) (hq _ (by have := mm_inr_b (z := q); omega) (by have := mm_inr_b (z := q); omega)) mm_inr_sh
theorem mm_z_in {q : Int} (hq : mm_P w) : am_sz (mm_hp w μ X n) (mm_inr q) = some 216 := mm_aln (by have := mm_inr_b (z := q); omega) (hq _ (by have := mm_inr_b (z := q); omega) (by have := mm_inr_b (z := q); omega)) mm_inr_sh
theorem mm_l_ro {q : Int} (hq : mm_P w) : am_iat .iaload (mm_hp w μ X n) (mm_row q) (Int32.ofInt z) = if 0 ≤ mm_w z ∧ mm_w z < 216 then some (.int (Int32.ofInt (μ (mm_row q) (mm_w z)))) else none := mm_ial (N := 216) (by have := mm_row_b (z := q); omega) (hq _ (by have := mm_row_b (z := q); omega) (by have := mm_row_b (z := q); omega)) mm_row_sh
theorem mm_s_ro {q : Int} (hq : mm_P w) : am_sat .iastore (mm_hp w μ X n) (mm_row q) (Int32.ofInt z) (.int (Int32.ofInt y)) = if 0 ≤ mm_w z ∧ mm_w z < 216 then some (mm_hp w (mm_u μ (mm_row q) (mm_w z) y) X n) else none := mm_ias (N := 216) (by have := mm_row_b (z := q); omega) (hq _ (by have := mm_row_b (z := q); omega) (by have := mm_row_b (z := q); omega)) mm_row_sh
theorem mm_z_ro {q : Int} (hq : mm_P w) : am_sz (mm_hp w μ X n) (mm_row q) = some 216 := mm_aln (by have := mm_row_b (z := q); omega) (hq _ (by have := mm_row_b (z := q); omega) (by have := mm_row_b (z := q); omega)) mm_row_sh
end MMI
