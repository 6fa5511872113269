/-! The constructors, cell by cell. Written by program (wip/gen/genctor.py). -/
section QG
variable {d P pc : Nat} {Lc : am_Lo} {st : List Value} {g : am_G} {w : mm_Z} {μ : mm_M} {X : mm_X} {n : mm_N} {a i j : Nat}
theorem qnew {c : Nat} {T : Nat} {g' : am_G} (h : am_nw P i = some c) (h1 : 1 ≤ g.2.2.1) (h2 : am_nf c ≤ g.2.2.2) (hT : pc + 3 = T) (hg : am_psh g (.inr (c, fun k => defaultValue (am_ft c k).1)) (am_nf c) = g') (ha : g.2.1 = a) : am_S P (.new i) pc Lc st g = am_go T Lc (.ref a :: st) g' := by
  rw [am_new h h1 h2, hg, hT, ha]
theorem qnwa {t : ArrayType} {c : am_A} {N : Int} {T m : Nat} {g' : am_G} (hN : (Int32.ofInt N).toNatClampNeg = m) (hN0 : ¬ Int32.ofInt N < 0) (hm : m ≤ 10000) (h : am_arr t m = some c) (h1 : 1 ≤ g.2.2.1) (h2 : m ≤ g.2.2.2) (hT : pc + 2 = T) (hg : am_psh g c m = g') (ha : g.2.1 = a) : am_S P (.newarray t) pc Lc (.int (Int32.ofInt N) :: st) g = am_go T Lc (.ref a :: st) g' := by
  unfold am_S
  dsimp only
  rw [hN, h, Option.bind_some, if_pos ⟨hN0, hm, h1, h2⟩, hg, hT, ha]
theorem qana {C : String} {N : Int} {T m : Nat} {g' : am_G} (hN : (Int32.ofInt N).toNatClampNeg = m) (hN0 : ¬ Int32.ofInt N < 0) (hm : m ≤ 10000) (h : am_an P i = some C) (h1 : 1 ≤ g.2.2.1) (h2 : m ≤ g.2.2.2) (hT : pc + 3 = T) (hg : am_psh g (.inl (.object C, m, .inr (.inr (.inr (.inr fun _ => none))))) m = g') (ha : g.2.1 = a) : am_S P (.anewarray i) pc Lc (.int (Int32.ofInt N) :: st) g = am_go T Lc (.ref a :: st) g' := by
  unfold am_S
  dsimp only
  rw [hN, h, Option.bind_some, if_pos ⟨hN0, hm, h1, h2⟩, hg, hT, ha]
theorem qmul {N K : Int} {T m k : Nat} {g' : am_G} (hN : (Int32.ofInt N).toNatClampNeg = m) (hK : (Int32.ofInt K).toNatClampNeg = k) (hmu : am_mu P i = true) (hN0 : ¬ Int32.ofInt N < 0) (hK0 : ¬ Int32.ofInt K < 0) (hm : m ≤ 10000) (hk : k ≤ 10000) (h1 : 1 + m ≤ g.2.2.1) (h2 : m + m * k ≤ g.2.2.2) (hT : pc + 4 = T) (hg : am_mul g m k = g') (ha : g.2.1 = a) : am_S P (.multianewarray i 2) pc Lc (.int (Int32.ofInt K) :: .int (Int32.ofInt N) :: st) g = am_go T Lc (.ref a :: st) g' := by
  unfold am_S
  dsimp only
  rw [hN, hK, if_pos (by simp [hmu, hN0, hK0, hm, hk, h1, h2]), hg, hT, ha]
theorem qX {b : Nat} {q : am_A} (h32 : 32 ≤ b) (hp : w.2.2.2 b = false) (hX : X b = some q) : (mm_hp w μ X n).1 b = some q := by
  show (if b < 32 then _ else if w.2.2.2 b = true then _ else X b) = _
  rw [if_neg (by omega), if_neg (by rw [hp]; decide), hX]
theorem qpsh {A : am_A} {X' : mm_X} {n' : mm_N} (h32 : 32 ≤ n.1) (hp : w.2.2.2 n.1 = false) (hX : X' = fun b => if b = n.1 then some A else X b) (hn : n' = (n.1 + 1, n.2.1 - 1, n.2.2 - j)) : am_psh (mm_hp w μ X n) A j = mm_hp w μ X' n' := by
  rw [sb_psh h32 hp, hX, hn]
theorem qpf {c : Nat} {V : Nat → Value} {y : Value} {X' : mm_X} (h32 : 32 ≤ a) (hp : w.2.2.2 a = false) (hX : X a = some (.inr (c, V))) (hX' : X' = fun b => if b = a then some (.inr (c, updV V j y)) else X b) : am_pf (mm_hp w μ X n) a c j y = some (mm_hp w μ X' n) := by
  rw [am_pf_at (qX h32 hp hX) h32, hX']
  exact congrArg some (sb_set h32 hp (if_pos rfl) fun b hb => if_neg hb)
theorem qgf {c : Nat} {V : Nat → Value} (h32 : 32 ≤ a) (hp : w.2.2.2 a = false) (hX : X a = some (.inr (c, V))) : am_gf (mm_hp w μ X n) a c j = some (V j) := am_gf_at (qX h32 hp hX)
theorem qoc {c : Nat} {V : Nat → Value} (h32 : 32 ≤ a) (hp : w.2.2.2 a = false) (hX : X a = some (.inr (c, V))) : am_oc (mm_hp w μ X n) a = some c := by
  unfold am_oc
  rw [qX h32 hp hX]
theorem qaas {ty : FieldType} {N b c : Nat} {f f' : Nat → Option Nat} {x : Int} {X' : mm_X} (h32 : 32 ≤ a) (hp : w.2.2.2 a = false) (hX : X a = some (.inl (ty, N, .inr (.inr (.inr (.inr f)))))) (hr : ty.isReference = true) (ho : am_oc (mm_hp w μ X n) b = some c) (hc : ¬ (am_out (Int32.ofInt x) N ∨ ¬ ty = .object (am_n (am_co c)) ∨ 13 ≤ c)) (hf : f' = va_up f (Int32.ofInt x).toNatClampNeg (some b)) (hX' : X' = fun b => if b = a then some (.inl (ty, N, .inr (.inr (.inr (.inr f'))))) else X b) : am_sat .aastore (mm_hp w μ X n) a (Int32.ofInt x) (.ref b) = some (mm_hp w μ X' n) := by
  have e : am_ar (mm_hp w μ X n) a = some (ty, N, f) := by
    unfold am_ar
    rw [qX h32 hp hX]
    exact if_pos hr
  unfold am_sat
  rw [if_neg (by omega)]
  dsimp only
  rw [e, Option.bind_some, ho, Option.bind_some, if_neg hc, hX', ← hf]
  exact congrArg some (sb_set h32 hp (if_pos rfl) fun b hb => if_neg hb)
theorem qaal {ty : FieldType} {N b : Nat} {f : Nat → Option Nat} {x : Int} (h32 : 32 ≤ a) (hp : w.2.2.2 a = false) (hX : X a = some (.inl (ty, N, .inr (.inr (.inr (.inr f)))))) (hr : ty.isReference = true) (hx : am_out (Int32.ofInt x) N = false) (hb : f (Int32.ofInt x).toNatClampNeg = some b) : am_iat .aaload (mm_hp w μ X n) a (Int32.ofInt x) = some (.ref b) := by
  have e : am_ar (mm_hp w μ X n) a = some (ty, N, f) := by
    unfold am_ar
    rw [qX h32 hp hX]
    exact if_pos hr
  unfold am_iat
  dsimp only
  rw [e, Option.bind_some]
  dsimp only
  rw [hx, hb]
  rfl
theorem qmulh {m k : Nat} {X' : mm_X} {n' : mm_N} (h32 : 32 ≤ n.1) (hp : ∀ b, n.1 ≤ b → b < n.1 + 1 + m → w.2.2.2 b = false) (hX : X' = fun b => if b = n.1 then some (.inl (.array .int, m, .inr (.inr (.inr (.inr fun j => if j < m then some (n.1 + 1 + j) else none))))) else if n.1 < b ∧ b < n.1 + 1 + m then some (.inl (.int, k, .inl fun _ => 0)) else X b) (hn : n' = (n.1 + 1 + m, n.2.1 - (1 + m), n.2.2 - (m + m * k))) : am_mul (mm_hp w μ X n) m k = mm_hp w μ X' n' := by
  rw [hX, hn]
  refine Prod.ext (funext fun b => ?_) rfl
  show (if b = n.1 then _ else if n.1 < b ∧ b < n.1 + 1 + m then _ else (if b < 32 then _ else if w.2.2.2 b = true then mm_c μ b else X b)) = (if b < 32 then _ else if w.2.2.2 b = true then mm_c μ b else (if b = n.1 then _ else if n.1 < b ∧ b < n.1 + 1 + m then _ else X b))
  by_cases q : n.1 ≤ b ∧ b < n.1 + 1 + m
  · rw [if_neg (show ¬ b < 32 by omega), if_neg (show ¬ b < 32 by omega), if_neg (show ¬ w.2.2.2 b = true by rw [hp b q.1 q.2]; decide), if_neg (show ¬ w.2.2.2 b = true by rw [hp b q.1 q.2]; decide)]
    rfl
  · rw [if_neg (show ¬ b = n.1 by omega), if_neg (show ¬ (n.1 < b ∧ b < n.1 + 1 + m) by omega), if_neg (show ¬ b = n.1 by omega), if_neg (show ¬ (n.1 < b ∧ b < n.1 + 1 + m) by omega)]
theorem qflip {L : Nat} {xs : Nat → Int32} {z : Value} {p p' : Nat → Bool} (h : ∀ b, 32 ≤ b → p' b ≠ p b → p b = false ∧ p' b = true ∧ X b = mm_c μ b) : mm_hp (L, xs, z, p) μ X n = mm_hp (L, xs, z, p') μ X n := by
  refine Prod.ext (funext fun b => ?_) rfl
  show (if b < 32 then _ else if p b = true then mm_c μ b else X b) = (if b < 32 then _ else if p' b = true then mm_c μ b else X b)
  by_cases q : b < 32
  · rw [if_pos q, if_pos q]
  · rw [if_neg q, if_neg q]
    by_cases e : p' b = p b
    · rw [e]
    · obtain ⟨h1, h2, h3⟩ := h b (by omega) e
      rw [if_neg (by rw [h1]; decide), if_pos h2, h3]
theorem qflipl {L : Nat} {xs : Nat → Int32} {z : Value} {p p' : Nat → Bool} (l : List Nat) (hp : p' = fun b => p b || l.contains b) (h : ∀ b ∈ l, p b = false → X b = mm_c μ b) : mm_hp (L, xs, z, p) μ X n = mm_hp (L, xs, z, p') μ X n := by
  refine qflip fun b _ hb => ?_
  rw [hp] at hb ⊢
  by_cases e : p b = true
  · exact absurd (by show (p b || l.contains b) = p b; rw [e]; rfl) hb
  · have e : p b = false := by simpa using e
    by_cases c : l.contains b = true
    · exact ⟨e, by show (p b || l.contains b) = true; rw [c]; simp, h b (List.contains_iff_mem.mp c) e⟩
    · exact absurd (by show (p b || l.contains b) = p b; rw [e]; simpa using c) hb
end QG
/-- what stands in cells that are not yet the memory's -/
def qI : mm_M := fun b j => if b = 54 then j else if b = 95 ∧ j = 1 then 1 else if b = 122 ∧ j = 8 then 300 else if b = 129 ∧ j = 8 then 1 else if b = 129 ∧ j = 65 then 300 else 0
def qM0 : mm_M := qI
def qP0 : Nat → Bool := fun _ => false
def qX0 : mm_X := fun _ => none
def qH0 (L : Nat) (xs : Nat → Int32) (z : Value) : am_G := mm_hp (L, xs, z, qP0) qM0 qX0 (32, 601024, 7293034)
section QS
variable {L : Nat} {xs : Nat → Int32} {z : Value} {Lc : am_Lo} {st : List Value}

theorem qE0 {b : Nat} (h : True) : qM0 b = qI b := rfl
theorem qPo0 {b : Nat} (h : 0 ≤ b) : qP0 b = false := rfl
theorem qldc {g : am_G} : am_S 77 (.ldc 22) 27 Lc st g = am_go 29 Lc (.int (Int32.ofInt (-2147483648)) :: st) g := by
  unfold am_S
  dsimp only
  rw [show am_ci 77 22 = some (Int32.ofInt (-2147483648)) from by decide +kernel]
theorem q_tp : ∀ j : Int, 0 ≤ j → j < 6 → -2 ≤ (if 0 ≤ j ∧ j < 6 then (-2 : Int) else 0) ∧ (if 0 ≤ j ∧ j < 6 then (-2 : Int) else 0) ≤ 5 := fun j h0 h1 => by
  rw [if_pos ⟨h0, h1⟩]
  decide
theorem mm_us3 {M : mm_M} {a : Nat} {k v : Int} : mm_u M a k v a = fun j => if j = k then v else M a j := by
  funext j
  unfold mm_u
  by_cases e : j = k
  · rw [if_pos ⟨rfl, e⟩, if_pos e]
  · rw [if_neg (fun q => e q.2), if_neg e]
theorem q_wf : fo_wf (fun j => if j = sp_fr (fun j => if 0 ≤ j ∧ j < 6 then -2 else 0) then (-1 : Int) else if 0 ≤ j ∧ j < 6 then -2 else 0) := by
  intro m h0 h1
  rcases (by omega : m = 0 ∨ m = 1 ∨ m = 2 ∨ m = 3 ∨ m = 4 ∨ m = 5) with rfl | rfl | rfl | rfl | rfl | rfl <;> decide
theorem q_fio {M : mm_M} {a b : Nat} {N v : Int} (h : b ≠ a) : mm_fi M a N v b = M b := by
  funext j
  exact if_neg fun q => h q.1
/-- a tree's first member -/
theorem q_gr {M : mm_M} {zt : Int} (hz : 0 ≤ zt ∧ zt < 3) (hr : M (mm_tr zt + 1) = fun j => if 0 ≤ j ∧ j < 6 then -2 else 0) :
    (∀ b, (b < mm_tr zt ∨ mm_tr zt + 5 < b) → tr_arr zt (mm_u (mm_u (mm_u M (mm_tr zt + 1) (sp_fr (M (mm_tr zt + 1))) (-1)) (mm_tr zt + 2) (sp_fr (M (mm_tr zt + 1))) 1) (mm_tr zt) 6 (M (mm_tr zt) 6 + 1)) b = M b) ∧
    (tr_ok (tr_arr zt (mm_u (mm_u (mm_u M (mm_tr zt + 1) (sp_fr (M (mm_tr zt + 1))) (-1)) (mm_tr zt + 2) (sp_fr (M (mm_tr zt + 1))) 1) (mm_tr zt) 6 (M (mm_tr zt) 6 + 1))) zt) ∧
    (tr_arr zt (mm_u (mm_u (mm_u M (mm_tr zt + 1) (sp_fr (M (mm_tr zt + 1))) (-1)) (mm_tr zt + 2) (sp_fr (M (mm_tr zt + 1))) 1) (mm_tr zt) 6 (M (mm_tr zt) 6 + 1)) (mm_tr zt + 1) = fun j => if j = 0 then -1 else if 0 ≤ j ∧ j < 6 then -2 else 0) ∧
    (tr_arr zt (mm_u (mm_u (mm_u M (mm_tr zt + 1) (sp_fr (M (mm_tr zt + 1))) (-1)) (mm_tr zt + 2) (sp_fr (M (mm_tr zt + 1))) 1) (mm_tr zt) 6 (M (mm_tr zt) 6 + 1)) (mm_tr zt + 2) = fun j => if j = 0 then 1 else M (mm_tr zt + 2) j) ∧
    (tr_arr zt (mm_u (mm_u (mm_u M (mm_tr zt + 1) (sp_fr (M (mm_tr zt + 1))) (-1)) (mm_tr zt + 2) (sp_fr (M (mm_tr zt + 1))) 1) (mm_tr zt) 6 (M (mm_tr zt) 6 + 1)) (mm_tr zt) 6 = M (mm_tr zt) 6 + 1) ∧
    ((∀ j, 0 ≤ j → j < 6 → M (mm_tr zt + 2) j = 0 ∧ M (mm_tr zt + 3) j = 0 ∧ M (mm_tr zt + 5) j = 0) → M (mm_tr zt) 6 = 0 → mm_tw (tr_arr zt (mm_u (mm_u (mm_u M (mm_tr zt + 1) (sp_fr (M (mm_tr zt + 1))) (-1)) (mm_tr zt + 2) (sp_fr (M (mm_tr zt + 1))) 1) (mm_tr zt) 6 (M (mm_tr zt) 6 + 1))) zt) := by
  have h0 : sp_fr (M (mm_tr zt + 1)) = 0 := by rw [hr]; decide
  rw [h0]
  generalize hN : mm_u (mm_u (mm_u M (mm_tr zt + 1) 0 (-1)) (mm_tr zt + 2) 0 1) (mm_tr zt) 6 (M (mm_tr zt) 6 + 1) = N
  have N0 : ∀ b, b ≠ mm_tr zt → b ≠ mm_tr zt + 1 → b ≠ mm_tr zt + 2 → N b = M b := fun b b0 b1 b2 => by rw [← hN, mm_uu b0, mm_uu b2, mm_uu b1]
  have N1 : N (mm_tr zt + 1) = fun j => if j = 0 then -1 else if 0 ≤ j ∧ j < 6 then -2 else 0 := by
    rw [← hN, mm_uu (by omega), mm_uu (by omega), mm_us3, hr]
  have N2 : N (mm_tr zt + 2) = fun j => if j = 0 then 1 else M (mm_tr zt + 2) j := by
    rw [← hN, mm_uu (by omega), mm_us3, mm_uu (by omega)]
  have N6 : N (mm_tr zt) 6 = M (mm_tr zt) 6 + 1 := by rw [← hN, mm_us]
  have hw : fo_wf (N (mm_tr zt + 1)) := by
    rw [N1]
    exact q_wf
  refine ⟨fun b hb => ?_, tr_arr_ok hw, ?_, ?_, ?_, fun hz h6 => tr_arr_tw hw ?_ ?_ ?_ ?_⟩
  · rw [tr_arr_row hw (by omega) (by omega) (by omega) (by omega), N0 b (by omega) (by omega) (by omega)]
  · rw [tr_arr_row hw (by omega) (by omega) (by omega) (by omega), N1]
  · rw [tr_arr_row hw (by omega) (by omega) (by omega) (by omega), N2]
  · rw [tr_arr_fld hw (by decide), N6]
  · intro j j0 j1
    rw [N2]
    show 0 ≤ (if j = 0 then (1 : Int) else M (mm_tr zt + 2) j) ∧ (if j = 0 then (1 : Int) else M (mm_tr zt + 2) j) ≤ 4
    rw [(hz j j0 j1).1]
    show 0 ≤ (if j = 0 then (1 : Int) else 0) ∧ (if j = 0 then (1 : Int) else 0) ≤ 4
    split <;> decide
  · intro j j0 j1
    rw [N0 _ (by omega) (by omega) (by omega), (hz j j0 j1).2.1]
    decide
  · intro j j0 j1
    rw [N0 _ (by omega) (by omega) (by omega), (hz j j0 j1).2.2]
    decide
  · rw [N6, h6]
    decide

def qV1 : Nat → Value := fun k => defaultValue (am_ft 0 k).1
def qX1 : mm_X := fun b => if b = 32 then some (.inr (0, qV1)) else qX0 b
def qH1 (L : Nat) (xs : Nat → Int32) (z : Value) : am_G := mm_hp (L, xs, z, qP0) qM0 qX1 (33, 601023, 7293024)
theorem qS1 : am_psh (qH0 L xs z) (.inr (0, qV1)) 10 = (qH1 L xs z) := qpsh (w := (L, xs, z, qP0)) (μ := qM0) (X := qX0) (n := (32, 601024, 7293034)) (by decide) rfl rfl rfl
theorem qJ1 : am_S 0 (.new 8) 0 Lc st (qH0 L xs z) = am_go 3 Lc (.ref 32 :: st) (qH1 L xs z) := qnew w_0_8 (show 1 ≤ 601024 by decide) (show am_nf 0 ≤ 7293034 by decide) rfl qS1 rfl
def qV2 : Nat → Value := fun k => defaultValue (am_ft 8 k).1
def qX2 : mm_X := fun b => if b = 33 then some (.inr (8, qV2)) else qX1 b
def qH2 (L : Nat) (xs : Nat → Int32) (z : Value) : am_G := mm_hp (L, xs, z, qP0) qM0 qX2 (34, 601022, 7293023)
theorem qS2 : am_psh (qH1 L xs z) (.inr (8, qV2)) 1 = (qH2 L xs z) := qpsh (w := (L, xs, z, qP0)) (μ := qM0) (X := qX1) (n := (33, 601023, 7293024)) (by decide) rfl rfl rfl
theorem qJ2 : am_S 23 (.new 7) 4 Lc st (qH1 L xs z) = am_go 7 Lc (.ref 33 :: st) (qH2 L xs z) := qnew w_23_7 (show 1 ≤ 601023 by decide) (show am_nf 8 ≤ 7293024 by decide) rfl qS2 rfl
def qF1 : Nat → Option Nat := fun _ => none
def qX3 : mm_X := fun b => if b = 34 then some (.inl (.object "ModelSheet$Tree", 3, .inr (.inr (.inr (.inr qF1))))) else qX2 b
def qH3 (L : Nat) (xs : Nat → Int32) (z : Value) : am_G := mm_hp (L, xs, z, qP0) qM0 qX3 (35, 601021, 7293020)
theorem qS3 : am_psh (qH2 L xs z) (.inl (.object "ModelSheet$Tree", 3, .inr (.inr (.inr (.inr qF1))))) 3 = (qH3 L xs z) := qpsh (w := (L, xs, z, qP0)) (μ := qM0) (X := qX2) (n := (34, 601022, 7293023)) (by decide) rfl rfl rfl
theorem qJ3 : am_S 124 (.anewarray 9) 6 Lc (.int (Int32.ofInt 3) :: st) (qH2 L xs z) = am_go 9 Lc (.ref 34 :: st) (qH3 L xs z) := qana (by decide) (by decide) (by decide) (by decide +kernel) (show 1 ≤ 601022 by decide) (show 3 ≤ 7293023 by decide) rfl qS3 rfl
def qV3 : Nat → Value := updV qV2 0 (.ref 34)
def qX4 : mm_X := fun b => if b = 33 then some (.inr (8, qV3)) else qX3 b
def qH4 (L : Nat) (xs : Nat → Int32) (z : Value) : am_G := mm_hp (L, xs, z, qP0) qM0 qX4 (35, 601021, 7293020)
theorem qJ4 : am_pf (qH3 L xs z) 33 8 0 (.ref 34) = some (qH4 L xs z) := qpf (w := (L, xs, z, qP0)) (μ := qM0) (X := qX3) (n := (35, 601021, 7293020)) (V := qV2) (by decide) rfl rfl rfl
theorem qG1 : am_gf (qH4 L xs z) 33 8 0 = some (.ref 34) := (qgf (w := (L, xs, z, qP0)) (μ := qM0) (X := qX4) (n := (35, 601021, 7293020)) (V := qV3) (by decide) rfl rfl).trans rfl
def qV4 : Nat → Value := fun k => defaultValue (am_ft 10 k).1
def qX5 : mm_X := fun b => if b = 35 then some (.inr (10, qV4)) else qX4 b
def qH5 (L : Nat) (xs : Nat → Int32) (z : Value) : am_G := mm_hp (L, xs, z, qP0) qM0 qX5 (36, 601020, 7293013)
theorem qS5 : am_psh (qH4 L xs z) (.inr (10, qV4)) 7 = (qH5 L xs z) := qpsh (w := (L, xs, z, qP0)) (μ := qM0) (X := qX4) (n := (35, 601021, 7293020)) (by decide) rfl rfl rfl
theorem qJ5 : am_S 124 (.new 9) 24 Lc st (qH4 L xs z) = am_go 27 Lc (.ref 35 :: st) (qH5 L xs z) := qnew w_124_9 (show 1 ≤ 601021 by decide) (show am_nf 10 ≤ 7293020 by decide) rfl qS5 rfl
def qX6 : mm_X := fun b => if b = 36 then some (.inl (.int, 6, .inl fun _ => 0)) else qX5 b
def qH6 (L : Nat) (xs : Nat → Int32) (z : Value) : am_G := mm_hp (L, xs, z, qP0) qM0 qX6 (37, 601019, 7293007)
theorem qS6 : am_psh (qH5 L xs z) (.inl (.int, 6, .inl fun _ => 0)) 6 = (qH6 L xs z) := qpsh (w := (L, xs, z, qP0)) (μ := qM0) (X := qX5) (n := (36, 601020, 7293013)) (by decide) rfl rfl rfl
theorem qJ6 : am_S 142 (.newarray .int) 7 Lc (.int (Int32.ofInt 6) :: st) (qH5 L xs z) = am_go 9 Lc (.ref 36 :: st) (qH6 L xs z) := qnwa (by decide) (by decide) (by decide) rfl (show 1 ≤ 601020 by decide) (show 6 ≤ 7293013 by decide) rfl qS6 rfl
def qV5 : Nat → Value := updV qV4 0 (.ref 36)
def qX7 : mm_X := fun b => if b = 35 then some (.inr (10, qV5)) else qX6 b
def qH7 (L : Nat) (xs : Nat → Int32) (z : Value) : am_G := mm_hp (L, xs, z, qP0) qM0 qX7 (37, 601019, 7293007)
theorem qJ7 : am_pf (qH6 L xs z) 35 10 0 (.ref 36) = some (qH7 L xs z) := qpf (w := (L, xs, z, qP0)) (μ := qM0) (X := qX6) (n := (37, 601019, 7293007)) (V := qV4) (by decide) rfl rfl rfl
def qX8 : mm_X := fun b => if b = 37 then some (.inl (.int, 6, .inl fun _ => 0)) else qX7 b
def qH8 (L : Nat) (xs : Nat → Int32) (z : Value) : am_G := mm_hp (L, xs, z, qP0) qM0 qX8 (38, 601018, 7293001)
theorem qS8 : am_psh (qH7 L xs z) (.inl (.int, 6, .inl fun _ => 0)) 6 = (qH8 L xs z) := qpsh (w := (L, xs, z, qP0)) (μ := qM0) (X := qX7) (n := (37, 601019, 7293007)) (by decide) rfl rfl rfl
theorem qJ8 : am_S 142 (.newarray .int) 15 Lc (.int (Int32.ofInt 6) :: st) (qH7 L xs z) = am_go 17 Lc (.ref 37 :: st) (qH8 L xs z) := qnwa (by decide) (by decide) (by decide) rfl (show 1 ≤ 601019 by decide) (show 6 ≤ 7293007 by decide) rfl qS8 rfl
def qV6 : Nat → Value := updV qV5 1 (.ref 37)
def qX9 : mm_X := fun b => if b = 35 then some (.inr (10, qV6)) else qX8 b
def qH9 (L : Nat) (xs : Nat → Int32) (z : Value) : am_G := mm_hp (L, xs, z, qP0) qM0 qX9 (38, 601018, 7293001)
theorem qJ9 : am_pf (qH8 L xs z) 35 10 1 (.ref 37) = some (qH9 L xs z) := qpf (w := (L, xs, z, qP0)) (μ := qM0) (X := qX8) (n := (38, 601018, 7293001)) (V := qV5) (by decide) rfl rfl rfl
def qX10 : mm_X := fun b => if b = 38 then some (.inl (.int, 6, .inl fun _ => 0)) else qX9 b
def qH10 (L : Nat) (xs : Nat → Int32) (z : Value) : am_G := mm_hp (L, xs, z, qP0) qM0 qX10 (39, 601017, 7292995)
theorem qS10 : am_psh (qH9 L xs z) (.inl (.int, 6, .inl fun _ => 0)) 6 = (qH10 L xs z) := qpsh (w := (L, xs, z, qP0)) (μ := qM0) (X := qX9) (n := (38, 601018, 7293001)) (by decide) rfl rfl rfl
theorem qJ10 : am_S 142 (.newarray .int) 23 Lc (.int (Int32.ofInt 6) :: st) (qH9 L xs z) = am_go 25 Lc (.ref 38 :: st) (qH10 L xs z) := qnwa (by decide) (by decide) (by decide) rfl (show 1 ≤ 601018 by decide) (show 6 ≤ 7293001 by decide) rfl qS10 rfl
def qV7 : Nat → Value := updV qV6 2 (.ref 38)
def qX11 : mm_X := fun b => if b = 35 then some (.inr (10, qV7)) else qX10 b
def qH11 (L : Nat) (xs : Nat → Int32) (z : Value) : am_G := mm_hp (L, xs, z, qP0) qM0 qX11 (39, 601017, 7292995)
theorem qJ11 : am_pf (qH10 L xs z) 35 10 2 (.ref 38) = some (qH11 L xs z) := qpf (w := (L, xs, z, qP0)) (μ := qM0) (X := qX10) (n := (39, 601017, 7292995)) (V := qV6) (by decide) rfl rfl rfl
def qX12 : mm_X := fun b => if b = 39 then some (.inl (.int, 6, .inl fun _ => 0)) else qX11 b
def qH12 (L : Nat) (xs : Nat → Int32) (z : Value) : am_G := mm_hp (L, xs, z, qP0) qM0 qX12 (40, 601016, 7292989)
theorem qS12 : am_psh (qH11 L xs z) (.inl (.int, 6, .inl fun _ => 0)) 6 = (qH12 L xs z) := qpsh (w := (L, xs, z, qP0)) (μ := qM0) (X := qX11) (n := (39, 601017, 7292995)) (by decide) rfl rfl rfl
theorem qJ12 : am_S 142 (.newarray .int) 31 Lc (.int (Int32.ofInt 6) :: st) (qH11 L xs z) = am_go 33 Lc (.ref 39 :: st) (qH12 L xs z) := qnwa (by decide) (by decide) (by decide) rfl (show 1 ≤ 601017 by decide) (show 6 ≤ 7292995 by decide) rfl qS12 rfl
def qV8 : Nat → Value := updV qV7 3 (.ref 39)
def qX13 : mm_X := fun b => if b = 35 then some (.inr (10, qV8)) else qX12 b
def qH13 (L : Nat) (xs : Nat → Int32) (z : Value) : am_G := mm_hp (L, xs, z, qP0) qM0 qX13 (40, 601016, 7292989)
theorem qJ13 : am_pf (qH12 L xs z) 35 10 3 (.ref 39) = some (qH13 L xs z) := qpf (w := (L, xs, z, qP0)) (μ := qM0) (X := qX12) (n := (40, 601016, 7292989)) (V := qV7) (by decide) rfl rfl rfl
def qX14 : mm_X := fun b => if b = 40 then some (.inl (.int, 6, .inl fun _ => 0)) else qX13 b
def qH14 (L : Nat) (xs : Nat → Int32) (z : Value) : am_G := mm_hp (L, xs, z, qP0) qM0 qX14 (41, 601015, 7292983)
theorem qS14 : am_psh (qH13 L xs z) (.inl (.int, 6, .inl fun _ => 0)) 6 = (qH14 L xs z) := qpsh (w := (L, xs, z, qP0)) (μ := qM0) (X := qX13) (n := (40, 601016, 7292989)) (by decide) rfl rfl rfl
theorem qJ14 : am_S 142 (.newarray .int) 39 Lc (.int (Int32.ofInt 6) :: st) (qH13 L xs z) = am_go 41 Lc (.ref 40 :: st) (qH14 L xs z) := qnwa (by decide) (by decide) (by decide) rfl (show 1 ≤ 601016 by decide) (show 6 ≤ 7292989 by decide) rfl qS14 rfl
def qV9 : Nat → Value := updV qV8 4 (.ref 40)
def qX15 : mm_X := fun b => if b = 35 then some (.inr (10, qV9)) else qX14 b
def qH15 (L : Nat) (xs : Nat → Int32) (z : Value) : am_G := mm_hp (L, xs, z, qP0) qM0 qX15 (41, 601015, 7292983)
theorem qJ15 : am_pf (qH14 L xs z) 35 10 4 (.ref 40) = some (qH15 L xs z) := qpf (w := (L, xs, z, qP0)) (μ := qM0) (X := qX14) (n := (41, 601015, 7292983)) (V := qV8) (by decide) rfl rfl rfl
theorem qG2 : am_gf (qH15 L xs z) 35 10 0 = some (.ref 36) := (qgf (w := (L, xs, z, qP0)) (μ := qM0) (X := qX15) (n := (41, 601015, 7292983)) (V := qV9) (by decide) rfl rfl).trans rfl
def qP1 : Nat → Bool := fun b => qP0 b || [35, 36, 37, 38, 39, 40].contains b
set_option maxRecDepth 20000 in
theorem qK35 : qX15 35 = mm_c qI 35 := by
  show some (Sum.inr (10, qV9)) = some (Sum.inr (10, fun k => mm_ob qI 10 35 k))
  refine congrArg (fun f => some (Sum.inr (10, f))) (funext fun k => ?_)
  match k with
  | 0 => rfl
  | 1 => rfl
  | 2 => rfl
  | 3 => rfl
  | 4 => rfl
  | 5 => rfl
  | 6 => rfl
  | k + 7 => rfl
set_option maxRecDepth 20000 in
theorem qK36 : qX15 36 = mm_c qI 36 := rfl
set_option maxRecDepth 20000 in
theorem qK37 : qX15 37 = mm_c qI 37 := rfl
set_option maxRecDepth 20000 in
theorem qK38 : qX15 38 = mm_c qI 38 := rfl
set_option maxRecDepth 20000 in
theorem qK39 : qX15 39 = mm_c qI 39 := rfl
set_option maxRecDepth 20000 in
theorem qK40 : qX15 40 = mm_c qI 40 := rfl
def qH16 (L : Nat) (xs : Nat → Int32) (z : Value) : am_G := mm_hp (L, xs, z, qP1) qM0 qX15 (41, 601015, 7292983)
theorem qJ16 : (qH15 L xs z) = (qH16 L xs z) := qflipl [35, 36, 37, 38, 39, 40] rfl (by
  intro b hb _
  simp only [List.mem_cons, List.not_mem_nil, or_false] at hb
  rcases hb with rfl | rfl | rfl | rfl | rfl | rfl
  · exact qK35.trans (mm_c_of (qE0 (by decide)) (fun q => absurd q (by decide))).symm
  · exact qK36.trans (mm_c_of (qE0 (by decide)) (fun q => absurd q (by decide))).symm
  · exact qK37.trans (mm_c_of (qE0 (by decide)) (fun q => absurd q (by decide))).symm
  · exact qK38.trans (mm_c_of (qE0 (by decide)) (fun q => absurd q (by decide))).symm
  · exact qK39.trans (mm_c_of (qE0 (by decide)) (fun q => absurd q (by decide))).symm
  · exact qK40.trans (mm_c_of (qE0 (by decide)) (fun q => absurd q (by decide))).symm)
theorem qPo1 {b : Nat} (h : 41 ≤ b) : qP1 b = false := by
  show (qP0 b || [35, 36, 37, 38, 39, 40].contains b) = false
  rw [qPo0 (by omega)]
  show List.contains _ b = false
  simp
  omega
theorem qT0 : mm_T (L, xs, z, qP1) 0 := by
  intro i hi
  match i with
  | 0 => rfl
  | 1 => rfl
  | 2 => rfl
  | 3 => rfl
  | 4 => rfl
  | 5 => rfl
  | i + 6 => omega
def qM1 : mm_M := mm_fi qM0 36 6 (-2)
def qH17 (L : Nat) (xs : Nat → Int32) (z : Value) : am_G := mm_hp (L, xs, z, qP1) qM1 qX15 (41, 601015, 7292983)
theorem qJ17 {Q : am_Ou → am_G → Prop} : am_C 296 311 [.ref 36, .int (Int32.ofInt (-2))] (qH16 L xs z) Q ↔ Q (.inl none) (qH17 L xs z) := c_311 (d := 295) (w := (L, xs, z, qP1)) (μ := qM0) (by decide) rfl rfl (by decide)
def qM2 : mm_M := tr_arr 0 (mm_u (mm_u (mm_u qM1 (mm_tr 0 + 1) (sp_fr (qM1 (mm_tr 0 + 1))) (-1)) (mm_tr 0 + 2) (sp_fr (qM1 (mm_tr 0 + 1))) 1) (mm_tr 0) 6 (qM1 (mm_tr 0) 6 + 1))
def qH18 (L : Nat) (xs : Nat → Int32) (z : Value) : am_G := mm_hp (L, xs, z, qP1) qM2 qX15 (41, 601015, 7292983)
theorem qR0 : qM1 (mm_tr 0 + 1) = fun j => if 0 ≤ j ∧ j < 6 then -2 else 0 := by
  funext j
  show mm_fi qM0 36 6 (-2) 36 j = _
  unfold mm_fi
  by_cases e : 0 ≤ j ∧ j < 6
  · rw [if_pos ⟨rfl, e⟩, if_pos e]
  · rw [if_neg (fun q => e q.2), if_neg e]
    exact rfl
theorem qJ18 {Q : am_Ou → am_G → Prop} : am_C 296 146 [.ref 35, .int (Int32.ofInt (-1)), .int (Int32.ofInt (1))] (qH17 L xs z) Q ↔ Q (.inl (some (.int (Int32.ofInt (sp_fr (qM1 (mm_tr 0 + 1))))))) (qH18 L xs z) := c_146 (d := 286) (w := (L, xs, z, qP1)) (μ := qM1) (z := 0) (b := -1) (r := 1) qT0 (by unfold mm_tp; rw [qR0]; exact q_tp) (by rw [mm_us3, qR0]; exact q_wf)
theorem qE2 {b : Nat} (h : b < 35 ∨ 40 < b) : qM2 b = qI b := (q_gr (zt := 0) (by decide) qR0).1 b (by rw [show mm_tr 0 = 35 from rfl]; omega) |>.trans ((q_fio (by omega)).trans (qE0 (trivial)))
theorem qO18 : am_oc (qH17 L xs z) 35 = some 10 := mm_oc (w := (L, xs, z, qP1)) (by decide) rfl rfl
set_option maxRecDepth 20000 in
theorem qC1 {Q : am_Ou → am_G → Prop} : am_C 297 142 [.ref 35] (qH5 L xs z) Q ↔ Q (.inl none) (qH18 L xs z) := by
  rw [am_C_in (d := 296) (by simp [am_arg, m_142, Value.category]), show am_loc 142 [.ref 35] = [some (.ref 35)] from by simp [am_loc, am_arg, m_142, Value.category, List.replicate]]
  rw [x_142_0, lc_A_0, x_142_1, am_obj v_142_3 (by simp), am_K_go, x_142_4, lc_A_0, x_142_5, show ((6 : Int32)) = Int32.ofInt (6) from by decide, x_142_7, qJ6, am_K_go, y_142_9, qJ7, am_kg_some, x_142_12, lc_A_0, x_142_13, show ((6 : Int32)) = Int32.ofInt (6) from by decide, x_142_15, qJ8, am_K_go, y_142_17, qJ9, am_kg_some, x_142_20, lc_A_0, x_142_21, show ((6 : Int32)) = Int32.ofInt (6) from by decide, x_142_23, qJ10, am_K_go, y_142_25, qJ11, am_kg_some, x_142_28, lc_A_0, x_142_29, show ((6 : Int32)) = Int32.ofInt (6) from by decide, x_142_31, qJ12, am_K_go, y_142_33, qJ13, am_kg_some, x_142_36, lc_A_0, x_142_37, show ((6 : Int32)) = Int32.ofInt (6) from by decide, x_142_39, qJ14, am_K_go, y_142_41, qJ15, am_kg_some, x_142_44, lc_A_0, x_142_45, qG2, am_kv_some, qJ16, x_142_48, show ((-2 : Int32)) = Int32.ofInt (-2) from by decide, z_142_50 (by simp), qJ17, bk_n, x_142_53, lc_A_0, x_142_54, show ((-1 : Int32)) = Int32.ofInt (-1) from by decide, x_142_55, show ((1 : Int32)) = Int32.ofInt (1) from by decide, z_142_56 (by simp) qO18, qJ18, bk_v, x_142_59, if_pos (by rfl), x_142_60]
def qF2 : Nat → Option Nat := va_up qF1 0 (some 35)
def qX16 : mm_X := fun b => if b = 34 then some (.inl (.object "ModelSheet$Tree", 3, .inr (.inr (.inr (.inr qF2))))) else qX15 b
def qH19 (L : Nat) (xs : Nat → Int32) (z : Value) : am_G := mm_hp (L, xs, z, qP1) qM2 qX16 (41, 601015, 7292983)
theorem qJ19 : am_sat .aastore (qH18 L xs z) 34 (Int32.ofInt 0) (.ref 35) = some (qH19 L xs z) := qaas (w := (L, xs, z, qP1)) (μ := qM2) (X := qX15) (n := (41, 601015, 7292983)) (f := qF1) (c := 10) (by decide) rfl rfl rfl (mm_oc (by decide) rfl rfl) (by decide) rfl rfl
theorem qG3 : am_gf (qH19 L xs z) 33 8 0 = some (.ref 34) := (qgf (w := (L, xs, z, qP1)) (μ := qM2) (X := qX16) (n := (41, 601015, 7292983)) (V := qV3) (by decide) rfl rfl).trans rfl
def qV10 : Nat → Value := fun k => defaultValue (am_ft 10 k).1
def qX17 : mm_X := fun b => if b = 41 then some (.inr (10, qV10)) else qX16 b
def qH20 (L : Nat) (xs : Nat → Int32) (z : Value) : am_G := mm_hp (L, xs, z, qP1) qM2 qX17 (42, 601014, 7292976)
theorem qS20 : am_psh (qH19 L xs z) (.inr (10, qV10)) 7 = (qH20 L xs z) := qpsh (w := (L, xs, z, qP1)) (μ := qM2) (X := qX16) (n := (41, 601015, 7292983)) (by decide) rfl rfl rfl
theorem qJ20 : am_S 124 (.new 9) 24 Lc st (qH19 L xs z) = am_go 27 Lc (.ref 41 :: st) (qH20 L xs z) := qnew w_124_9 (show 1 ≤ 601015 by decide) (show am_nf 10 ≤ 7292983 by decide) rfl qS20 rfl
def qX18 : mm_X := fun b => if b = 42 then some (.inl (.int, 6, .inl fun _ => 0)) else qX17 b
def qH21 (L : Nat) (xs : Nat → Int32) (z : Value) : am_G := mm_hp (L, xs, z, qP1) qM2 qX18 (43, 601013, 7292970)
theorem qS21 : am_psh (qH20 L xs z) (.inl (.int, 6, .inl fun _ => 0)) 6 = (qH21 L xs z) := qpsh (w := (L, xs, z, qP1)) (μ := qM2) (X := qX17) (n := (42, 601014, 7292976)) (by decide) rfl rfl rfl
theorem qJ21 : am_S 142 (.newarray .int) 7 Lc (.int (Int32.ofInt 6) :: st) (qH20 L xs z) = am_go 9 Lc (.ref 42 :: st) (qH21 L xs z) := qnwa (by decide) (by decide) (by decide) rfl (show 1 ≤ 601014 by decide) (show 6 ≤ 7292976 by decide) rfl qS21 rfl
def qV11 : Nat → Value := updV qV10 0 (.ref 42)
def qX19 : mm_X := fun b => if b = 41 then some (.inr (10, qV11)) else qX18 b
def qH22 (L : Nat) (xs : Nat → Int32) (z : Value) : am_G := mm_hp (L, xs, z, qP1) qM2 qX19 (43, 601013, 7292970)
theorem qJ22 : am_pf (qH21 L xs z) 41 10 0 (.ref 42) = some (qH22 L xs z) := qpf (w := (L, xs, z, qP1)) (μ := qM2) (X := qX18) (n := (43, 601013, 7292970)) (V := qV10) (by decide) rfl rfl rfl
def qX20 : mm_X := fun b => if b = 43 then some (.inl (.int, 6, .inl fun _ => 0)) else qX19 b
def qH23 (L : Nat) (xs : Nat → Int32) (z : Value) : am_G := mm_hp (L, xs, z, qP1) qM2 qX20 (44, 601012, 7292964)
theorem qS23 : am_psh (qH22 L xs z) (.inl (.int, 6, .inl fun _ => 0)) 6 = (qH23 L xs z) := qpsh (w := (L, xs, z, qP1)) (μ := qM2) (X := qX19) (n := (43, 601013, 7292970)) (by decide) rfl rfl rfl
theorem qJ23 : am_S 142 (.newarray .int) 15 Lc (.int (Int32.ofInt 6) :: st) (qH22 L xs z) = am_go 17 Lc (.ref 43 :: st) (qH23 L xs z) := qnwa (by decide) (by decide) (by decide) rfl (show 1 ≤ 601013 by decide) (show 6 ≤ 7292970 by decide) rfl qS23 rfl
def qV12 : Nat → Value := updV qV11 1 (.ref 43)
def qX21 : mm_X := fun b => if b = 41 then some (.inr (10, qV12)) else qX20 b
def qH24 (L : Nat) (xs : Nat → Int32) (z : Value) : am_G := mm_hp (L, xs, z, qP1) qM2 qX21 (44, 601012, 7292964)
theorem qJ24 : am_pf (qH23 L xs z) 41 10 1 (.ref 43) = some (qH24 L xs z) := qpf (w := (L, xs, z, qP1)) (μ := qM2) (X := qX20) (n := (44, 601012, 7292964)) (V := qV11) (by decide) rfl rfl rfl
def qX22 : mm_X := fun b => if b = 44 then some (.inl (.int, 6, .inl fun _ => 0)) else qX21 b
def qH25 (L : Nat) (xs : Nat → Int32) (z : Value) : am_G := mm_hp (L, xs, z, qP1) qM2 qX22 (45, 601011, 7292958)
theorem qS25 : am_psh (qH24 L xs z) (.inl (.int, 6, .inl fun _ => 0)) 6 = (qH25 L xs z) := qpsh (w := (L, xs, z, qP1)) (μ := qM2) (X := qX21) (n := (44, 601012, 7292964)) (by decide) rfl rfl rfl
theorem qJ25 : am_S 142 (.newarray .int) 23 Lc (.int (Int32.ofInt 6) :: st) (qH24 L xs z) = am_go 25 Lc (.ref 44 :: st) (qH25 L xs z) := qnwa (by decide) (by decide) (by decide) rfl (show 1 ≤ 601012 by decide) (show 6 ≤ 7292964 by decide) rfl qS25 rfl
def qV13 : Nat → Value := updV qV12 2 (.ref 44)
def qX23 : mm_X := fun b => if b = 41 then some (.inr (10, qV13)) else qX22 b
def qH26 (L : Nat) (xs : Nat → Int32) (z : Value) : am_G := mm_hp (L, xs, z, qP1) qM2 qX23 (45, 601011, 7292958)
theorem qJ26 : am_pf (qH25 L xs z) 41 10 2 (.ref 44) = some (qH26 L xs z) := qpf (w := (L, xs, z, qP1)) (μ := qM2) (X := qX22) (n := (45, 601011, 7292958)) (V := qV12) (by decide) rfl rfl rfl
def qX24 : mm_X := fun b => if b = 45 then some (.inl (.int, 6, .inl fun _ => 0)) else qX23 b
def qH27 (L : Nat) (xs : Nat → Int32) (z : Value) : am_G := mm_hp (L, xs, z, qP1) qM2 qX24 (46, 601010, 7292952)
theorem qS27 : am_psh (qH26 L xs z) (.inl (.int, 6, .inl fun _ => 0)) 6 = (qH27 L xs z) := qpsh (w := (L, xs, z, qP1)) (μ := qM2) (X := qX23) (n := (45, 601011, 7292958)) (by decide) rfl rfl rfl
theorem qJ27 : am_S 142 (.newarray .int) 31 Lc (.int (Int32.ofInt 6) :: st) (qH26 L xs z) = am_go 33 Lc (.ref 45 :: st) (qH27 L xs z) := qnwa (by decide) (by decide) (by decide) rfl (show 1 ≤ 601011 by decide) (show 6 ≤ 7292958 by decide) rfl qS27 rfl
def qV14 : Nat → Value := updV qV13 3 (.ref 45)
def qX25 : mm_X := fun b => if b = 41 then some (.inr (10, qV14)) else qX24 b
def qH28 (L : Nat) (xs : Nat → Int32) (z : Value) : am_G := mm_hp (L, xs, z, qP1) qM2 qX25 (46, 601010, 7292952)
theorem qJ28 : am_pf (qH27 L xs z) 41 10 3 (.ref 45) = some (qH28 L xs z) := qpf (w := (L, xs, z, qP1)) (μ := qM2) (X := qX24) (n := (46, 601010, 7292952)) (V := qV13) (by decide) rfl rfl rfl
def qX26 : mm_X := fun b => if b = 46 then some (.inl (.int, 6, .inl fun _ => 0)) else qX25 b
def qH29 (L : Nat) (xs : Nat → Int32) (z : Value) : am_G := mm_hp (L, xs, z, qP1) qM2 qX26 (47, 601009, 7292946)
theorem qS29 : am_psh (qH28 L xs z) (.inl (.int, 6, .inl fun _ => 0)) 6 = (qH29 L xs z) := qpsh (w := (L, xs, z, qP1)) (μ := qM2) (X := qX25) (n := (46, 601010, 7292952)) (by decide) rfl rfl rfl
theorem qJ29 : am_S 142 (.newarray .int) 39 Lc (.int (Int32.ofInt 6) :: st) (qH28 L xs z) = am_go 41 Lc (.ref 46 :: st) (qH29 L xs z) := qnwa (by decide) (by decide) (by decide) rfl (show 1 ≤ 601010 by decide) (show 6 ≤ 7292952 by decide) rfl qS29 rfl
def qV15 : Nat → Value := updV qV14 4 (.ref 46)
def qX27 : mm_X := fun b => if b = 41 then some (.inr (10, qV15)) else qX26 b
def qH30 (L : Nat) (xs : Nat → Int32) (z : Value) : am_G := mm_hp (L, xs, z, qP1) qM2 qX27 (47, 601009, 7292946)
theorem qJ30 : am_pf (qH29 L xs z) 41 10 4 (.ref 46) = some (qH30 L xs z) := qpf (w := (L, xs, z, qP1)) (μ := qM2) (X := qX26) (n := (47, 601009, 7292946)) (V := qV14) (by decide) rfl rfl rfl
theorem qG4 : am_gf (qH30 L xs z) 41 10 0 = some (.ref 42) := (qgf (w := (L, xs, z, qP1)) (μ := qM2) (X := qX27) (n := (47, 601009, 7292946)) (V := qV15) (by decide) rfl rfl).trans rfl
def qP2 : Nat → Bool := fun b => qP1 b || [41, 42, 43, 44, 45, 46].contains b
set_option maxRecDepth 20000 in
theorem qK41 : qX27 41 = mm_c qI 41 := by
  show some (Sum.inr (10, qV15)) = some (Sum.inr (10, fun k => mm_ob qI 10 41 k))
  refine congrArg (fun f => some (Sum.inr (10, f))) (funext fun k => ?_)
  match k with
  | 0 => rfl
  | 1 => rfl
  | 2 => rfl
  | 3 => rfl
  | 4 => rfl
  | 5 => rfl
  | 6 => rfl
  | k + 7 => rfl
set_option maxRecDepth 20000 in
theorem qK42 : qX27 42 = mm_c qI 42 := rfl
set_option maxRecDepth 20000 in
theorem qK43 : qX27 43 = mm_c qI 43 := rfl
set_option maxRecDepth 20000 in
theorem qK44 : qX27 44 = mm_c qI 44 := rfl
set_option maxRecDepth 20000 in
theorem qK45 : qX27 45 = mm_c qI 45 := rfl
set_option maxRecDepth 20000 in
theorem qK46 : qX27 46 = mm_c qI 46 := rfl
def qH31 (L : Nat) (xs : Nat → Int32) (z : Value) : am_G := mm_hp (L, xs, z, qP2) qM2 qX27 (47, 601009, 7292946)
theorem qJ31 : (qH30 L xs z) = (qH31 L xs z) := qflipl [41, 42, 43, 44, 45, 46] rfl (by
  intro b hb _
  simp only [List.mem_cons, List.not_mem_nil, or_false] at hb
  rcases hb with rfl | rfl | rfl | rfl | rfl | rfl
  · exact qK41.trans (mm_c_of (qE2 (by decide)) (fun q => absurd q (by decide))).symm
  · exact qK42.trans (mm_c_of (qE2 (by decide)) (fun q => absurd q (by decide))).symm
  · exact qK43.trans (mm_c_of (qE2 (by decide)) (fun q => absurd q (by decide))).symm
  · exact qK44.trans (mm_c_of (qE2 (by decide)) (fun q => absurd q (by decide))).symm
  · exact qK45.trans (mm_c_of (qE2 (by decide)) (fun q => absurd q (by decide))).symm
  · exact qK46.trans (mm_c_of (qE2 (by decide)) (fun q => absurd q (by decide))).symm)
theorem qPo2 {b : Nat} (h : 47 ≤ b) : qP2 b = false := by
  show (qP1 b || [41, 42, 43, 44, 45, 46].contains b) = false
  rw [qPo1 (by omega)]
  show List.contains _ b = false
  simp
  omega
theorem qT1 : mm_T (L, xs, z, qP2) 1 := by
  intro i hi
  match i with
  | 0 => rfl
  | 1 => rfl
  | 2 => rfl
  | 3 => rfl
  | 4 => rfl
  | 5 => rfl
  | i + 6 => omega
def qM3 : mm_M := mm_fi qM2 42 6 (-2)
def qH32 (L : Nat) (xs : Nat → Int32) (z : Value) : am_G := mm_hp (L, xs, z, qP2) qM3 qX27 (47, 601009, 7292946)
theorem qJ32 {Q : am_Ou → am_G → Prop} : am_C 296 311 [.ref 42, .int (Int32.ofInt (-2))] (qH31 L xs z) Q ↔ Q (.inl none) (qH32 L xs z) := c_311 (d := 295) (w := (L, xs, z, qP2)) (μ := qM2) (by decide) rfl rfl (by decide)
def qM4 : mm_M := tr_arr 1 (mm_u (mm_u (mm_u qM3 (mm_tr 1 + 1) (sp_fr (qM3 (mm_tr 1 + 1))) (-1)) (mm_tr 1 + 2) (sp_fr (qM3 (mm_tr 1 + 1))) 1) (mm_tr 1) 6 (qM3 (mm_tr 1) 6 + 1))
def qH33 (L : Nat) (xs : Nat → Int32) (z : Value) : am_G := mm_hp (L, xs, z, qP2) qM4 qX27 (47, 601009, 7292946)
theorem qR1 : qM3 (mm_tr 1 + 1) = fun j => if 0 ≤ j ∧ j < 6 then -2 else 0 := by
  funext j
  show mm_fi qM2 42 6 (-2) 42 j = _
  unfold mm_fi
  by_cases e : 0 ≤ j ∧ j < 6
  · rw [if_pos ⟨rfl, e⟩, if_pos e]
  · rw [if_neg (fun q => e q.2), if_neg e]
    exact congrFun (qE2 (b := 42) (by decide)) j
theorem qJ33 {Q : am_Ou → am_G → Prop} : am_C 296 146 [.ref 41, .int (Int32.ofInt (-1)), .int (Int32.ofInt (1))] (qH32 L xs z) Q ↔ Q (.inl (some (.int (Int32.ofInt (sp_fr (qM3 (mm_tr 1 + 1))))))) (qH33 L xs z) := c_146 (d := 286) (w := (L, xs, z, qP2)) (μ := qM3) (z := 1) (b := -1) (r := 1) qT1 (by unfold mm_tp; rw [qR1]; exact q_tp) (by rw [mm_us3, qR1]; exact q_wf)
theorem qE4 {b : Nat} (h : b < 35 ∨ 46 < b) : qM4 b = qI b := (q_gr (zt := 1) (by decide) qR1).1 b (by rw [show mm_tr 1 = 41 from rfl]; omega) |>.trans ((q_fio (by omega)).trans (qE2 (by omega)))
theorem qO33 : am_oc (qH32 L xs z) 41 = some 10 := mm_oc (w := (L, xs, z, qP2)) (by decide) rfl rfl
set_option maxRecDepth 20000 in
theorem qC2 {Q : am_Ou → am_G → Prop} : am_C 297 142 [.ref 41] (qH20 L xs z) Q ↔ Q (.inl none) (qH33 L xs z) := by
  rw [am_C_in (d := 296) (by simp [am_arg, m_142, Value.category]), show am_loc 142 [.ref 41] = [some (.ref 41)] from by simp [am_loc, am_arg, m_142, Value.category, List.replicate]]
  rw [x_142_0, lc_A_0, x_142_1, am_obj v_142_3 (by simp), am_K_go, x_142_4, lc_A_0, x_142_5, show ((6 : Int32)) = Int32.ofInt (6) from by decide, x_142_7, qJ21, am_K_go, y_142_9, qJ22, am_kg_some, x_142_12, lc_A_0, x_142_13, show ((6 : Int32)) = Int32.ofInt (6) from by decide, x_142_15, qJ23, am_K_go, y_142_17, qJ24, am_kg_some, x_142_20, lc_A_0, x_142_21, show ((6 : Int32)) = Int32.ofInt (6) from by decide, x_142_23, qJ25, am_K_go, y_142_25, qJ26, am_kg_some, x_142_28, lc_A_0, x_142_29, show ((6 : Int32)) = Int32.ofInt (6) from by decide, x_142_31, qJ27, am_K_go, y_142_33, qJ28, am_kg_some, x_142_36, lc_A_0, x_142_37, show ((6 : Int32)) = Int32.ofInt (6) from by decide, x_142_39, qJ29, am_K_go, y_142_41, qJ30, am_kg_some, x_142_44, lc_A_0, x_142_45, qG4, am_kv_some, qJ31, x_142_48, show ((-2 : Int32)) = Int32.ofInt (-2) from by decide, z_142_50 (by simp), qJ32, bk_n, x_142_53, lc_A_0, x_142_54, show ((-1 : Int32)) = Int32.ofInt (-1) from by decide, x_142_55, show ((1 : Int32)) = Int32.ofInt (1) from by decide, z_142_56 (by simp) qO33, qJ33, bk_v, x_142_59, if_pos (by rfl), x_142_60]
def qF3 : Nat → Option Nat := va_up qF2 1 (some 41)
def qX28 : mm_X := fun b => if b = 34 then some (.inl (.object "ModelSheet$Tree", 3, .inr (.inr (.inr (.inr qF3))))) else qX27 b
def qH34 (L : Nat) (xs : Nat → Int32) (z : Value) : am_G := mm_hp (L, xs, z, qP2) qM4 qX28 (47, 601009, 7292946)
theorem qJ34 : am_sat .aastore (qH33 L xs z) 34 (Int32.ofInt 1) (.ref 41) = some (qH34 L xs z) := qaas (w := (L, xs, z, qP2)) (μ := qM4) (X := qX27) (n := (47, 601009, 7292946)) (f := qF2) (c := 10) (by decide) rfl rfl rfl (mm_oc (by decide) rfl rfl) (by decide) rfl rfl
theorem qG5 : am_gf (qH34 L xs z) 33 8 0 = some (.ref 34) := (qgf (w := (L, xs, z, qP2)) (μ := qM4) (X := qX28) (n := (47, 601009, 7292946)) (V := qV3) (by decide) rfl rfl).trans rfl
def qV16 : Nat → Value := fun k => defaultValue (am_ft 10 k).1
def qX29 : mm_X := fun b => if b = 47 then some (.inr (10, qV16)) else qX28 b
def qH35 (L : Nat) (xs : Nat → Int32) (z : Value) : am_G := mm_hp (L, xs, z, qP2) qM4 qX29 (48, 601008, 7292939)
theorem qS35 : am_psh (qH34 L xs z) (.inr (10, qV16)) 7 = (qH35 L xs z) := qpsh (w := (L, xs, z, qP2)) (μ := qM4) (X := qX28) (n := (47, 601009, 7292946)) (by decide) rfl rfl rfl
theorem qJ35 : am_S 124 (.new 9) 24 Lc st (qH34 L xs z) = am_go 27 Lc (.ref 47 :: st) (qH35 L xs z) := qnew w_124_9 (show 1 ≤ 601009 by decide) (show am_nf 10 ≤ 7292946 by decide) rfl qS35 rfl
def qX30 : mm_X := fun b => if b = 48 then some (.inl (.int, 6, .inl fun _ => 0)) else qX29 b
def qH36 (L : Nat) (xs : Nat → Int32) (z : Value) : am_G := mm_hp (L, xs, z, qP2) qM4 qX30 (49, 601007, 7292933)
theorem qS36 : am_psh (qH35 L xs z) (.inl (.int, 6, .inl fun _ => 0)) 6 = (qH36 L xs z) := qpsh (w := (L, xs, z, qP2)) (μ := qM4) (X := qX29) (n := (48, 601008, 7292939)) (by decide) rfl rfl rfl
theorem qJ36 : am_S 142 (.newarray .int) 7 Lc (.int (Int32.ofInt 6) :: st) (qH35 L xs z) = am_go 9 Lc (.ref 48 :: st) (qH36 L xs z) := qnwa (by decide) (by decide) (by decide) rfl (show 1 ≤ 601008 by decide) (show 6 ≤ 7292939 by decide) rfl qS36 rfl
def qV17 : Nat → Value := updV qV16 0 (.ref 48)
def qX31 : mm_X := fun b => if b = 47 then some (.inr (10, qV17)) else qX30 b
def qH37 (L : Nat) (xs : Nat → Int32) (z : Value) : am_G := mm_hp (L, xs, z, qP2) qM4 qX31 (49, 601007, 7292933)
theorem qJ37 : am_pf (qH36 L xs z) 47 10 0 (.ref 48) = some (qH37 L xs z) := qpf (w := (L, xs, z, qP2)) (μ := qM4) (X := qX30) (n := (49, 601007, 7292933)) (V := qV16) (by decide) rfl rfl rfl
def qX32 : mm_X := fun b => if b = 49 then some (.inl (.int, 6, .inl fun _ => 0)) else qX31 b
def qH38 (L : Nat) (xs : Nat → Int32) (z : Value) : am_G := mm_hp (L, xs, z, qP2) qM4 qX32 (50, 601006, 7292927)
theorem qS38 : am_psh (qH37 L xs z) (.inl (.int, 6, .inl fun _ => 0)) 6 = (qH38 L xs z) := qpsh (w := (L, xs, z, qP2)) (μ := qM4) (X := qX31) (n := (49, 601007, 7292933)) (by decide) rfl rfl rfl
theorem qJ38 : am_S 142 (.newarray .int) 15 Lc (.int (Int32.ofInt 6) :: st) (qH37 L xs z) = am_go 17 Lc (.ref 49 :: st) (qH38 L xs z) := qnwa (by decide) (by decide) (by decide) rfl (show 1 ≤ 601007 by decide) (show 6 ≤ 7292933 by decide) rfl qS38 rfl
def qV18 : Nat → Value := updV qV17 1 (.ref 49)
def qX33 : mm_X := fun b => if b = 47 then some (.inr (10, qV18)) else qX32 b
def qH39 (L : Nat) (xs : Nat → Int32) (z : Value) : am_G := mm_hp (L, xs, z, qP2) qM4 qX33 (50, 601006, 7292927)
theorem qJ39 : am_pf (qH38 L xs z) 47 10 1 (.ref 49) = some (qH39 L xs z) := qpf (w := (L, xs, z, qP2)) (μ := qM4) (X := qX32) (n := (50, 601006, 7292927)) (V := qV17) (by decide) rfl rfl rfl
def qX34 : mm_X := fun b => if b = 50 then some (.inl (.int, 6, .inl fun _ => 0)) else qX33 b
def qH40 (L : Nat) (xs : Nat → Int32) (z : Value) : am_G := mm_hp (L, xs, z, qP2) qM4 qX34 (51, 601005, 7292921)
theorem qS40 : am_psh (qH39 L xs z) (.inl (.int, 6, .inl fun _ => 0)) 6 = (qH40 L xs z) := qpsh (w := (L, xs, z, qP2)) (μ := qM4) (X := qX33) (n := (50, 601006, 7292927)) (by decide) rfl rfl rfl
theorem qJ40 : am_S 142 (.newarray .int) 23 Lc (.int (Int32.ofInt 6) :: st) (qH39 L xs z) = am_go 25 Lc (.ref 50 :: st) (qH40 L xs z) := qnwa (by decide) (by decide) (by decide) rfl (show 1 ≤ 601006 by decide) (show 6 ≤ 7292927 by decide) rfl qS40 rfl
def qV19 : Nat → Value := updV qV18 2 (.ref 50)
def qX35 : mm_X := fun b => if b = 47 then some (.inr (10, qV19)) else qX34 b
def qH41 (L : Nat) (xs : Nat → Int32) (z : Value) : am_G := mm_hp (L, xs, z, qP2) qM4 qX35 (51, 601005, 7292921)
theorem qJ41 : am_pf (qH40 L xs z) 47 10 2 (.ref 50) = some (qH41 L xs z) := qpf (w := (L, xs, z, qP2)) (μ := qM4) (X := qX34) (n := (51, 601005, 7292921)) (V := qV18) (by decide) rfl rfl rfl
def qX36 : mm_X := fun b => if b = 51 then some (.inl (.int, 6, .inl fun _ => 0)) else qX35 b
def qH42 (L : Nat) (xs : Nat → Int32) (z : Value) : am_G := mm_hp (L, xs, z, qP2) qM4 qX36 (52, 601004, 7292915)
theorem qS42 : am_psh (qH41 L xs z) (.inl (.int, 6, .inl fun _ => 0)) 6 = (qH42 L xs z) := qpsh (w := (L, xs, z, qP2)) (μ := qM4) (X := qX35) (n := (51, 601005, 7292921)) (by decide) rfl rfl rfl
theorem qJ42 : am_S 142 (.newarray .int) 31 Lc (.int (Int32.ofInt 6) :: st) (qH41 L xs z) = am_go 33 Lc (.ref 51 :: st) (qH42 L xs z) := qnwa (by decide) (by decide) (by decide) rfl (show 1 ≤ 601005 by decide) (show 6 ≤ 7292921 by decide) rfl qS42 rfl
def qV20 : Nat → Value := updV qV19 3 (.ref 51)
def qX37 : mm_X := fun b => if b = 47 then some (.inr (10, qV20)) else qX36 b
def qH43 (L : Nat) (xs : Nat → Int32) (z : Value) : am_G := mm_hp (L, xs, z, qP2) qM4 qX37 (52, 601004, 7292915)
theorem qJ43 : am_pf (qH42 L xs z) 47 10 3 (.ref 51) = some (qH43 L xs z) := qpf (w := (L, xs, z, qP2)) (μ := qM4) (X := qX36) (n := (52, 601004, 7292915)) (V := qV19) (by decide) rfl rfl rfl
def qX38 : mm_X := fun b => if b = 52 then some (.inl (.int, 6, .inl fun _ => 0)) else qX37 b
def qH44 (L : Nat) (xs : Nat → Int32) (z : Value) : am_G := mm_hp (L, xs, z, qP2) qM4 qX38 (53, 601003, 7292909)
theorem qS44 : am_psh (qH43 L xs z) (.inl (.int, 6, .inl fun _ => 0)) 6 = (qH44 L xs z) := qpsh (w := (L, xs, z, qP2)) (μ := qM4) (X := qX37) (n := (52, 601004, 7292915)) (by decide) rfl rfl rfl
theorem qJ44 : am_S 142 (.newarray .int) 39 Lc (.int (Int32.ofInt 6) :: st) (qH43 L xs z) = am_go 41 Lc (.ref 52 :: st) (qH44 L xs z) := qnwa (by decide) (by decide) (by decide) rfl (show 1 ≤ 601004 by decide) (show 6 ≤ 7292915 by decide) rfl qS44 rfl
def qV21 : Nat → Value := updV qV20 4 (.ref 52)
def qX39 : mm_X := fun b => if b = 47 then some (.inr (10, qV21)) else qX38 b
def qH45 (L : Nat) (xs : Nat → Int32) (z : Value) : am_G := mm_hp (L, xs, z, qP2) qM4 qX39 (53, 601003, 7292909)
theorem qJ45 : am_pf (qH44 L xs z) 47 10 4 (.ref 52) = some (qH45 L xs z) := qpf (w := (L, xs, z, qP2)) (μ := qM4) (X := qX38) (n := (53, 601003, 7292909)) (V := qV20) (by decide) rfl rfl rfl
theorem qG6 : am_gf (qH45 L xs z) 47 10 0 = some (.ref 48) := (qgf (w := (L, xs, z, qP2)) (μ := qM4) (X := qX39) (n := (53, 601003, 7292909)) (V := qV21) (by decide) rfl rfl).trans rfl
def qP3 : Nat → Bool := fun b => qP2 b || [47, 48, 49, 50, 51, 52].contains b
set_option maxRecDepth 20000 in
theorem qK47 : qX39 47 = mm_c qI 47 := by
  show some (Sum.inr (10, qV21)) = some (Sum.inr (10, fun k => mm_ob qI 10 47 k))
  refine congrArg (fun f => some (Sum.inr (10, f))) (funext fun k => ?_)
  match k with
  | 0 => rfl
  | 1 => rfl
  | 2 => rfl
  | 3 => rfl
  | 4 => rfl
  | 5 => rfl
  | 6 => rfl
  | k + 7 => rfl
set_option maxRecDepth 20000 in
theorem qK48 : qX39 48 = mm_c qI 48 := rfl
set_option maxRecDepth 20000 in
theorem qK49 : qX39 49 = mm_c qI 49 := rfl
set_option maxRecDepth 20000 in
theorem qK50 : qX39 50 = mm_c qI 50 := rfl
set_option maxRecDepth 20000 in
theorem qK51 : qX39 51 = mm_c qI 51 := rfl
set_option maxRecDepth 20000 in
theorem qK52 : qX39 52 = mm_c qI 52 := rfl
def qH46 (L : Nat) (xs : Nat → Int32) (z : Value) : am_G := mm_hp (L, xs, z, qP3) qM4 qX39 (53, 601003, 7292909)
theorem qJ46 : (qH45 L xs z) = (qH46 L xs z) := qflipl [47, 48, 49, 50, 51, 52] rfl (by
  intro b hb _
  simp only [List.mem_cons, List.not_mem_nil, or_false] at hb
  rcases hb with rfl | rfl | rfl | rfl | rfl | rfl
  · exact qK47.trans (mm_c_of (qE4 (by decide)) (fun q => absurd q (by decide))).symm
  · exact qK48.trans (mm_c_of (qE4 (by decide)) (fun q => absurd q (by decide))).symm
  · exact qK49.trans (mm_c_of (qE4 (by decide)) (fun q => absurd q (by decide))).symm
  · exact qK50.trans (mm_c_of (qE4 (by decide)) (fun q => absurd q (by decide))).symm
  · exact qK51.trans (mm_c_of (qE4 (by decide)) (fun q => absurd q (by decide))).symm
  · exact qK52.trans (mm_c_of (qE4 (by decide)) (fun q => absurd q (by decide))).symm)
theorem qPo3 {b : Nat} (h : 53 ≤ b) : qP3 b = false := by
  show (qP2 b || [47, 48, 49, 50, 51, 52].contains b) = false
  rw [qPo2 (by omega)]
  show List.contains _ b = false
  simp
  omega
theorem qT2 : mm_T (L, xs, z, qP3) 2 := by
  intro i hi
  match i with
  | 0 => rfl
  | 1 => rfl
  | 2 => rfl
  | 3 => rfl
  | 4 => rfl
  | 5 => rfl
  | i + 6 => omega
def qM5 : mm_M := mm_fi qM4 48 6 (-2)
def qH47 (L : Nat) (xs : Nat → Int32) (z : Value) : am_G := mm_hp (L, xs, z, qP3) qM5 qX39 (53, 601003, 7292909)
theorem qJ47 {Q : am_Ou → am_G → Prop} : am_C 296 311 [.ref 48, .int (Int32.ofInt (-2))] (qH46 L xs z) Q ↔ Q (.inl none) (qH47 L xs z) := c_311 (d := 295) (w := (L, xs, z, qP3)) (μ := qM4) (by decide) rfl rfl (by decide)
def qM6 : mm_M := tr_arr 2 (mm_u (mm_u (mm_u qM5 (mm_tr 2 + 1) (sp_fr (qM5 (mm_tr 2 + 1))) (-1)) (mm_tr 2 + 2) (sp_fr (qM5 (mm_tr 2 + 1))) 1) (mm_tr 2) 6 (qM5 (mm_tr 2) 6 + 1))
def qH48 (L : Nat) (xs : Nat → Int32) (z : Value) : am_G := mm_hp (L, xs, z, qP3) qM6 qX39 (53, 601003, 7292909)
theorem qR2 : qM5 (mm_tr 2 + 1) = fun j => if 0 ≤ j ∧ j < 6 then -2 else 0 := by
  funext j
  show mm_fi qM4 48 6 (-2) 48 j = _
  unfold mm_fi
  by_cases e : 0 ≤ j ∧ j < 6
  · rw [if_pos ⟨rfl, e⟩, if_pos e]
  · rw [if_neg (fun q => e q.2), if_neg e]
    exact congrFun (qE4 (b := 48) (by decide)) j
theorem qJ48 {Q : am_Ou → am_G → Prop} : am_C 296 146 [.ref 47, .int (Int32.ofInt (-1)), .int (Int32.ofInt (1))] (qH47 L xs z) Q ↔ Q (.inl (some (.int (Int32.ofInt (sp_fr (qM5 (mm_tr 2 + 1))))))) (qH48 L xs z) := c_146 (d := 286) (w := (L, xs, z, qP3)) (μ := qM5) (z := 2) (b := -1) (r := 1) qT2 (by unfold mm_tp; rw [qR2]; exact q_tp) (by rw [mm_us3, qR2]; exact q_wf)
theorem qE6 {b : Nat} (h : b < 35 ∨ 52 < b) : qM6 b = qI b := (q_gr (zt := 2) (by decide) qR2).1 b (by rw [show mm_tr 2 = 47 from rfl]; omega) |>.trans ((q_fio (by omega)).trans (qE4 (by omega)))
theorem qO48 : am_oc (qH47 L xs z) 47 = some 10 := mm_oc (w := (L, xs, z, qP3)) (by decide) rfl rfl
set_option maxRecDepth 20000 in
theorem qC3 {Q : am_Ou → am_G → Prop} : am_C 297 142 [.ref 47] (qH35 L xs z) Q ↔ Q (.inl none) (qH48 L xs z) := by
  rw [am_C_in (d := 296) (by simp [am_arg, m_142, Value.category]), show am_loc 142 [.ref 47] = [some (.ref 47)] from by simp [am_loc, am_arg, m_142, Value.category, List.replicate]]
  rw [x_142_0, lc_A_0, x_142_1, am_obj v_142_3 (by simp), am_K_go, x_142_4, lc_A_0, x_142_5, show ((6 : Int32)) = Int32.ofInt (6) from by decide, x_142_7, qJ36, am_K_go, y_142_9, qJ37, am_kg_some, x_142_12, lc_A_0, x_142_13, show ((6 : Int32)) = Int32.ofInt (6) from by decide, x_142_15, qJ38, am_K_go, y_142_17, qJ39, am_kg_some, x_142_20, lc_A_0, x_142_21, show ((6 : Int32)) = Int32.ofInt (6) from by decide, x_142_23, qJ40, am_K_go, y_142_25, qJ41, am_kg_some, x_142_28, lc_A_0, x_142_29, show ((6 : Int32)) = Int32.ofInt (6) from by decide, x_142_31, qJ42, am_K_go, y_142_33, qJ43, am_kg_some, x_142_36, lc_A_0, x_142_37, show ((6 : Int32)) = Int32.ofInt (6) from by decide, x_142_39, qJ44, am_K_go, y_142_41, qJ45, am_kg_some, x_142_44, lc_A_0, x_142_45, qG6, am_kv_some, qJ46, x_142_48, show ((-2 : Int32)) = Int32.ofInt (-2) from by decide, z_142_50 (by simp), qJ47, bk_n, x_142_53, lc_A_0, x_142_54, show ((-1 : Int32)) = Int32.ofInt (-1) from by decide, x_142_55, show ((1 : Int32)) = Int32.ofInt (1) from by decide, z_142_56 (by simp) qO48, qJ48, bk_v, x_142_59, if_pos (by rfl), x_142_60]
def qF4 : Nat → Option Nat := va_up qF3 2 (some 47)
def qX40 : mm_X := fun b => if b = 34 then some (.inl (.object "ModelSheet$Tree", 3, .inr (.inr (.inr (.inr qF4))))) else qX39 b
def qH49 (L : Nat) (xs : Nat → Int32) (z : Value) : am_G := mm_hp (L, xs, z, qP3) qM6 qX40 (53, 601003, 7292909)
theorem qJ49 : am_sat .aastore (qH48 L xs z) 34 (Int32.ofInt 2) (.ref 47) = some (qH49 L xs z) := qaas (w := (L, xs, z, qP3)) (μ := qM6) (X := qX39) (n := (53, 601003, 7292909)) (f := qF3) (c := 10) (by decide) rfl rfl rfl (mm_oc (by decide) rfl rfl) (by decide) rfl rfl
set_option maxRecDepth 20000 in
theorem qC4 {Q : am_Ou → am_G → Prop} : am_C 298 124 [.ref 33] (qH2 L xs z) Q ↔ Q (.inl none) (qH49 L xs z) := by
  rw [am_C_in (d := 297) (by simp [am_arg, m_124, Value.category]), show am_loc 124 [.ref 33] = [some (.ref 33), none] from by simp [am_loc, am_arg, m_124, Value.category, List.replicate]]
  rw [x_124_0, lc_A_0, x_124_1, am_obj v_124_3 (by simp), am_K_go, x_124_4, lc_A_0, x_124_5, show ((3 : Int32)) = Int32.ofInt (3) from by decide, x_124_6, qJ3, am_K_go, y_124_9, qJ4, am_kg_some, x_124_12, show ((0 : Int32)) = Int32.ofInt (0) from by decide, x_124_13, sc_I_1 (by rfl), x_124_14, lc_I_1, x_124_15, show ((3 : Int32)) = Int32.ofInt (3) from by decide, x_124_16, am_cmp_ge, am_E_ite, if_neg (by decide), x_124_19, lc_A_0, x_124_20, qG1, am_kv_some, x_124_23, lc_I_1, x_124_24, qJ5, am_K_go, x_124_27, if_pos (by rfl), z_124_28 (by simp), qC1, bk_n, x_124_31, qJ19, am_kg_some, x_124_32 rfl (by decide), s1_1 (by rfl), show ((1 : Int32)) = Int32.ofInt (1) from by decide, mm_ad, show (0 : Int) + 1 = 1 from rfl, x_124_35, x_124_14, lc_I_1, x_124_15, show ((3 : Int32)) = Int32.ofInt (3) from by decide, x_124_16, am_cmp_ge, am_E_ite, if_neg (by decide), x_124_19, lc_A_0, x_124_20, qG3, am_kv_some, x_124_23, lc_I_1, x_124_24, qJ20, am_K_go, x_124_27, if_pos (by rfl), z_124_28 (by simp), qC2, bk_n, x_124_31, qJ34, am_kg_some, x_124_32 rfl (by decide), s1_1 (by rfl), show ((1 : Int32)) = Int32.ofInt (1) from by decide, mm_ad, show (1 : Int) + 1 = 2 from rfl, x_124_35, x_124_14, lc_I_1, x_124_15, show ((3 : Int32)) = Int32.ofInt (3) from by decide, x_124_16, am_cmp_ge, am_E_ite, if_neg (by decide), x_124_19, lc_A_0, x_124_20, qG5, am_kv_some, x_124_23, lc_I_1, x_124_24, qJ35, am_K_go, x_124_27, if_pos (by rfl), z_124_28 (by simp), qC3, bk_n, x_124_31, qJ49, am_kg_some, x_124_32 rfl (by decide), s1_1 (by rfl), show ((1 : Int32)) = Int32.ofInt (1) from by decide, mm_ad, show (2 : Int) + 1 = 3 from rfl, x_124_35, x_124_14, lc_I_1, x_124_15, show ((3 : Int32)) = Int32.ofInt (3) from by decide, x_124_16, am_cmp_ge, am_E_ite, if_pos (by decide), x_124_38]
def qV22 : Nat → Value := fun k => defaultValue (am_ft 7 k).1
def qX41 : mm_X := fun b => if b = 53 then some (.inr (7, qV22)) else qX40 b
def qH50 (L : Nat) (xs : Nat → Int32) (z : Value) : am_G := mm_hp (L, xs, z, qP3) qM6 qX41 (54, 601002, 7292907)
theorem qS50 : am_psh (qH49 L xs z) (.inr (7, qV22)) 2 = (qH50 L xs z) := qpsh (w := (L, xs, z, qP3)) (μ := qM6) (X := qX40) (n := (53, 601003, 7292909)) (by decide) rfl rfl rfl
theorem qJ50 : am_S 23 (.new 10) 12 Lc st (qH49 L xs z) = am_go 15 Lc (.ref 53 :: st) (qH50 L xs z) := qnew w_23_10 (show 1 ≤ 601003 by decide) (show am_nf 7 ≤ 7292909 by decide) rfl qS50 rfl
def qF5 : Nat → Option Nat := fun _ => none
def qX42 : mm_X := fun b => if b = 54 then some (.inl (.object "ModelSheet$Rule", 8, .inr (.inr (.inr (.inr qF5))))) else qX41 b
def qH51 (L : Nat) (xs : Nat → Int32) (z : Value) : am_G := mm_hp (L, xs, z, qP3) qM6 qX42 (55, 601001, 7292899)
theorem qS51 : am_psh (qH50 L xs z) (.inl (.object "ModelSheet$Rule", 8, .inr (.inr (.inr (.inr qF5))))) 8 = (qH51 L xs z) := qpsh (w := (L, xs, z, qP3)) (μ := qM6) (X := qX41) (n := (54, 601002, 7292907)) (by decide) rfl rfl rfl
theorem qJ51 : am_S 118 (.anewarray 9) 7 Lc (.int (Int32.ofInt 8) :: st) (qH50 L xs z) = am_go 10 Lc (.ref 54 :: st) (qH51 L xs z) := qana (by decide) (by decide) (by decide) (by decide +kernel) (show 1 ≤ 601002 by decide) (show 8 ≤ 7292907 by decide) rfl qS51 rfl
def qV23 : Nat → Value := updV qV22 0 (.ref 54)
def qX43 : mm_X := fun b => if b = 53 then some (.inr (7, qV23)) else qX42 b
def qH52 (L : Nat) (xs : Nat → Int32) (z : Value) : am_G := mm_hp (L, xs, z, qP3) qM6 qX43 (55, 601001, 7292899)
theorem qJ52 : am_pf (qH51 L xs z) 53 7 0 (.ref 54) = some (qH52 L xs z) := qpf (w := (L, xs, z, qP3)) (μ := qM6) (X := qX42) (n := (55, 601001, 7292899)) (V := qV22) (by decide) rfl rfl rfl
theorem qG7 : am_gf (qH52 L xs z) 53 7 0 = some (.ref 54) := (qgf (w := (L, xs, z, qP3)) (μ := qM6) (X := qX43) (n := (55, 601001, 7292899)) (V := qV23) (by decide) rfl rfl).trans rfl
def qV24 : Nat → Value := fun k => defaultValue (am_ft 6 k).1
def qX44 : mm_X := fun b => if b = 55 then some (.inr (6, qV24)) else qX43 b
def qH53 (L : Nat) (xs : Nat → Int32) (z : Value) : am_G := mm_hp (L, xs, z, qP3) qM6 qX44 (56, 601000, 7292894)
theorem qS53 : am_psh (qH52 L xs z) (.inr (6, qV24)) 5 = (qH53 L xs z) := qpsh (w := (L, xs, z, qP3)) (μ := qM6) (X := qX43) (n := (55, 601001, 7292899)) (by decide) rfl rfl rfl
theorem qJ53 : am_S 118 (.new 9) 26 Lc st (qH52 L xs z) = am_go 29 Lc (.ref 55 :: st) (qH53 L xs z) := qnew w_118_9 (show 1 ≤ 601001 by decide) (show am_nf 6 ≤ 7292899 by decide) rfl qS53 rfl
def qX45 : mm_X := fun b => if b = 56 then some (.inl (.int, 3, .inl fun _ => 0)) else qX44 b
def qH54 (L : Nat) (xs : Nat → Int32) (z : Value) : am_G := mm_hp (L, xs, z, qP3) qM6 qX45 (57, 600999, 7292891)
theorem qS54 : am_psh (qH53 L xs z) (.inl (.int, 3, .inl fun _ => 0)) 3 = (qH54 L xs z) := qpsh (w := (L, xs, z, qP3)) (μ := qM6) (X := qX44) (n := (56, 601000, 7292894)) (by decide) rfl rfl rfl
theorem qJ54 : am_S 107 (.newarray .int) 6 Lc (.int (Int32.ofInt 3) :: st) (qH53 L xs z) = am_go 8 Lc (.ref 56 :: st) (qH54 L xs z) := qnwa (by decide) (by decide) (by decide) rfl (show 1 ≤ 601000 by decide) (show 3 ≤ 7292894 by decide) rfl qS54 rfl
def qV25 : Nat → Value := updV qV24 0 (.ref 56)
def qX46 : mm_X := fun b => if b = 55 then some (.inr (6, qV25)) else qX45 b
def qH55 (L : Nat) (xs : Nat → Int32) (z : Value) : am_G := mm_hp (L, xs, z, qP3) qM6 qX46 (57, 600999, 7292891)
theorem qJ55 : am_pf (qH54 L xs z) 55 6 0 (.ref 56) = some (qH55 L xs z) := qpf (w := (L, xs, z, qP3)) (μ := qM6) (X := qX45) (n := (57, 600999, 7292891)) (V := qV24) (by decide) rfl rfl rfl
def qX47 : mm_X := fun b => if b = 57 then some (.inl (.int, 3, .inl fun _ => 0)) else qX46 b
def qH56 (L : Nat) (xs : Nat → Int32) (z : Value) : am_G := mm_hp (L, xs, z, qP3) qM6 qX47 (58, 600998, 7292888)
theorem qS56 : am_psh (qH55 L xs z) (.inl (.int, 3, .inl fun _ => 0)) 3 = (qH56 L xs z) := qpsh (w := (L, xs, z, qP3)) (μ := qM6) (X := qX46) (n := (57, 600999, 7292891)) (by decide) rfl rfl rfl
theorem qJ56 : am_S 107 (.newarray .int) 13 Lc (.int (Int32.ofInt 3) :: st) (qH55 L xs z) = am_go 15 Lc (.ref 57 :: st) (qH56 L xs z) := qnwa (by decide) (by decide) (by decide) rfl (show 1 ≤ 600999 by decide) (show 3 ≤ 7292891 by decide) rfl qS56 rfl
def qV26 : Nat → Value := updV qV25 1 (.ref 57)
def qX48 : mm_X := fun b => if b = 55 then some (.inr (6, qV26)) else qX47 b
def qH57 (L : Nat) (xs : Nat → Int32) (z : Value) : am_G := mm_hp (L, xs, z, qP3) qM6 qX48 (58, 600998, 7292888)
theorem qJ57 : am_pf (qH56 L xs z) 55 6 1 (.ref 57) = some (qH57 L xs z) := qpf (w := (L, xs, z, qP3)) (μ := qM6) (X := qX47) (n := (58, 600998, 7292888)) (V := qV25) (by decide) rfl rfl rfl
def qX49 : mm_X := fun b => if b = 58 then some (.inl (.int, 24, .inl fun _ => 0)) else qX48 b
def qH58 (L : Nat) (xs : Nat → Int32) (z : Value) : am_G := mm_hp (L, xs, z, qP3) qM6 qX49 (59, 600997, 7292864)
theorem qS58 : am_psh (qH57 L xs z) (.inl (.int, 24, .inl fun _ => 0)) 24 = (qH58 L xs z) := qpsh (w := (L, xs, z, qP3)) (μ := qM6) (X := qX48) (n := (58, 600998, 7292888)) (by decide) rfl rfl rfl
theorem qJ58 : am_S 107 (.newarray .int) 21 Lc (.int (Int32.ofInt 24) :: st) (qH57 L xs z) = am_go 23 Lc (.ref 58 :: st) (qH58 L xs z) := qnwa (by decide) (by decide) (by decide) rfl (show 1 ≤ 600998 by decide) (show 24 ≤ 7292888 by decide) rfl qS58 rfl
def qV27 : Nat → Value := updV qV26 2 (.ref 58)
def qX50 : mm_X := fun b => if b = 55 then some (.inr (6, qV27)) else qX49 b
def qH59 (L : Nat) (xs : Nat → Int32) (z : Value) : am_G := mm_hp (L, xs, z, qP3) qM6 qX50 (59, 600997, 7292864)
theorem qJ59 : am_pf (qH58 L xs z) 55 6 2 (.ref 58) = some (qH59 L xs z) := qpf (w := (L, xs, z, qP3)) (μ := qM6) (X := qX49) (n := (59, 600997, 7292864)) (V := qV26) (by decide) rfl rfl rfl
def qX51 : mm_X := fun b => if b = 59 then some (.inl (.int, 24, .inl fun _ => 0)) else qX50 b
def qH60 (L : Nat) (xs : Nat → Int32) (z : Value) : am_G := mm_hp (L, xs, z, qP3) qM6 qX51 (60, 600996, 7292840)
theorem qS60 : am_psh (qH59 L xs z) (.inl (.int, 24, .inl fun _ => 0)) 24 = (qH60 L xs z) := qpsh (w := (L, xs, z, qP3)) (μ := qM6) (X := qX50) (n := (59, 600997, 7292864)) (by decide) rfl rfl rfl
theorem qJ60 : am_S 107 (.newarray .int) 29 Lc (.int (Int32.ofInt 24) :: st) (qH59 L xs z) = am_go 31 Lc (.ref 59 :: st) (qH60 L xs z) := qnwa (by decide) (by decide) (by decide) rfl (show 1 ≤ 600997 by decide) (show 24 ≤ 7292864 by decide) rfl qS60 rfl
def qV28 : Nat → Value := updV qV27 3 (.ref 59)
def qX52 : mm_X := fun b => if b = 55 then some (.inr (6, qV28)) else qX51 b
def qH61 (L : Nat) (xs : Nat → Int32) (z : Value) : am_G := mm_hp (L, xs, z, qP3) qM6 qX52 (60, 600996, 7292840)
theorem qJ61 : am_pf (qH60 L xs z) 55 6 3 (.ref 59) = some (qH61 L xs z) := qpf (w := (L, xs, z, qP3)) (μ := qM6) (X := qX51) (n := (60, 600996, 7292840)) (V := qV27) (by decide) rfl rfl rfl
set_option maxRecDepth 20000 in
theorem qC5 {Q : am_Ou → am_G → Prop} : am_C 297 107 [.ref 55] (qH53 L xs z) Q ↔ Q (.inl none) (qH61 L xs z) := by
  rw [am_C_in (d := 296) (by simp [am_arg, m_107, Value.category]), show am_loc 107 [.ref 55] = [some (.ref 55)] from by simp [am_loc, am_arg, m_107, Value.category, List.replicate]]
  rw [x_107_0, lc_A_0, x_107_1, am_obj v_107_3 (by simp), am_K_go, x_107_4, lc_A_0, x_107_5, show ((3 : Int32)) = Int32.ofInt (3) from by decide, x_107_6, qJ54, am_K_go, y_107_8, qJ55, am_kg_some, x_107_11, lc_A_0, x_107_12, show ((3 : Int32)) = Int32.ofInt (3) from by decide, x_107_13, qJ56, am_K_go, y_107_15, qJ57, am_kg_some, x_107_18, lc_A_0, x_107_19, show ((24 : Int32)) = Int32.ofInt (24) from by decide, x_107_21, qJ58, am_K_go, y_107_23, qJ59, am_kg_some, x_107_26, lc_A_0, x_107_27, show ((24 : Int32)) = Int32.ofInt (24) from by decide, x_107_29, qJ60, am_K_go, y_107_31, qJ61, am_kg_some, x_107_34]
def qF6 : Nat → Option Nat := va_up qF5 0 (some 55)
def qX53 : mm_X := fun b => if b = 54 then some (.inl (.object "ModelSheet$Rule", 8, .inr (.inr (.inr (.inr qF6))))) else qX52 b
def qH62 (L : Nat) (xs : Nat → Int32) (z : Value) : am_G := mm_hp (L, xs, z, qP3) qM6 qX53 (60, 600996, 7292840)
theorem qJ62 : am_sat .aastore (qH61 L xs z) 54 (Int32.ofInt 0) (.ref 55) = some (qH62 L xs z) := qaas (w := (L, xs, z, qP3)) (μ := qM6) (X := qX52) (n := (60, 600996, 7292840)) (f := qF5) (c := 6) (by decide) rfl rfl rfl (qoc (V := qV28) (by decide) rfl rfl) (by decide) rfl rfl
theorem qG8 : am_gf (qH62 L xs z) 53 7 0 = some (.ref 54) := (qgf (w := (L, xs, z, qP3)) (μ := qM6) (X := qX53) (n := (60, 600996, 7292840)) (V := qV23) (by decide) rfl rfl).trans rfl
def qV29 : Nat → Value := fun k => defaultValue (am_ft 6 k).1
def qX54 : mm_X := fun b => if b = 60 then some (.inr (6, qV29)) else qX53 b
def qH63 (L : Nat) (xs : Nat → Int32) (z : Value) : am_G := mm_hp (L, xs, z, qP3) qM6 qX54 (61, 600995, 7292835)
theorem qS63 : am_psh (qH62 L xs z) (.inr (6, qV29)) 5 = (qH63 L xs z) := qpsh (w := (L, xs, z, qP3)) (μ := qM6) (X := qX53) (n := (60, 600996, 7292840)) (by decide) rfl rfl rfl
theorem qJ63 : am_S 118 (.new 9) 26 Lc st (qH62 L xs z) = am_go 29 Lc (.ref 60 :: st) (qH63 L xs z) := qnew w_118_9 (show 1 ≤ 600996 by decide) (show am_nf 6 ≤ 7292840 by decide) rfl qS63 rfl
def qX55 : mm_X := fun b => if b = 61 then some (.inl (.int, 3, .inl fun _ => 0)) else qX54 b
def qH64 (L : Nat) (xs : Nat → Int32) (z : Value) : am_G := mm_hp (L, xs, z, qP3) qM6 qX55 (62, 600994, 7292832)
theorem qS64 : am_psh (qH63 L xs z) (.inl (.int, 3, .inl fun _ => 0)) 3 = (qH64 L xs z) := qpsh (w := (L, xs, z, qP3)) (μ := qM6) (X := qX54) (n := (61, 600995, 7292835)) (by decide) rfl rfl rfl
theorem qJ64 : am_S 107 (.newarray .int) 6 Lc (.int (Int32.ofInt 3) :: st) (qH63 L xs z) = am_go 8 Lc (.ref 61 :: st) (qH64 L xs z) := qnwa (by decide) (by decide) (by decide) rfl (show 1 ≤ 600995 by decide) (show 3 ≤ 7292835 by decide) rfl qS64 rfl
def qV30 : Nat → Value := updV qV29 0 (.ref 61)
def qX56 : mm_X := fun b => if b = 60 then some (.inr (6, qV30)) else qX55 b
def qH65 (L : Nat) (xs : Nat → Int32) (z : Value) : am_G := mm_hp (L, xs, z, qP3) qM6 qX56 (62, 600994, 7292832)
theorem qJ65 : am_pf (qH64 L xs z) 60 6 0 (.ref 61) = some (qH65 L xs z) := qpf (w := (L, xs, z, qP3)) (μ := qM6) (X := qX55) (n := (62, 600994, 7292832)) (V := qV29) (by decide) rfl rfl rfl
def qX57 : mm_X := fun b => if b = 62 then some (.inl (.int, 3, .inl fun _ => 0)) else qX56 b
def qH66 (L : Nat) (xs : Nat → Int32) (z : Value) : am_G := mm_hp (L, xs, z, qP3) qM6 qX57 (63, 600993, 7292829)
theorem qS66 : am_psh (qH65 L xs z) (.inl (.int, 3, .inl fun _ => 0)) 3 = (qH66 L xs z) := qpsh (w := (L, xs, z, qP3)) (μ := qM6) (X := qX56) (n := (62, 600994, 7292832)) (by decide) rfl rfl rfl
theorem qJ66 : am_S 107 (.newarray .int) 13 Lc (.int (Int32.ofInt 3) :: st) (qH65 L xs z) = am_go 15 Lc (.ref 62 :: st) (qH66 L xs z) := qnwa (by decide) (by decide) (by decide) rfl (show 1 ≤ 600994 by decide) (show 3 ≤ 7292832 by decide) rfl qS66 rfl
def qV31 : Nat → Value := updV qV30 1 (.ref 62)
def qX58 : mm_X := fun b => if b = 60 then some (.inr (6, qV31)) else qX57 b
def qH67 (L : Nat) (xs : Nat → Int32) (z : Value) : am_G := mm_hp (L, xs, z, qP3) qM6 qX58 (63, 600993, 7292829)
theorem qJ67 : am_pf (qH66 L xs z) 60 6 1 (.ref 62) = some (qH67 L xs z) := qpf (w := (L, xs, z, qP3)) (μ := qM6) (X := qX57) (n := (63, 600993, 7292829)) (V := qV30) (by decide) rfl rfl rfl
def qX59 : mm_X := fun b => if b = 63 then some (.inl (.int, 24, .inl fun _ => 0)) else qX58 b
def qH68 (L : Nat) (xs : Nat → Int32) (z : Value) : am_G := mm_hp (L, xs, z, qP3) qM6 qX59 (64, 600992, 7292805)
theorem qS68 : am_psh (qH67 L xs z) (.inl (.int, 24, .inl fun _ => 0)) 24 = (qH68 L xs z) := qpsh (w := (L, xs, z, qP3)) (μ := qM6) (X := qX58) (n := (63, 600993, 7292829)) (by decide) rfl rfl rfl
theorem qJ68 : am_S 107 (.newarray .int) 21 Lc (.int (Int32.ofInt 24) :: st) (qH67 L xs z) = am_go 23 Lc (.ref 63 :: st) (qH68 L xs z) := qnwa (by decide) (by decide) (by decide) rfl (show 1 ≤ 600993 by decide) (show 24 ≤ 7292829 by decide) rfl qS68 rfl
def qV32 : Nat → Value := updV qV31 2 (.ref 63)
def qX60 : mm_X := fun b => if b = 60 then some (.inr (6, qV32)) else qX59 b
def qH69 (L : Nat) (xs : Nat → Int32) (z : Value) : am_G := mm_hp (L, xs, z, qP3) qM6 qX60 (64, 600992, 7292805)
theorem qJ69 : am_pf (qH68 L xs z) 60 6 2 (.ref 63) = some (qH69 L xs z) := qpf (w := (L, xs, z, qP3)) (μ := qM6) (X := qX59) (n := (64, 600992, 7292805)) (V := qV31) (by decide) rfl rfl rfl
def qX61 : mm_X := fun b => if b = 64 then some (.inl (.int, 24, .inl fun _ => 0)) else qX60 b
def qH70 (L : Nat) (xs : Nat → Int32) (z : Value) : am_G := mm_hp (L, xs, z, qP3) qM6 qX61 (65, 600991, 7292781)
theorem qS70 : am_psh (qH69 L xs z) (.inl (.int, 24, .inl fun _ => 0)) 24 = (qH70 L xs z) := qpsh (w := (L, xs, z, qP3)) (μ := qM6) (X := qX60) (n := (64, 600992, 7292805)) (by decide) rfl rfl rfl
theorem qJ70 : am_S 107 (.newarray .int) 29 Lc (.int (Int32.ofInt 24) :: st) (qH69 L xs z) = am_go 31 Lc (.ref 64 :: st) (qH70 L xs z) := qnwa (by decide) (by decide) (by decide) rfl (show 1 ≤ 600992 by decide) (show 24 ≤ 7292805 by decide) rfl qS70 rfl
def qV33 : Nat → Value := updV qV32 3 (.ref 64)
def qX62 : mm_X := fun b => if b = 60 then some (.inr (6, qV33)) else qX61 b
def qH71 (L : Nat) (xs : Nat → Int32) (z : Value) : am_G := mm_hp (L, xs, z, qP3) qM6 qX62 (65, 600991, 7292781)
theorem qJ71 : am_pf (qH70 L xs z) 60 6 3 (.ref 64) = some (qH71 L xs z) := qpf (w := (L, xs, z, qP3)) (μ := qM6) (X := qX61) (n := (65, 600991, 7292781)) (V := qV32) (by decide) rfl rfl rfl
set_option maxRecDepth 20000 in
theorem qC6 {Q : am_Ou → am_G → Prop} : am_C 297 107 [.ref 60] (qH63 L xs z) Q ↔ Q (.inl none) (qH71 L xs z) := by
  rw [am_C_in (d := 296) (by simp [am_arg, m_107, Value.category]), show am_loc 107 [.ref 60] = [some (.ref 60)] from by simp [am_loc, am_arg, m_107, Value.category, List.replicate]]
  rw [x_107_0, lc_A_0, x_107_1, am_obj v_107_3 (by simp), am_K_go, x_107_4, lc_A_0, x_107_5, show ((3 : Int32)) = Int32.ofInt (3) from by decide, x_107_6, qJ64, am_K_go, y_107_8, qJ65, am_kg_some, x_107_11, lc_A_0, x_107_12, show ((3 : Int32)) = Int32.ofInt (3) from by decide, x_107_13, qJ66, am_K_go, y_107_15, qJ67, am_kg_some, x_107_18, lc_A_0, x_107_19, show ((24 : Int32)) = Int32.ofInt (24) from by decide, x_107_21, qJ68, am_K_go, y_107_23, qJ69, am_kg_some, x_107_26, lc_A_0, x_107_27, show ((24 : Int32)) = Int32.ofInt (24) from by decide, x_107_29, qJ70, am_K_go, y_107_31, qJ71, am_kg_some, x_107_34]
def qF7 : Nat → Option Nat := va_up qF6 1 (some 60)
def qX63 : mm_X := fun b => if b = 54 then some (.inl (.object "ModelSheet$Rule", 8, .inr (.inr (.inr (.inr qF7))))) else qX62 b
def qH72 (L : Nat) (xs : Nat → Int32) (z : Value) : am_G := mm_hp (L, xs, z, qP3) qM6 qX63 (65, 600991, 7292781)
theorem qJ72 : am_sat .aastore (qH71 L xs z) 54 (Int32.ofInt 1) (.ref 60) = some (qH72 L xs z) := qaas (w := (L, xs, z, qP3)) (μ := qM6) (X := qX62) (n := (65, 600991, 7292781)) (f := qF6) (c := 6) (by decide) rfl rfl rfl (qoc (V := qV33) (by decide) rfl rfl) (by decide) rfl rfl
theorem qG9 : am_gf (qH72 L xs z) 53 7 0 = some (.ref 54) := (qgf (w := (L, xs, z, qP3)) (μ := qM6) (X := qX63) (n := (65, 600991, 7292781)) (V := qV23) (by decide) rfl rfl).trans rfl
def qV34 : Nat → Value := fun k => defaultValue (am_ft 6 k).1
def qX64 : mm_X := fun b => if b = 65 then some (.inr (6, qV34)) else qX63 b
def qH73 (L : Nat) (xs : Nat → Int32) (z : Value) : am_G := mm_hp (L, xs, z, qP3) qM6 qX64 (66, 600990, 7292776)
theorem qS73 : am_psh (qH72 L xs z) (.inr (6, qV34)) 5 = (qH73 L xs z) := qpsh (w := (L, xs, z, qP3)) (μ := qM6) (X := qX63) (n := (65, 600991, 7292781)) (by decide) rfl rfl rfl
theorem qJ73 : am_S 118 (.new 9) 26 Lc st (qH72 L xs z) = am_go 29 Lc (.ref 65 :: st) (qH73 L xs z) := qnew w_118_9 (show 1 ≤ 600991 by decide) (show am_nf 6 ≤ 7292781 by decide) rfl qS73 rfl
def qX65 : mm_X := fun b => if b = 66 then some (.inl (.int, 3, .inl fun _ => 0)) else qX64 b
def qH74 (L : Nat) (xs : Nat → Int32) (z : Value) : am_G := mm_hp (L, xs, z, qP3) qM6 qX65 (67, 600989, 7292773)
theorem qS74 : am_psh (qH73 L xs z) (.inl (.int, 3, .inl fun _ => 0)) 3 = (qH74 L xs z) := qpsh (w := (L, xs, z, qP3)) (μ := qM6) (X := qX64) (n := (66, 600990, 7292776)) (by decide) rfl rfl rfl
theorem qJ74 : am_S 107 (.newarray .int) 6 Lc (.int (Int32.ofInt 3) :: st) (qH73 L xs z) = am_go 8 Lc (.ref 66 :: st) (qH74 L xs z) := qnwa (by decide) (by decide) (by decide) rfl (show 1 ≤ 600990 by decide) (show 3 ≤ 7292776 by decide) rfl qS74 rfl
def qV35 : Nat → Value := updV qV34 0 (.ref 66)
def qX66 : mm_X := fun b => if b = 65 then some (.inr (6, qV35)) else qX65 b
def qH75 (L : Nat) (xs : Nat → Int32) (z : Value) : am_G := mm_hp (L, xs, z, qP3) qM6 qX66 (67, 600989, 7292773)
theorem qJ75 : am_pf (qH74 L xs z) 65 6 0 (.ref 66) = some (qH75 L xs z) := qpf (w := (L, xs, z, qP3)) (μ := qM6) (X := qX65) (n := (67, 600989, 7292773)) (V := qV34) (by decide) rfl rfl rfl
def qX67 : mm_X := fun b => if b = 67 then some (.inl (.int, 3, .inl fun _ => 0)) else qX66 b
def qH76 (L : Nat) (xs : Nat → Int32) (z : Value) : am_G := mm_hp (L, xs, z, qP3) qM6 qX67 (68, 600988, 7292770)
theorem qS76 : am_psh (qH75 L xs z) (.inl (.int, 3, .inl fun _ => 0)) 3 = (qH76 L xs z) := qpsh (w := (L, xs, z, qP3)) (μ := qM6) (X := qX66) (n := (67, 600989, 7292773)) (by decide) rfl rfl rfl
theorem qJ76 : am_S 107 (.newarray .int) 13 Lc (.int (Int32.ofInt 3) :: st) (qH75 L xs z) = am_go 15 Lc (.ref 67 :: st) (qH76 L xs z) := qnwa (by decide) (by decide) (by decide) rfl (show 1 ≤ 600989 by decide) (show 3 ≤ 7292773 by decide) rfl qS76 rfl
def qV36 : Nat → Value := updV qV35 1 (.ref 67)
def qX68 : mm_X := fun b => if b = 65 then some (.inr (6, qV36)) else qX67 b
def qH77 (L : Nat) (xs : Nat → Int32) (z : Value) : am_G := mm_hp (L, xs, z, qP3) qM6 qX68 (68, 600988, 7292770)
theorem qJ77 : am_pf (qH76 L xs z) 65 6 1 (.ref 67) = some (qH77 L xs z) := qpf (w := (L, xs, z, qP3)) (μ := qM6) (X := qX67) (n := (68, 600988, 7292770)) (V := qV35) (by decide) rfl rfl rfl
def qX69 : mm_X := fun b => if b = 68 then some (.inl (.int, 24, .inl fun _ => 0)) else qX68 b
def qH78 (L : Nat) (xs : Nat → Int32) (z : Value) : am_G := mm_hp (L, xs, z, qP3) qM6 qX69 (69, 600987, 7292746)
theorem qS78 : am_psh (qH77 L xs z) (.inl (.int, 24, .inl fun _ => 0)) 24 = (qH78 L xs z) := qpsh (w := (L, xs, z, qP3)) (μ := qM6) (X := qX68) (n := (68, 600988, 7292770)) (by decide) rfl rfl rfl
theorem qJ78 : am_S 107 (.newarray .int) 21 Lc (.int (Int32.ofInt 24) :: st) (qH77 L xs z) = am_go 23 Lc (.ref 68 :: st) (qH78 L xs z) := qnwa (by decide) (by decide) (by decide) rfl (show 1 ≤ 600988 by decide) (show 24 ≤ 7292770 by decide) rfl qS78 rfl
def qV37 : Nat → Value := updV qV36 2 (.ref 68)
def qX70 : mm_X := fun b => if b = 65 then some (.inr (6, qV37)) else qX69 b
def qH79 (L : Nat) (xs : Nat → Int32) (z : Value) : am_G := mm_hp (L, xs, z, qP3) qM6 qX70 (69, 600987, 7292746)
theorem qJ79 : am_pf (qH78 L xs z) 65 6 2 (.ref 68) = some (qH79 L xs z) := qpf (w := (L, xs, z, qP3)) (μ := qM6) (X := qX69) (n := (69, 600987, 7292746)) (V := qV36) (by decide) rfl rfl rfl
def qX71 : mm_X := fun b => if b = 69 then some (.inl (.int, 24, .inl fun _ => 0)) else qX70 b
def qH80 (L : Nat) (xs : Nat → Int32) (z : Value) : am_G := mm_hp (L, xs, z, qP3) qM6 qX71 (70, 600986, 7292722)
theorem qS80 : am_psh (qH79 L xs z) (.inl (.int, 24, .inl fun _ => 0)) 24 = (qH80 L xs z) := qpsh (w := (L, xs, z, qP3)) (μ := qM6) (X := qX70) (n := (69, 600987, 7292746)) (by decide) rfl rfl rfl
theorem qJ80 : am_S 107 (.newarray .int) 29 Lc (.int (Int32.ofInt 24) :: st) (qH79 L xs z) = am_go 31 Lc (.ref 69 :: st) (qH80 L xs z) := qnwa (by decide) (by decide) (by decide) rfl (show 1 ≤ 600987 by decide) (show 24 ≤ 7292746 by decide) rfl qS80 rfl
def qV38 : Nat → Value := updV qV37 3 (.ref 69)
def qX72 : mm_X := fun b => if b = 65 then some (.inr (6, qV38)) else qX71 b
def qH81 (L : Nat) (xs : Nat → Int32) (z : Value) : am_G := mm_hp (L, xs, z, qP3) qM6 qX72 (70, 600986, 7292722)
theorem qJ81 : am_pf (qH80 L xs z) 65 6 3 (.ref 69) = some (qH81 L xs z) := qpf (w := (L, xs, z, qP3)) (μ := qM6) (X := qX71) (n := (70, 600986, 7292722)) (V := qV37) (by decide) rfl rfl rfl
set_option maxRecDepth 20000 in
theorem qC7 {Q : am_Ou → am_G → Prop} : am_C 297 107 [.ref 65] (qH73 L xs z) Q ↔ Q (.inl none) (qH81 L xs z) := by
  rw [am_C_in (d := 296) (by simp [am_arg, m_107, Value.category]), show am_loc 107 [.ref 65] = [some (.ref 65)] from by simp [am_loc, am_arg, m_107, Value.category, List.replicate]]
  rw [x_107_0, lc_A_0, x_107_1, am_obj v_107_3 (by simp), am_K_go, x_107_4, lc_A_0, x_107_5, show ((3 : Int32)) = Int32.ofInt (3) from by decide, x_107_6, qJ74, am_K_go, y_107_8, qJ75, am_kg_some, x_107_11, lc_A_0, x_107_12, show ((3 : Int32)) = Int32.ofInt (3) from by decide, x_107_13, qJ76, am_K_go, y_107_15, qJ77, am_kg_some, x_107_18, lc_A_0, x_107_19, show ((24 : Int32)) = Int32.ofInt (24) from by decide, x_107_21, qJ78, am_K_go, y_107_23, qJ79, am_kg_some, x_107_26, lc_A_0, x_107_27, show ((24 : Int32)) = Int32.ofInt (24) from by decide, x_107_29, qJ80, am_K_go, y_107_31, qJ81, am_kg_some, x_107_34]
def qF8 : Nat → Option Nat := va_up qF7 2 (some 65)
def qX73 : mm_X := fun b => if b = 54 then some (.inl (.object "ModelSheet$Rule", 8, .inr (.inr (.inr (.inr qF8))))) else qX72 b
def qH82 (L : Nat) (xs : Nat → Int32) (z : Value) : am_G := mm_hp (L, xs, z, qP3) qM6 qX73 (70, 600986, 7292722)
theorem qJ82 : am_sat .aastore (qH81 L xs z) 54 (Int32.ofInt 2) (.ref 65) = some (qH82 L xs z) := qaas (w := (L, xs, z, qP3)) (μ := qM6) (X := qX72) (n := (70, 600986, 7292722)) (f := qF7) (c := 6) (by decide) rfl rfl rfl (qoc (V := qV38) (by decide) rfl rfl) (by decide) rfl rfl
theorem qG10 : am_gf (qH82 L xs z) 53 7 0 = some (.ref 54) := (qgf (w := (L, xs, z, qP3)) (μ := qM6) (X := qX73) (n := (70, 600986, 7292722)) (V := qV23) (by decide) rfl rfl).trans rfl
def qV39 : Nat → Value := fun k => defaultValue (am_ft 6 k).1
def qX74 : mm_X := fun b => if b = 70 then some (.inr (6, qV39)) else qX73 b
def qH83 (L : Nat) (xs : Nat → Int32) (z : Value) : am_G := mm_hp (L, xs, z, qP3) qM6 qX74 (71, 600985, 7292717)
theorem qS83 : am_psh (qH82 L xs z) (.inr (6, qV39)) 5 = (qH83 L xs z) := qpsh (w := (L, xs, z, qP3)) (μ := qM6) (X := qX73) (n := (70, 600986, 7292722)) (by decide) rfl rfl rfl
theorem qJ83 : am_S 118 (.new 9) 26 Lc st (qH82 L xs z) = am_go 29 Lc (.ref 70 :: st) (qH83 L xs z) := qnew w_118_9 (show 1 ≤ 600986 by decide) (show am_nf 6 ≤ 7292722 by decide) rfl qS83 rfl
def qX75 : mm_X := fun b => if b = 71 then some (.inl (.int, 3, .inl fun _ => 0)) else qX74 b
def qH84 (L : Nat) (xs : Nat → Int32) (z : Value) : am_G := mm_hp (L, xs, z, qP3) qM6 qX75 (72, 600984, 7292714)
theorem qS84 : am_psh (qH83 L xs z) (.inl (.int, 3, .inl fun _ => 0)) 3 = (qH84 L xs z) := qpsh (w := (L, xs, z, qP3)) (μ := qM6) (X := qX74) (n := (71, 600985, 7292717)) (by decide) rfl rfl rfl
theorem qJ84 : am_S 107 (.newarray .int) 6 Lc (.int (Int32.ofInt 3) :: st) (qH83 L xs z) = am_go 8 Lc (.ref 71 :: st) (qH84 L xs z) := qnwa (by decide) (by decide) (by decide) rfl (show 1 ≤ 600985 by decide) (show 3 ≤ 7292717 by decide) rfl qS84 rfl
def qV40 : Nat → Value := updV qV39 0 (.ref 71)
def qX76 : mm_X := fun b => if b = 70 then some (.inr (6, qV40)) else qX75 b
def qH85 (L : Nat) (xs : Nat → Int32) (z : Value) : am_G := mm_hp (L, xs, z, qP3) qM6 qX76 (72, 600984, 7292714)
theorem qJ85 : am_pf (qH84 L xs z) 70 6 0 (.ref 71) = some (qH85 L xs z) := qpf (w := (L, xs, z, qP3)) (μ := qM6) (X := qX75) (n := (72, 600984, 7292714)) (V := qV39) (by decide) rfl rfl rfl
def qX77 : mm_X := fun b => if b = 72 then some (.inl (.int, 3, .inl fun _ => 0)) else qX76 b
def qH86 (L : Nat) (xs : Nat → Int32) (z : Value) : am_G := mm_hp (L, xs, z, qP3) qM6 qX77 (73, 600983, 7292711)
theorem qS86 : am_psh (qH85 L xs z) (.inl (.int, 3, .inl fun _ => 0)) 3 = (qH86 L xs z) := qpsh (w := (L, xs, z, qP3)) (μ := qM6) (X := qX76) (n := (72, 600984, 7292714)) (by decide) rfl rfl rfl
theorem qJ86 : am_S 107 (.newarray .int) 13 Lc (.int (Int32.ofInt 3) :: st) (qH85 L xs z) = am_go 15 Lc (.ref 72 :: st) (qH86 L xs z) := qnwa (by decide) (by decide) (by decide) rfl (show 1 ≤ 600984 by decide) (show 3 ≤ 7292714 by decide) rfl qS86 rfl
def qV41 : Nat → Value := updV qV40 1 (.ref 72)
def qX78 : mm_X := fun b => if b = 70 then some (.inr (6, qV41)) else qX77 b
def qH87 (L : Nat) (xs : Nat → Int32) (z : Value) : am_G := mm_hp (L, xs, z, qP3) qM6 qX78 (73, 600983, 7292711)
theorem qJ87 : am_pf (qH86 L xs z) 70 6 1 (.ref 72) = some (qH87 L xs z) := qpf (w := (L, xs, z, qP3)) (μ := qM6) (X := qX77) (n := (73, 600983, 7292711)) (V := qV40) (by decide) rfl rfl rfl
def qX79 : mm_X := fun b => if b = 73 then some (.inl (.int, 24, .inl fun _ => 0)) else qX78 b
def qH88 (L : Nat) (xs : Nat → Int32) (z : Value) : am_G := mm_hp (L, xs, z, qP3) qM6 qX79 (74, 600982, 7292687)
theorem qS88 : am_psh (qH87 L xs z) (.inl (.int, 24, .inl fun _ => 0)) 24 = (qH88 L xs z) := qpsh (w := (L, xs, z, qP3)) (μ := qM6) (X := qX78) (n := (73, 600983, 7292711)) (by decide) rfl rfl rfl
theorem qJ88 : am_S 107 (.newarray .int) 21 Lc (.int (Int32.ofInt 24) :: st) (qH87 L xs z) = am_go 23 Lc (.ref 73 :: st) (qH88 L xs z) := qnwa (by decide) (by decide) (by decide) rfl (show 1 ≤ 600983 by decide) (show 24 ≤ 7292711 by decide) rfl qS88 rfl
def qV42 : Nat → Value := updV qV41 2 (.ref 73)
def qX80 : mm_X := fun b => if b = 70 then some (.inr (6, qV42)) else qX79 b
def qH89 (L : Nat) (xs : Nat → Int32) (z : Value) : am_G := mm_hp (L, xs, z, qP3) qM6 qX80 (74, 600982, 7292687)
theorem qJ89 : am_pf (qH88 L xs z) 70 6 2 (.ref 73) = some (qH89 L xs z) := qpf (w := (L, xs, z, qP3)) (μ := qM6) (X := qX79) (n := (74, 600982, 7292687)) (V := qV41) (by decide) rfl rfl rfl
def qX81 : mm_X := fun b => if b = 74 then some (.inl (.int, 24, .inl fun _ => 0)) else qX80 b
def qH90 (L : Nat) (xs : Nat → Int32) (z : Value) : am_G := mm_hp (L, xs, z, qP3) qM6 qX81 (75, 600981, 7292663)
theorem qS90 : am_psh (qH89 L xs z) (.inl (.int, 24, .inl fun _ => 0)) 24 = (qH90 L xs z) := qpsh (w := (L, xs, z, qP3)) (μ := qM6) (X := qX80) (n := (74, 600982, 7292687)) (by decide) rfl rfl rfl
theorem qJ90 : am_S 107 (.newarray .int) 29 Lc (.int (Int32.ofInt 24) :: st) (qH89 L xs z) = am_go 31 Lc (.ref 74 :: st) (qH90 L xs z) := qnwa (by decide) (by decide) (by decide) rfl (show 1 ≤ 600982 by decide) (show 24 ≤ 7292687 by decide) rfl qS90 rfl
def qV43 : Nat → Value := updV qV42 3 (.ref 74)
def qX82 : mm_X := fun b => if b = 70 then some (.inr (6, qV43)) else qX81 b
def qH91 (L : Nat) (xs : Nat → Int32) (z : Value) : am_G := mm_hp (L, xs, z, qP3) qM6 qX82 (75, 600981, 7292663)
theorem qJ91 : am_pf (qH90 L xs z) 70 6 3 (.ref 74) = some (qH91 L xs z) := qpf (w := (L, xs, z, qP3)) (μ := qM6) (X := qX81) (n := (75, 600981, 7292663)) (V := qV42) (by decide) rfl rfl rfl
set_option maxRecDepth 20000 in
theorem qC8 {Q : am_Ou → am_G → Prop} : am_C 297 107 [.ref 70] (qH83 L xs z) Q ↔ Q (.inl none) (qH91 L xs z) := by
  rw [am_C_in (d := 296) (by simp [am_arg, m_107, Value.category]), show am_loc 107 [.ref 70] = [some (.ref 70)] from by simp [am_loc, am_arg, m_107, Value.category, List.replicate]]
  rw [x_107_0, lc_A_0, x_107_1, am_obj v_107_3 (by simp), am_K_go, x_107_4, lc_A_0, x_107_5, show ((3 : Int32)) = Int32.ofInt (3) from by decide, x_107_6, qJ84, am_K_go, y_107_8, qJ85, am_kg_some, x_107_11, lc_A_0, x_107_12, show ((3 : Int32)) = Int32.ofInt (3) from by decide, x_107_13, qJ86, am_K_go, y_107_15, qJ87, am_kg_some, x_107_18, lc_A_0, x_107_19, show ((24 : Int32)) = Int32.ofInt (24) from by decide, x_107_21, qJ88, am_K_go, y_107_23, qJ89, am_kg_some, x_107_26, lc_A_0, x_107_27, show ((24 : Int32)) = Int32.ofInt (24) from by decide, x_107_29, qJ90, am_K_go, y_107_31, qJ91, am_kg_some, x_107_34]
def qF9 : Nat → Option Nat := va_up qF8 3 (some 70)
def qX83 : mm_X := fun b => if b = 54 then some (.inl (.object "ModelSheet$Rule", 8, .inr (.inr (.inr (.inr qF9))))) else qX82 b
def qH92 (L : Nat) (xs : Nat → Int32) (z : Value) : am_G := mm_hp (L, xs, z, qP3) qM6 qX83 (75, 600981, 7292663)
theorem qJ92 : am_sat .aastore (qH91 L xs z) 54 (Int32.ofInt 3) (.ref 70) = some (qH92 L xs z) := qaas (w := (L, xs, z, qP3)) (μ := qM6) (X := qX82) (n := (75, 600981, 7292663)) (f := qF8) (c := 6) (by decide) rfl rfl rfl (qoc (V := qV43) (by decide) rfl rfl) (by decide) rfl rfl
theorem qG11 : am_gf (qH92 L xs z) 53 7 0 = some (.ref 54) := (qgf (w := (L, xs, z, qP3)) (μ := qM6) (X := qX83) (n := (75, 600981, 7292663)) (V := qV23) (by decide) rfl rfl).trans rfl
def qV44 : Nat → Value := fun k => defaultValue (am_ft 6 k).1
def qX84 : mm_X := fun b => if b = 75 then some (.inr (6, qV44)) else qX83 b
def qH93 (L : Nat) (xs : Nat → Int32) (z : Value) : am_G := mm_hp (L, xs, z, qP3) qM6 qX84 (76, 600980, 7292658)
theorem qS93 : am_psh (qH92 L xs z) (.inr (6, qV44)) 5 = (qH93 L xs z) := qpsh (w := (L, xs, z, qP3)) (μ := qM6) (X := qX83) (n := (75, 600981, 7292663)) (by decide) rfl rfl rfl
theorem qJ93 : am_S 118 (.new 9) 26 Lc st (qH92 L xs z) = am_go 29 Lc (.ref 75 :: st) (qH93 L xs z) := qnew w_118_9 (show 1 ≤ 600981 by decide) (show am_nf 6 ≤ 7292663 by decide) rfl qS93 rfl
def qX85 : mm_X := fun b => if b = 76 then some (.inl (.int, 3, .inl fun _ => 0)) else qX84 b
def qH94 (L : Nat) (xs : Nat → Int32) (z : Value) : am_G := mm_hp (L, xs, z, qP3) qM6 qX85 (77, 600979, 7292655)
theorem qS94 : am_psh (qH93 L xs z) (.inl (.int, 3, .inl fun _ => 0)) 3 = (qH94 L xs z) := qpsh (w := (L, xs, z, qP3)) (μ := qM6) (X := qX84) (n := (76, 600980, 7292658)) (by decide) rfl rfl rfl
theorem qJ94 : am_S 107 (.newarray .int) 6 Lc (.int (Int32.ofInt 3) :: st) (qH93 L xs z) = am_go 8 Lc (.ref 76 :: st) (qH94 L xs z) := qnwa (by decide) (by decide) (by decide) rfl (show 1 ≤ 600980 by decide) (show 3 ≤ 7292658 by decide) rfl qS94 rfl
def qV45 : Nat → Value := updV qV44 0 (.ref 76)
def qX86 : mm_X := fun b => if b = 75 then some (.inr (6, qV45)) else qX85 b
def qH95 (L : Nat) (xs : Nat → Int32) (z : Value) : am_G := mm_hp (L, xs, z, qP3) qM6 qX86 (77, 600979, 7292655)
theorem qJ95 : am_pf (qH94 L xs z) 75 6 0 (.ref 76) = some (qH95 L xs z) := qpf (w := (L, xs, z, qP3)) (μ := qM6) (X := qX85) (n := (77, 600979, 7292655)) (V := qV44) (by decide) rfl rfl rfl
def qX87 : mm_X := fun b => if b = 77 then some (.inl (.int, 3, .inl fun _ => 0)) else qX86 b
def qH96 (L : Nat) (xs : Nat → Int32) (z : Value) : am_G := mm_hp (L, xs, z, qP3) qM6 qX87 (78, 600978, 7292652)
theorem qS96 : am_psh (qH95 L xs z) (.inl (.int, 3, .inl fun _ => 0)) 3 = (qH96 L xs z) := qpsh (w := (L, xs, z, qP3)) (μ := qM6) (X := qX86) (n := (77, 600979, 7292655)) (by decide) rfl rfl rfl
theorem qJ96 : am_S 107 (.newarray .int) 13 Lc (.int (Int32.ofInt 3) :: st) (qH95 L xs z) = am_go 15 Lc (.ref 77 :: st) (qH96 L xs z) := qnwa (by decide) (by decide) (by decide) rfl (show 1 ≤ 600979 by decide) (show 3 ≤ 7292655 by decide) rfl qS96 rfl
def qV46 : Nat → Value := updV qV45 1 (.ref 77)
def qX88 : mm_X := fun b => if b = 75 then some (.inr (6, qV46)) else qX87 b
def qH97 (L : Nat) (xs : Nat → Int32) (z : Value) : am_G := mm_hp (L, xs, z, qP3) qM6 qX88 (78, 600978, 7292652)
theorem qJ97 : am_pf (qH96 L xs z) 75 6 1 (.ref 77) = some (qH97 L xs z) := qpf (w := (L, xs, z, qP3)) (μ := qM6) (X := qX87) (n := (78, 600978, 7292652)) (V := qV45) (by decide) rfl rfl rfl
def qX89 : mm_X := fun b => if b = 78 then some (.inl (.int, 24, .inl fun _ => 0)) else qX88 b
def qH98 (L : Nat) (xs : Nat → Int32) (z : Value) : am_G := mm_hp (L, xs, z, qP3) qM6 qX89 (79, 600977, 7292628)
theorem qS98 : am_psh (qH97 L xs z) (.inl (.int, 24, .inl fun _ => 0)) 24 = (qH98 L xs z) := qpsh (w := (L, xs, z, qP3)) (μ := qM6) (X := qX88) (n := (78, 600978, 7292652)) (by decide) rfl rfl rfl
theorem qJ98 : am_S 107 (.newarray .int) 21 Lc (.int (Int32.ofInt 24) :: st) (qH97 L xs z) = am_go 23 Lc (.ref 78 :: st) (qH98 L xs z) := qnwa (by decide) (by decide) (by decide) rfl (show 1 ≤ 600978 by decide) (show 24 ≤ 7292652 by decide) rfl qS98 rfl
def qV47 : Nat → Value := updV qV46 2 (.ref 78)
def qX90 : mm_X := fun b => if b = 75 then some (.inr (6, qV47)) else qX89 b
def qH99 (L : Nat) (xs : Nat → Int32) (z : Value) : am_G := mm_hp (L, xs, z, qP3) qM6 qX90 (79, 600977, 7292628)
theorem qJ99 : am_pf (qH98 L xs z) 75 6 2 (.ref 78) = some (qH99 L xs z) := qpf (w := (L, xs, z, qP3)) (μ := qM6) (X := qX89) (n := (79, 600977, 7292628)) (V := qV46) (by decide) rfl rfl rfl
def qX91 : mm_X := fun b => if b = 79 then some (.inl (.int, 24, .inl fun _ => 0)) else qX90 b
def qH100 (L : Nat) (xs : Nat → Int32) (z : Value) : am_G := mm_hp (L, xs, z, qP3) qM6 qX91 (80, 600976, 7292604)
theorem qS100 : am_psh (qH99 L xs z) (.inl (.int, 24, .inl fun _ => 0)) 24 = (qH100 L xs z) := qpsh (w := (L, xs, z, qP3)) (μ := qM6) (X := qX90) (n := (79, 600977, 7292628)) (by decide) rfl rfl rfl
theorem qJ100 : am_S 107 (.newarray .int) 29 Lc (.int (Int32.ofInt 24) :: st) (qH99 L xs z) = am_go 31 Lc (.ref 79 :: st) (qH100 L xs z) := qnwa (by decide) (by decide) (by decide) rfl (show 1 ≤ 600977 by decide) (show 24 ≤ 7292628 by decide) rfl qS100 rfl
def qV48 : Nat → Value := updV qV47 3 (.ref 79)
def qX92 : mm_X := fun b => if b = 75 then some (.inr (6, qV48)) else qX91 b
def qH101 (L : Nat) (xs : Nat → Int32) (z : Value) : am_G := mm_hp (L, xs, z, qP3) qM6 qX92 (80, 600976, 7292604)
theorem qJ101 : am_pf (qH100 L xs z) 75 6 3 (.ref 79) = some (qH101 L xs z) := qpf (w := (L, xs, z, qP3)) (μ := qM6) (X := qX91) (n := (80, 600976, 7292604)) (V := qV47) (by decide) rfl rfl rfl
set_option maxRecDepth 20000 in
theorem qC9 {Q : am_Ou → am_G → Prop} : am_C 297 107 [.ref 75] (qH93 L xs z) Q ↔ Q (.inl none) (qH101 L xs z) := by
  rw [am_C_in (d := 296) (by simp [am_arg, m_107, Value.category]), show am_loc 107 [.ref 75] = [some (.ref 75)] from by simp [am_loc, am_arg, m_107, Value.category, List.replicate]]
  rw [x_107_0, lc_A_0, x_107_1, am_obj v_107_3 (by simp), am_K_go, x_107_4, lc_A_0, x_107_5, show ((3 : Int32)) = Int32.ofInt (3) from by decide, x_107_6, qJ94, am_K_go, y_107_8, qJ95, am_kg_some, x_107_11, lc_A_0, x_107_12, show ((3 : Int32)) = Int32.ofInt (3) from by decide, x_107_13, qJ96, am_K_go, y_107_15, qJ97, am_kg_some, x_107_18, lc_A_0, x_107_19, show ((24 : Int32)) = Int32.ofInt (24) from by decide, x_107_21, qJ98, am_K_go, y_107_23, qJ99, am_kg_some, x_107_26, lc_A_0, x_107_27, show ((24 : Int32)) = Int32.ofInt (24) from by decide, x_107_29, qJ100, am_K_go, y_107_31, qJ101, am_kg_some, x_107_34]
def qF10 : Nat → Option Nat := va_up qF9 4 (some 75)
def qX93 : mm_X := fun b => if b = 54 then some (.inl (.object "ModelSheet$Rule", 8, .inr (.inr (.inr (.inr qF10))))) else qX92 b
def qH102 (L : Nat) (xs : Nat → Int32) (z : Value) : am_G := mm_hp (L, xs, z, qP3) qM6 qX93 (80, 600976, 7292604)
theorem qJ102 : am_sat .aastore (qH101 L xs z) 54 (Int32.ofInt 4) (.ref 75) = some (qH102 L xs z) := qaas (w := (L, xs, z, qP3)) (μ := qM6) (X := qX92) (n := (80, 600976, 7292604)) (f := qF9) (c := 6) (by decide) rfl rfl rfl (qoc (V := qV48) (by decide) rfl rfl) (by decide) rfl rfl
theorem qG12 : am_gf (qH102 L xs z) 53 7 0 = some (.ref 54) := (qgf (w := (L, xs, z, qP3)) (μ := qM6) (X := qX93) (n := (80, 600976, 7292604)) (V := qV23) (by decide) rfl rfl).trans rfl
def qV49 : Nat → Value := fun k => defaultValue (am_ft 6 k).1
def qX94 : mm_X := fun b => if b = 80 then some (.inr (6, qV49)) else qX93 b
def qH103 (L : Nat) (xs : Nat → Int32) (z : Value) : am_G := mm_hp (L, xs, z, qP3) qM6 qX94 (81, 600975, 7292599)
theorem qS103 : am_psh (qH102 L xs z) (.inr (6, qV49)) 5 = (qH103 L xs z) := qpsh (w := (L, xs, z, qP3)) (μ := qM6) (X := qX93) (n := (80, 600976, 7292604)) (by decide) rfl rfl rfl
theorem qJ103 : am_S 118 (.new 9) 26 Lc st (qH102 L xs z) = am_go 29 Lc (.ref 80 :: st) (qH103 L xs z) := qnew w_118_9 (show 1 ≤ 600976 by decide) (show am_nf 6 ≤ 7292604 by decide) rfl qS103 rfl
def qX95 : mm_X := fun b => if b = 81 then some (.inl (.int, 3, .inl fun _ => 0)) else qX94 b
def qH104 (L : Nat) (xs : Nat → Int32) (z : Value) : am_G := mm_hp (L, xs, z, qP3) qM6 qX95 (82, 600974, 7292596)
theorem qS104 : am_psh (qH103 L xs z) (.inl (.int, 3, .inl fun _ => 0)) 3 = (qH104 L xs z) := qpsh (w := (L, xs, z, qP3)) (μ := qM6) (X := qX94) (n := (81, 600975, 7292599)) (by decide) rfl rfl rfl
theorem qJ104 : am_S 107 (.newarray .int) 6 Lc (.int (Int32.ofInt 3) :: st) (qH103 L xs z) = am_go 8 Lc (.ref 81 :: st) (qH104 L xs z) := qnwa (by decide) (by decide) (by decide) rfl (show 1 ≤ 600975 by decide) (show 3 ≤ 7292599 by decide) rfl qS104 rfl
def qV50 : Nat → Value := updV qV49 0 (.ref 81)
def qX96 : mm_X := fun b => if b = 80 then some (.inr (6, qV50)) else qX95 b
def qH105 (L : Nat) (xs : Nat → Int32) (z : Value) : am_G := mm_hp (L, xs, z, qP3) qM6 qX96 (82, 600974, 7292596)
theorem qJ105 : am_pf (qH104 L xs z) 80 6 0 (.ref 81) = some (qH105 L xs z) := qpf (w := (L, xs, z, qP3)) (μ := qM6) (X := qX95) (n := (82, 600974, 7292596)) (V := qV49) (by decide) rfl rfl rfl
def qX97 : mm_X := fun b => if b = 82 then some (.inl (.int, 3, .inl fun _ => 0)) else qX96 b
def qH106 (L : Nat) (xs : Nat → Int32) (z : Value) : am_G := mm_hp (L, xs, z, qP3) qM6 qX97 (83, 600973, 7292593)
theorem qS106 : am_psh (qH105 L xs z) (.inl (.int, 3, .inl fun _ => 0)) 3 = (qH106 L xs z) := qpsh (w := (L, xs, z, qP3)) (μ := qM6) (X := qX96) (n := (82, 600974, 7292596)) (by decide) rfl rfl rfl
theorem qJ106 : am_S 107 (.newarray .int) 13 Lc (.int (Int32.ofInt 3) :: st) (qH105 L xs z) = am_go 15 Lc (.ref 82 :: st) (qH106 L xs z) := qnwa (by decide) (by decide) (by decide) rfl (show 1 ≤ 600974 by decide) (show 3 ≤ 7292596 by decide) rfl qS106 rfl
def qV51 : Nat → Value := updV qV50 1 (.ref 82)
def qX98 : mm_X := fun b => if b = 80 then some (.inr (6, qV51)) else qX97 b
def qH107 (L : Nat) (xs : Nat → Int32) (z : Value) : am_G := mm_hp (L, xs, z, qP3) qM6 qX98 (83, 600973, 7292593)
theorem qJ107 : am_pf (qH106 L xs z) 80 6 1 (.ref 82) = some (qH107 L xs z) := qpf (w := (L, xs, z, qP3)) (μ := qM6) (X := qX97) (n := (83, 600973, 7292593)) (V := qV50) (by decide) rfl rfl rfl
def qX99 : mm_X := fun b => if b = 83 then some (.inl (.int, 24, .inl fun _ => 0)) else qX98 b
def qH108 (L : Nat) (xs : Nat → Int32) (z : Value) : am_G := mm_hp (L, xs, z, qP3) qM6 qX99 (84, 600972, 7292569)
theorem qS108 : am_psh (qH107 L xs z) (.inl (.int, 24, .inl fun _ => 0)) 24 = (qH108 L xs z) := qpsh (w := (L, xs, z, qP3)) (μ := qM6) (X := qX98) (n := (83, 600973, 7292593)) (by decide) rfl rfl rfl
theorem qJ108 : am_S 107 (.newarray .int) 21 Lc (.int (Int32.ofInt 24) :: st) (qH107 L xs z) = am_go 23 Lc (.ref 83 :: st) (qH108 L xs z) := qnwa (by decide) (by decide) (by decide) rfl (show 1 ≤ 600973 by decide) (show 24 ≤ 7292593 by decide) rfl qS108 rfl
def qV52 : Nat → Value := updV qV51 2 (.ref 83)
def qX100 : mm_X := fun b => if b = 80 then some (.inr (6, qV52)) else qX99 b
def qH109 (L : Nat) (xs : Nat → Int32) (z : Value) : am_G := mm_hp (L, xs, z, qP3) qM6 qX100 (84, 600972, 7292569)
theorem qJ109 : am_pf (qH108 L xs z) 80 6 2 (.ref 83) = some (qH109 L xs z) := qpf (w := (L, xs, z, qP3)) (μ := qM6) (X := qX99) (n := (84, 600972, 7292569)) (V := qV51) (by decide) rfl rfl rfl
def qX101 : mm_X := fun b => if b = 84 then some (.inl (.int, 24, .inl fun _ => 0)) else qX100 b
def qH110 (L : Nat) (xs : Nat → Int32) (z : Value) : am_G := mm_hp (L, xs, z, qP3) qM6 qX101 (85, 600971, 7292545)
theorem qS110 : am_psh (qH109 L xs z) (.inl (.int, 24, .inl fun _ => 0)) 24 = (qH110 L xs z) := qpsh (w := (L, xs, z, qP3)) (μ := qM6) (X := qX100) (n := (84, 600972, 7292569)) (by decide) rfl rfl rfl
theorem qJ110 : am_S 107 (.newarray .int) 29 Lc (.int (Int32.ofInt 24) :: st) (qH109 L xs z) = am_go 31 Lc (.ref 84 :: st) (qH110 L xs z) := qnwa (by decide) (by decide) (by decide) rfl (show 1 ≤ 600972 by decide) (show 24 ≤ 7292569 by decide) rfl qS110 rfl
def qV53 : Nat → Value := updV qV52 3 (.ref 84)
def qX102 : mm_X := fun b => if b = 80 then some (.inr (6, qV53)) else qX101 b
def qH111 (L : Nat) (xs : Nat → Int32) (z : Value) : am_G := mm_hp (L, xs, z, qP3) qM6 qX102 (85, 600971, 7292545)
theorem qJ111 : am_pf (qH110 L xs z) 80 6 3 (.ref 84) = some (qH111 L xs z) := qpf (w := (L, xs, z, qP3)) (μ := qM6) (X := qX101) (n := (85, 600971, 7292545)) (V := qV52) (by decide) rfl rfl rfl
set_option maxRecDepth 20000 in
theorem qC10 {Q : am_Ou → am_G → Prop} : am_C 297 107 [.ref 80] (qH103 L xs z) Q ↔ Q (.inl none) (qH111 L xs z) := by
  rw [am_C_in (d := 296) (by simp [am_arg, m_107, Value.category]), show am_loc 107 [.ref 80] = [some (.ref 80)] from by simp [am_loc, am_arg, m_107, Value.category, List.replicate]]
  rw [x_107_0, lc_A_0, x_107_1, am_obj v_107_3 (by simp), am_K_go, x_107_4, lc_A_0, x_107_5, show ((3 : Int32)) = Int32.ofInt (3) from by decide, x_107_6, qJ104, am_K_go, y_107_8, qJ105, am_kg_some, x_107_11, lc_A_0, x_107_12, show ((3 : Int32)) = Int32.ofInt (3) from by decide, x_107_13, qJ106, am_K_go, y_107_15, qJ107, am_kg_some, x_107_18, lc_A_0, x_107_19, show ((24 : Int32)) = Int32.ofInt (24) from by decide, x_107_21, qJ108, am_K_go, y_107_23, qJ109, am_kg_some, x_107_26, lc_A_0, x_107_27, show ((24 : Int32)) = Int32.ofInt (24) from by decide, x_107_29, qJ110, am_K_go, y_107_31, qJ111, am_kg_some, x_107_34]
def qF11 : Nat → Option Nat := va_up qF10 5 (some 80)
def qX103 : mm_X := fun b => if b = 54 then some (.inl (.object "ModelSheet$Rule", 8, .inr (.inr (.inr (.inr qF11))))) else qX102 b
def qH112 (L : Nat) (xs : Nat → Int32) (z : Value) : am_G := mm_hp (L, xs, z, qP3) qM6 qX103 (85, 600971, 7292545)
theorem qJ112 : am_sat .aastore (qH111 L xs z) 54 (Int32.ofInt 5) (.ref 80) = some (qH112 L xs z) := qaas (w := (L, xs, z, qP3)) (μ := qM6) (X := qX102) (n := (85, 600971, 7292545)) (f := qF10) (c := 6) (by decide) rfl rfl rfl (qoc (V := qV53) (by decide) rfl rfl) (by decide) rfl rfl
theorem qG13 : am_gf (qH112 L xs z) 53 7 0 = some (.ref 54) := (qgf (w := (L, xs, z, qP3)) (μ := qM6) (X := qX103) (n := (85, 600971, 7292545)) (V := qV23) (by decide) rfl rfl).trans rfl
def qV54 : Nat → Value := fun k => defaultValue (am_ft 6 k).1
def qX104 : mm_X := fun b => if b = 85 then some (.inr (6, qV54)) else qX103 b
def qH113 (L : Nat) (xs : Nat → Int32) (z : Value) : am_G := mm_hp (L, xs, z, qP3) qM6 qX104 (86, 600970, 7292540)
theorem qS113 : am_psh (qH112 L xs z) (.inr (6, qV54)) 5 = (qH113 L xs z) := qpsh (w := (L, xs, z, qP3)) (μ := qM6) (X := qX103) (n := (85, 600971, 7292545)) (by decide) rfl rfl rfl
theorem qJ113 : am_S 118 (.new 9) 26 Lc st (qH112 L xs z) = am_go 29 Lc (.ref 85 :: st) (qH113 L xs z) := qnew w_118_9 (show 1 ≤ 600971 by decide) (show am_nf 6 ≤ 7292545 by decide) rfl qS113 rfl
def qX105 : mm_X := fun b => if b = 86 then some (.inl (.int, 3, .inl fun _ => 0)) else qX104 b
def qH114 (L : Nat) (xs : Nat → Int32) (z : Value) : am_G := mm_hp (L, xs, z, qP3) qM6 qX105 (87, 600969, 7292537)
theorem qS114 : am_psh (qH113 L xs z) (.inl (.int, 3, .inl fun _ => 0)) 3 = (qH114 L xs z) := qpsh (w := (L, xs, z, qP3)) (μ := qM6) (X := qX104) (n := (86, 600970, 7292540)) (by decide) rfl rfl rfl
theorem qJ114 : am_S 107 (.newarray .int) 6 Lc (.int (Int32.ofInt 3) :: st) (qH113 L xs z) = am_go 8 Lc (.ref 86 :: st) (qH114 L xs z) := qnwa (by decide) (by decide) (by decide) rfl (show 1 ≤ 600970 by decide) (show 3 ≤ 7292540 by decide) rfl qS114 rfl
def qV55 : Nat → Value := updV qV54 0 (.ref 86)
def qX106 : mm_X := fun b => if b = 85 then some (.inr (6, qV55)) else qX105 b
def qH115 (L : Nat) (xs : Nat → Int32) (z : Value) : am_G := mm_hp (L, xs, z, qP3) qM6 qX106 (87, 600969, 7292537)
theorem qJ115 : am_pf (qH114 L xs z) 85 6 0 (.ref 86) = some (qH115 L xs z) := qpf (w := (L, xs, z, qP3)) (μ := qM6) (X := qX105) (n := (87, 600969, 7292537)) (V := qV54) (by decide) rfl rfl rfl
def qX107 : mm_X := fun b => if b = 87 then some (.inl (.int, 3, .inl fun _ => 0)) else qX106 b
def qH116 (L : Nat) (xs : Nat → Int32) (z : Value) : am_G := mm_hp (L, xs, z, qP3) qM6 qX107 (88, 600968, 7292534)
theorem qS116 : am_psh (qH115 L xs z) (.inl (.int, 3, .inl fun _ => 0)) 3 = (qH116 L xs z) := qpsh (w := (L, xs, z, qP3)) (μ := qM6) (X := qX106) (n := (87, 600969, 7292537)) (by decide) rfl rfl rfl
theorem qJ116 : am_S 107 (.newarray .int) 13 Lc (.int (Int32.ofInt 3) :: st) (qH115 L xs z) = am_go 15 Lc (.ref 87 :: st) (qH116 L xs z) := qnwa (by decide) (by decide) (by decide) rfl (show 1 ≤ 600969 by decide) (show 3 ≤ 7292537 by decide) rfl qS116 rfl
def qV56 : Nat → Value := updV qV55 1 (.ref 87)
def qX108 : mm_X := fun b => if b = 85 then some (.inr (6, qV56)) else qX107 b
def qH117 (L : Nat) (xs : Nat → Int32) (z : Value) : am_G := mm_hp (L, xs, z, qP3) qM6 qX108 (88, 600968, 7292534)
theorem qJ117 : am_pf (qH116 L xs z) 85 6 1 (.ref 87) = some (qH117 L xs z) := qpf (w := (L, xs, z, qP3)) (μ := qM6) (X := qX107) (n := (88, 600968, 7292534)) (V := qV55) (by decide) rfl rfl rfl
def qX109 : mm_X := fun b => if b = 88 then some (.inl (.int, 24, .inl fun _ => 0)) else qX108 b
def qH118 (L : Nat) (xs : Nat → Int32) (z : Value) : am_G := mm_hp (L, xs, z, qP3) qM6 qX109 (89, 600967, 7292510)
theorem qS118 : am_psh (qH117 L xs z) (.inl (.int, 24, .inl fun _ => 0)) 24 = (qH118 L xs z) := qpsh (w := (L, xs, z, qP3)) (μ := qM6) (X := qX108) (n := (88, 600968, 7292534)) (by decide) rfl rfl rfl
theorem qJ118 : am_S 107 (.newarray .int) 21 Lc (.int (Int32.ofInt 24) :: st) (qH117 L xs z) = am_go 23 Lc (.ref 88 :: st) (qH118 L xs z) := qnwa (by decide) (by decide) (by decide) rfl (show 1 ≤ 600968 by decide) (show 24 ≤ 7292534 by decide) rfl qS118 rfl
def qV57 : Nat → Value := updV qV56 2 (.ref 88)
def qX110 : mm_X := fun b => if b = 85 then some (.inr (6, qV57)) else qX109 b
def qH119 (L : Nat) (xs : Nat → Int32) (z : Value) : am_G := mm_hp (L, xs, z, qP3) qM6 qX110 (89, 600967, 7292510)
theorem qJ119 : am_pf (qH118 L xs z) 85 6 2 (.ref 88) = some (qH119 L xs z) := qpf (w := (L, xs, z, qP3)) (μ := qM6) (X := qX109) (n := (89, 600967, 7292510)) (V := qV56) (by decide) rfl rfl rfl
def qX111 : mm_X := fun b => if b = 89 then some (.inl (.int, 24, .inl fun _ => 0)) else qX110 b
def qH120 (L : Nat) (xs : Nat → Int32) (z : Value) : am_G := mm_hp (L, xs, z, qP3) qM6 qX111 (90, 600966, 7292486)
theorem qS120 : am_psh (qH119 L xs z) (.inl (.int, 24, .inl fun _ => 0)) 24 = (qH120 L xs z) := qpsh (w := (L, xs, z, qP3)) (μ := qM6) (X := qX110) (n := (89, 600967, 7292510)) (by decide) rfl rfl rfl
theorem qJ120 : am_S 107 (.newarray .int) 29 Lc (.int (Int32.ofInt 24) :: st) (qH119 L xs z) = am_go 31 Lc (.ref 89 :: st) (qH120 L xs z) := qnwa (by decide) (by decide) (by decide) rfl (show 1 ≤ 600967 by decide) (show 24 ≤ 7292510 by decide) rfl qS120 rfl
def qV58 : Nat → Value := updV qV57 3 (.ref 89)
def qX112 : mm_X := fun b => if b = 85 then some (.inr (6, qV58)) else qX111 b
def qH121 (L : Nat) (xs : Nat → Int32) (z : Value) : am_G := mm_hp (L, xs, z, qP3) qM6 qX112 (90, 600966, 7292486)
theorem qJ121 : am_pf (qH120 L xs z) 85 6 3 (.ref 89) = some (qH121 L xs z) := qpf (w := (L, xs, z, qP3)) (μ := qM6) (X := qX111) (n := (90, 600966, 7292486)) (V := qV57) (by decide) rfl rfl rfl
set_option maxRecDepth 20000 in
theorem qC11 {Q : am_Ou → am_G → Prop} : am_C 297 107 [.ref 85] (qH113 L xs z) Q ↔ Q (.inl none) (qH121 L xs z) := by
  rw [am_C_in (d := 296) (by simp [am_arg, m_107, Value.category]), show am_loc 107 [.ref 85] = [some (.ref 85)] from by simp [am_loc, am_arg, m_107, Value.category, List.replicate]]
  rw [x_107_0, lc_A_0, x_107_1, am_obj v_107_3 (by simp), am_K_go, x_107_4, lc_A_0, x_107_5, show ((3 : Int32)) = Int32.ofInt (3) from by decide, x_107_6, qJ114, am_K_go, y_107_8, qJ115, am_kg_some, x_107_11, lc_A_0, x_107_12, show ((3 : Int32)) = Int32.ofInt (3) from by decide, x_107_13, qJ116, am_K_go, y_107_15, qJ117, am_kg_some, x_107_18, lc_A_0, x_107_19, show ((24 : Int32)) = Int32.ofInt (24) from by decide, x_107_21, qJ118, am_K_go, y_107_23, qJ119, am_kg_some, x_107_26, lc_A_0, x_107_27, show ((24 : Int32)) = Int32.ofInt (24) from by decide, x_107_29, qJ120, am_K_go, y_107_31, qJ121, am_kg_some, x_107_34]
def qF12 : Nat → Option Nat := va_up qF11 6 (some 85)
def qX113 : mm_X := fun b => if b = 54 then some (.inl (.object "ModelSheet$Rule", 8, .inr (.inr (.inr (.inr qF12))))) else qX112 b
def qH122 (L : Nat) (xs : Nat → Int32) (z : Value) : am_G := mm_hp (L, xs, z, qP3) qM6 qX113 (90, 600966, 7292486)
theorem qJ122 : am_sat .aastore (qH121 L xs z) 54 (Int32.ofInt 6) (.ref 85) = some (qH122 L xs z) := qaas (w := (L, xs, z, qP3)) (μ := qM6) (X := qX112) (n := (90, 600966, 7292486)) (f := qF11) (c := 6) (by decide) rfl rfl rfl (qoc (V := qV58) (by decide) rfl rfl) (by decide) rfl rfl
theorem qG14 : am_gf (qH122 L xs z) 53 7 0 = some (.ref 54) := (qgf (w := (L, xs, z, qP3)) (μ := qM6) (X := qX113) (n := (90, 600966, 7292486)) (V := qV23) (by decide) rfl rfl).trans rfl
def qV59 : Nat → Value := fun k => defaultValue (am_ft 6 k).1
def qX114 : mm_X := fun b => if b = 90 then some (.inr (6, qV59)) else qX113 b
def qH123 (L : Nat) (xs : Nat → Int32) (z : Value) : am_G := mm_hp (L, xs, z, qP3) qM6 qX114 (91, 600965, 7292481)
theorem qS123 : am_psh (qH122 L xs z) (.inr (6, qV59)) 5 = (qH123 L xs z) := qpsh (w := (L, xs, z, qP3)) (μ := qM6) (X := qX113) (n := (90, 600966, 7292486)) (by decide) rfl rfl rfl
theorem qJ123 : am_S 118 (.new 9) 26 Lc st (qH122 L xs z) = am_go 29 Lc (.ref 90 :: st) (qH123 L xs z) := qnew w_118_9 (show 1 ≤ 600966 by decide) (show am_nf 6 ≤ 7292486 by decide) rfl qS123 rfl
def qX115 : mm_X := fun b => if b = 91 then some (.inl (.int, 3, .inl fun _ => 0)) else qX114 b
def qH124 (L : Nat) (xs : Nat → Int32) (z : Value) : am_G := mm_hp (L, xs, z, qP3) qM6 qX115 (92, 600964, 7292478)
theorem qS124 : am_psh (qH123 L xs z) (.inl (.int, 3, .inl fun _ => 0)) 3 = (qH124 L xs z) := qpsh (w := (L, xs, z, qP3)) (μ := qM6) (X := qX114) (n := (91, 600965, 7292481)) (by decide) rfl rfl rfl
theorem qJ124 : am_S 107 (.newarray .int) 6 Lc (.int (Int32.ofInt 3) :: st) (qH123 L xs z) = am_go 8 Lc (.ref 91 :: st) (qH124 L xs z) := qnwa (by decide) (by decide) (by decide) rfl (show 1 ≤ 600965 by decide) (show 3 ≤ 7292481 by decide) rfl qS124 rfl
def qV60 : Nat → Value := updV qV59 0 (.ref 91)
def qX116 : mm_X := fun b => if b = 90 then some (.inr (6, qV60)) else qX115 b
def qH125 (L : Nat) (xs : Nat → Int32) (z : Value) : am_G := mm_hp (L, xs, z, qP3) qM6 qX116 (92, 600964, 7292478)
theorem qJ125 : am_pf (qH124 L xs z) 90 6 0 (.ref 91) = some (qH125 L xs z) := qpf (w := (L, xs, z, qP3)) (μ := qM6) (X := qX115) (n := (92, 600964, 7292478)) (V := qV59) (by decide) rfl rfl rfl
def qX117 : mm_X := fun b => if b = 92 then some (.inl (.int, 3, .inl fun _ => 0)) else qX116 b
def qH126 (L : Nat) (xs : Nat → Int32) (z : Value) : am_G := mm_hp (L, xs, z, qP3) qM6 qX117 (93, 600963, 7292475)
theorem qS126 : am_psh (qH125 L xs z) (.inl (.int, 3, .inl fun _ => 0)) 3 = (qH126 L xs z) := qpsh (w := (L, xs, z, qP3)) (μ := qM6) (X := qX116) (n := (92, 600964, 7292478)) (by decide) rfl rfl rfl
theorem qJ126 : am_S 107 (.newarray .int) 13 Lc (.int (Int32.ofInt 3) :: st) (qH125 L xs z) = am_go 15 Lc (.ref 92 :: st) (qH126 L xs z) := qnwa (by decide) (by decide) (by decide) rfl (show 1 ≤ 600964 by decide) (show 3 ≤ 7292478 by decide) rfl qS126 rfl
def qV61 : Nat → Value := updV qV60 1 (.ref 92)
def qX118 : mm_X := fun b => if b = 90 then some (.inr (6, qV61)) else qX117 b
def qH127 (L : Nat) (xs : Nat → Int32) (z : Value) : am_G := mm_hp (L, xs, z, qP3) qM6 qX118 (93, 600963, 7292475)
theorem qJ127 : am_pf (qH126 L xs z) 90 6 1 (.ref 92) = some (qH127 L xs z) := qpf (w := (L, xs, z, qP3)) (μ := qM6) (X := qX117) (n := (93, 600963, 7292475)) (V := qV60) (by decide) rfl rfl rfl
def qX119 : mm_X := fun b => if b = 93 then some (.inl (.int, 24, .inl fun _ => 0)) else qX118 b
def qH128 (L : Nat) (xs : Nat → Int32) (z : Value) : am_G := mm_hp (L, xs, z, qP3) qM6 qX119 (94, 600962, 7292451)
theorem qS128 : am_psh (qH127 L xs z) (.inl (.int, 24, .inl fun _ => 0)) 24 = (qH128 L xs z) := qpsh (w := (L, xs, z, qP3)) (μ := qM6) (X := qX118) (n := (93, 600963, 7292475)) (by decide) rfl rfl rfl
theorem qJ128 : am_S 107 (.newarray .int) 21 Lc (.int (Int32.ofInt 24) :: st) (qH127 L xs z) = am_go 23 Lc (.ref 93 :: st) (qH128 L xs z) := qnwa (by decide) (by decide) (by decide) rfl (show 1 ≤ 600963 by decide) (show 24 ≤ 7292475 by decide) rfl qS128 rfl
def qV62 : Nat → Value := updV qV61 2 (.ref 93)
def qX120 : mm_X := fun b => if b = 90 then some (.inr (6, qV62)) else qX119 b
def qH129 (L : Nat) (xs : Nat → Int32) (z : Value) : am_G := mm_hp (L, xs, z, qP3) qM6 qX120 (94, 600962, 7292451)
theorem qJ129 : am_pf (qH128 L xs z) 90 6 2 (.ref 93) = some (qH129 L xs z) := qpf (w := (L, xs, z, qP3)) (μ := qM6) (X := qX119) (n := (94, 600962, 7292451)) (V := qV61) (by decide) rfl rfl rfl
def qX121 : mm_X := fun b => if b = 94 then some (.inl (.int, 24, .inl fun _ => 0)) else qX120 b
def qH130 (L : Nat) (xs : Nat → Int32) (z : Value) : am_G := mm_hp (L, xs, z, qP3) qM6 qX121 (95, 600961, 7292427)
theorem qS130 : am_psh (qH129 L xs z) (.inl (.int, 24, .inl fun _ => 0)) 24 = (qH130 L xs z) := qpsh (w := (L, xs, z, qP3)) (μ := qM6) (X := qX120) (n := (94, 600962, 7292451)) (by decide) rfl rfl rfl
theorem qJ130 : am_S 107 (.newarray .int) 29 Lc (.int (Int32.ofInt 24) :: st) (qH129 L xs z) = am_go 31 Lc (.ref 94 :: st) (qH130 L xs z) := qnwa (by decide) (by decide) (by decide) rfl (show 1 ≤ 600962 by decide) (show 24 ≤ 7292451 by decide) rfl qS130 rfl
def qV63 : Nat → Value := updV qV62 3 (.ref 94)
def qX122 : mm_X := fun b => if b = 90 then some (.inr (6, qV63)) else qX121 b
def qH131 (L : Nat) (xs : Nat → Int32) (z : Value) : am_G := mm_hp (L, xs, z, qP3) qM6 qX122 (95, 600961, 7292427)
theorem qJ131 : am_pf (qH130 L xs z) 90 6 3 (.ref 94) = some (qH131 L xs z) := qpf (w := (L, xs, z, qP3)) (μ := qM6) (X := qX121) (n := (95, 600961, 7292427)) (V := qV62) (by decide) rfl rfl rfl
set_option maxRecDepth 20000 in
theorem qC12 {Q : am_Ou → am_G → Prop} : am_C 297 107 [.ref 90] (qH123 L xs z) Q ↔ Q (.inl none) (qH131 L xs z) := by
  rw [am_C_in (d := 296) (by simp [am_arg, m_107, Value.category]), show am_loc 107 [.ref 90] = [some (.ref 90)] from by simp [am_loc, am_arg, m_107, Value.category, List.replicate]]
  rw [x_107_0, lc_A_0, x_107_1, am_obj v_107_3 (by simp), am_K_go, x_107_4, lc_A_0, x_107_5, show ((3 : Int32)) = Int32.ofInt (3) from by decide, x_107_6, qJ124, am_K_go, y_107_8, qJ125, am_kg_some, x_107_11, lc_A_0, x_107_12, show ((3 : Int32)) = Int32.ofInt (3) from by decide, x_107_13, qJ126, am_K_go, y_107_15, qJ127, am_kg_some, x_107_18, lc_A_0, x_107_19, show ((24 : Int32)) = Int32.ofInt (24) from by decide, x_107_21, qJ128, am_K_go, y_107_23, qJ129, am_kg_some, x_107_26, lc_A_0, x_107_27, show ((24 : Int32)) = Int32.ofInt (24) from by decide, x_107_29, qJ130, am_K_go, y_107_31, qJ131, am_kg_some, x_107_34]
def qF13 : Nat → Option Nat := va_up qF12 7 (some 90)
def qX123 : mm_X := fun b => if b = 54 then some (.inl (.object "ModelSheet$Rule", 8, .inr (.inr (.inr (.inr qF13))))) else qX122 b
def qH132 (L : Nat) (xs : Nat → Int32) (z : Value) : am_G := mm_hp (L, xs, z, qP3) qM6 qX123 (95, 600961, 7292427)
theorem qJ132 : am_sat .aastore (qH131 L xs z) 54 (Int32.ofInt 7) (.ref 90) = some (qH132 L xs z) := qaas (w := (L, xs, z, qP3)) (μ := qM6) (X := qX122) (n := (95, 600961, 7292427)) (f := qF12) (c := 6) (by decide) rfl rfl rfl (qoc (V := qV63) (by decide) rfl rfl) (by decide) rfl rfl
set_option maxRecDepth 20000 in
theorem qC13 {Q : am_Ou → am_G → Prop} : am_C 298 118 [.ref 53] (qH50 L xs z) Q ↔ Q (.inl none) (qH132 L xs z) := by
  rw [am_C_in (d := 297) (by simp [am_arg, m_118, Value.category]), show am_loc 118 [.ref 53] = [some (.ref 53), none] from by simp [am_loc, am_arg, m_118, Value.category, List.replicate]]
  rw [x_118_0, lc_A_0, x_118_1, am_obj v_118_3 (by simp), am_K_go, x_118_4, lc_A_0, x_118_5, show ((8 : Int32)) = Int32.ofInt (8) from by decide, x_118_7, qJ51, am_K_go, y_118_10, qJ52, am_kg_some, x_118_13, show ((0 : Int32)) = Int32.ofInt (0) from by decide, x_118_14, sc_I_1 (by rfl), x_118_15, lc_I_1, x_118_16, show ((8 : Int32)) = Int32.ofInt (8) from by decide, x_118_18, am_cmp_ge, am_E_ite, if_neg (by decide), x_118_21, lc_A_0, x_118_22, qG7, am_kv_some, x_118_25, lc_I_1, x_118_26, qJ53, am_K_go, x_118_29, if_pos (by rfl), z_118_30 (by simp), qC5, bk_n, x_118_33, qJ62, am_kg_some, x_118_34 rfl (by decide), s1_1 (by rfl), show ((1 : Int32)) = Int32.ofInt (1) from by decide, mm_ad, show (0 : Int) + 1 = 1 from rfl, x_118_37, x_118_15, lc_I_1, x_118_16, show ((8 : Int32)) = Int32.ofInt (8) from by decide, x_118_18, am_cmp_ge, am_E_ite, if_neg (by decide), x_118_21, lc_A_0, x_118_22, qG8, am_kv_some, x_118_25, lc_I_1, x_118_26, qJ63, am_K_go, x_118_29, if_pos (by rfl), z_118_30 (by simp), qC6, bk_n, x_118_33, qJ72, am_kg_some, x_118_34 rfl (by decide), s1_1 (by rfl), show ((1 : Int32)) = Int32.ofInt (1) from by decide, mm_ad, show (1 : Int) + 1 = 2 from rfl, x_118_37, x_118_15, lc_I_1, x_118_16, show ((8 : Int32)) = Int32.ofInt (8) from by decide, x_118_18, am_cmp_ge, am_E_ite, if_neg (by decide), x_118_21, lc_A_0, x_118_22, qG9, am_kv_some, x_118_25, lc_I_1, x_118_26, qJ73, am_K_go, x_118_29, if_pos (by rfl), z_118_30 (by simp), qC7, bk_n, x_118_33, qJ82, am_kg_some, x_118_34 rfl (by decide), s1_1 (by rfl), show ((1 : Int32)) = Int32.ofInt (1) from by decide, mm_ad, show (2 : Int) + 1 = 3 from rfl, x_118_37, x_118_15, lc_I_1, x_118_16, show ((8 : Int32)) = Int32.ofInt (8) from by decide, x_118_18, am_cmp_ge, am_E_ite, if_neg (by decide), x_118_21, lc_A_0, x_118_22, qG10, am_kv_some, x_118_25, lc_I_1, x_118_26, qJ83, am_K_go, x_118_29, if_pos (by rfl), z_118_30 (by simp), qC8, bk_n, x_118_33, qJ92, am_kg_some, x_118_34 rfl (by decide), s1_1 (by rfl), show ((1 : Int32)) = Int32.ofInt (1) from by decide, mm_ad, show (3 : Int) + 1 = 4 from rfl, x_118_37, x_118_15, lc_I_1, x_118_16, show ((8 : Int32)) = Int32.ofInt (8) from by decide, x_118_18, am_cmp_ge, am_E_ite, if_neg (by decide), x_118_21, lc_A_0, x_118_22, qG11, am_kv_some, x_118_25, lc_I_1, x_118_26, qJ93, am_K_go, x_118_29, if_pos (by rfl), z_118_30 (by simp), qC9, bk_n, x_118_33, qJ102, am_kg_some, x_118_34 rfl (by decide), s1_1 (by rfl), show ((1 : Int32)) = Int32.ofInt (1) from by decide, mm_ad, show (4 : Int) + 1 = 5 from rfl, x_118_37, x_118_15, lc_I_1, x_118_16, show ((8 : Int32)) = Int32.ofInt (8) from by decide, x_118_18, am_cmp_ge, am_E_ite, if_neg (by decide), x_118_21, lc_A_0, x_118_22, qG12, am_kv_some, x_118_25, lc_I_1, x_118_26, qJ103, am_K_go, x_118_29, if_pos (by rfl), z_118_30 (by simp), qC10, bk_n, x_118_33, qJ112, am_kg_some, x_118_34 rfl (by decide), s1_1 (by rfl), show ((1 : Int32)) = Int32.ofInt (1) from by decide, mm_ad, show (5 : Int) + 1 = 6 from rfl, x_118_37, x_118_15, lc_I_1, x_118_16, show ((8 : Int32)) = Int32.ofInt (8) from by decide, x_118_18, am_cmp_ge, am_E_ite, if_neg (by decide), x_118_21, lc_A_0, x_118_22, qG13, am_kv_some, x_118_25, lc_I_1, x_118_26, qJ113, am_K_go, x_118_29, if_pos (by rfl), z_118_30 (by simp), qC11, bk_n, x_118_33, qJ122, am_kg_some, x_118_34 rfl (by decide), s1_1 (by rfl), show ((1 : Int32)) = Int32.ofInt (1) from by decide, mm_ad, show (6 : Int) + 1 = 7 from rfl, x_118_37, x_118_15, lc_I_1, x_118_16, show ((8 : Int32)) = Int32.ofInt (8) from by decide, x_118_18, am_cmp_ge, am_E_ite, if_neg (by decide), x_118_21, lc_A_0, x_118_22, qG14, am_kv_some, x_118_25, lc_I_1, x_118_26, qJ123, am_K_go, x_118_29, if_pos (by rfl), z_118_30 (by simp), qC12, bk_n, x_118_33, qJ132, am_kg_some, x_118_34 rfl (by decide), s1_1 (by rfl), show ((1 : Int32)) = Int32.ofInt (1) from by decide, mm_ad, show (7 : Int) + 1 = 8 from rfl, x_118_37, x_118_15, lc_I_1, x_118_16, show ((8 : Int32)) = Int32.ofInt (8) from by decide, x_118_18, am_cmp_ge, am_E_ite, if_pos (by decide), x_118_40]
def qV64 : Nat → Value := fun k => defaultValue (am_ft 2 k).1
def qX124 : mm_X := fun b => if b = 95 then some (.inr (2, qV64)) else qX123 b
def qH133 (L : Nat) (xs : Nat → Int32) (z : Value) : am_G := mm_hp (L, xs, z, qP3) qM6 qX124 (96, 600960, 7292425)
theorem qS133 : am_psh (qH132 L xs z) (.inr (2, qV64)) 2 = (qH133 L xs z) := qpsh (w := (L, xs, z, qP3)) (μ := qM6) (X := qX123) (n := (95, 600961, 7292427)) (by decide) rfl rfl rfl
theorem qJ133 : am_S 23 (.new 13) 20 Lc st (qH132 L xs z) = am_go 23 Lc (.ref 95 :: st) (qH133 L xs z) := qnew w_23_13 (show 1 ≤ 600961 by decide) (show am_nf 2 ≤ 7292427 by decide) rfl qS133 rfl
def qF14 : Nat → Option Nat := fun j => if j < 3 then some (97 + j) else none
def qX125 : mm_X := fun b => if b = 96 then some (.inl (.array .int, 3, .inr (.inr (.inr (.inr qF14))))) else if 96 < b ∧ b < 100 then some (.inl (.int, 216, .inl fun _ => 0)) else qX124 b
def qH134 (L : Nat) (xs : Nat → Int32) (z : Value) : am_G := mm_hp (L, xs, z, qP3) qM6 qX125 (100, 600956, 7291774)
theorem qS134 : am_mul (qH133 L xs z) 3 216 = (qH134 L xs z) := qmulh (w := (L, xs, z, qP3)) (μ := qM6) (X := qX124) (n := (96, 600960, 7292425)) (by decide) (fun b h1 h2 => by have h1 : 96 ≤ b := h1; have h2 : b < 100 := h2; show qP3 b = false; exact qPo3 (by omega)) rfl rfl
theorem qJ134 : am_S 77 (.multianewarray 11 2) 9 Lc (.int (Int32.ofInt 216) :: .int (Int32.ofInt 3) :: st) (qH133 L xs z) = am_go 13 Lc (.ref 96 :: st) (qH134 L xs z) := qmul (m := 3) (k := 216) (by decide) (by decide) (by decide +kernel) (by decide) (by decide) (by decide) (by decide) (show 1 + 3 ≤ 600960 by decide) (show 3 + 3 * 216 ≤ 7292425 by decide) rfl qS134 rfl
def qV65 : Nat → Value := updV qV64 0 (.ref 96)
def qX126 : mm_X := fun b => if b = 95 then some (.inr (2, qV65)) else qX125 b
def qH135 (L : Nat) (xs : Nat → Int32) (z : Value) : am_G := mm_hp (L, xs, z, qP3) qM6 qX126 (100, 600956, 7291774)
theorem qJ135 : am_pf (qH134 L xs z) 95 2 0 (.ref 96) = some (qH135 L xs z) := qpf (w := (L, xs, z, qP3)) (μ := qM6) (X := qX125) (n := (100, 600956, 7291774)) (V := qV64) (by decide) rfl rfl rfl
def qV66 : Nat → Value := updV qV65 1 (.int (Int32.ofInt (1)))
def qX127 : mm_X := fun b => if b = 95 then some (.inr (2, qV66)) else qX126 b
def qH136 (L : Nat) (xs : Nat → Int32) (z : Value) : am_G := mm_hp (L, xs, z, qP3) qM6 qX127 (100, 600956, 7291774)
theorem qJ136 : am_pf (qH135 L xs z) 95 2 1 (.int (Int32.ofInt (1))) = some (qH136 L xs z) := qpf (w := (L, xs, z, qP3)) (μ := qM6) (X := qX126) (n := (100, 600956, 7291774)) (V := qV65) (by decide) rfl rfl rfl
theorem qG15 : am_gf (qH136 L xs z) 95 2 0 = some (.ref 96) := (qgf (w := (L, xs, z, qP3)) (μ := qM6) (X := qX127) (n := (100, 600956, 7291774)) (V := qV66) (by decide) rfl rfl).trans rfl
theorem qG16 : am_iat .aaload (qH136 L xs z) 96 (Int32.ofInt 0) = some (.ref 97) := qaal (w := (L, xs, z, qP3)) (μ := qM6) (X := qX127) (n := (100, 600956, 7291774)) (f := qF14) (by decide) rfl rfl rfl (by decide) rfl
def qP4 : Nat → Bool := fun b => qP3 b || [97].contains b
set_option maxRecDepth 20000 in
theorem qK97 : qX127 97 = mm_c qI 97 := rfl
def qH137 (L : Nat) (xs : Nat → Int32) (z : Value) : am_G := mm_hp (L, xs, z, qP4) qM6 qX127 (100, 600956, 7291774)
theorem qJ137 : (qH136 L xs z) = (qH137 L xs z) := qflipl [97] rfl (by
  intro b hb _
  simp only [List.mem_cons, List.not_mem_nil, or_false] at hb
  rcases hb with rfl
  · exact qK97.trans (mm_c_of (qE6 (by decide)) (fun q => absurd q (by decide))).symm)
theorem qPo4 {b : Nat} (h : 100 ≤ b) : qP4 b = false := by
  show (qP3 b || [97].contains b) = false
  rw [qPo3 (by omega)]
  show List.contains _ b = false
  simp
  omega
def qM7 : mm_M := mm_fi qM6 97 216 (-2147483648)
def qH138 (L : Nat) (xs : Nat → Int32) (z : Value) : am_G := mm_hp (L, xs, z, qP4) qM7 qX127 (100, 600956, 7291774)
theorem qJ138 {Q : am_Ou → am_G → Prop} : am_C 297 311 [.ref 97, .int (Int32.ofInt (-2147483648))] (qH137 L xs z) Q ↔ Q (.inl none) (qH138 L xs z) := c_311 (d := 296) (w := (L, xs, z, qP4)) (μ := qM6) (by decide) rfl rfl (by decide)
theorem qE7 {b : Nat} (h : (b < 35 ∨ 52 < b) ∧ b ≠ 97) : qM7 b = qI b := (q_fio h.2).trans (qE6 h.1)
set_option maxRecDepth 20000 in
theorem qC14 {Q : am_Ou → am_G → Prop} : am_C 298 77 [.ref 95] (qH133 L xs z) Q ↔ Q (.inl none) (qH138 L xs z) := by
  rw [am_C_in (d := 297) (by simp [am_arg, m_77, Value.category]), show am_loc 77 [.ref 95] = [some (.ref 95)] from by simp [am_loc, am_arg, m_77, Value.category, List.replicate]]
  rw [x_77_0, lc_A_0, x_77_1, am_obj v_77_5 (by simp), am_K_go, x_77_4, lc_A_0, x_77_5, show ((3 : Int32)) = Int32.ofInt (3) from by decide, x_77_6, show ((216 : Int32)) = Int32.ofInt (216) from by decide, x_77_9, qJ134, am_K_go, y_77_13, qJ135, am_kg_some, x_77_16, lc_A_0, x_77_17, show ((1 : Int32)) = Int32.ofInt (1) from by decide, y_77_18, qJ136, am_kg_some, x_77_21, lc_A_0, x_77_22, qG15, am_kv_some, x_77_25, show ((0 : Int32)) = Int32.ofInt (0) from by decide, x_77_26, qG16, am_kv_some, x_77_27, qldc, am_K_go, qJ137, z_77_29 (by simp), qJ138, bk_n, x_77_32]
def qV67 : Nat → Value := fun k => defaultValue (am_ft 4 k).1
def qX128 : mm_X := fun b => if b = 100 then some (.inr (4, qV67)) else qX127 b
def qH139 (L : Nat) (xs : Nat → Int32) (z : Value) : am_G := mm_hp (L, xs, z, qP4) qM7 qX128 (101, 600955, 7291772)
theorem qS139 : am_psh (qH138 L xs z) (.inr (4, qV67)) 2 = (qH139 L xs z) := qpsh (w := (L, xs, z, qP4)) (μ := qM7) (X := qX127) (n := (100, 600956, 7291774)) (by decide) rfl rfl rfl
theorem qJ139 : am_S 23 (.new 16) 28 Lc st (qH138 L xs z) = am_go 31 Lc (.ref 100 :: st) (qH139 L xs z) := qnew w_23_16 (show 1 ≤ 600956 by decide) (show am_nf 4 ≤ 7291774 by decide) rfl qS139 rfl
def qX129 : mm_X := fun b => if b = 101 then some (.inl (.char, 24, .inl fun _ => 0)) else qX128 b
def qH140 (L : Nat) (xs : Nat → Int32) (z : Value) : am_G := mm_hp (L, xs, z, qP4) qM7 qX129 (102, 600954, 7291748)
theorem qS140 : am_psh (qH139 L xs z) (.inl (.char, 24, .inl fun _ => 0)) 24 = (qH140 L xs z) := qpsh (w := (L, xs, z, qP4)) (μ := qM7) (X := qX128) (n := (101, 600955, 7291772)) (by decide) rfl rfl rfl
theorem qJ140 : am_S 90 (.newarray .char) 7 Lc (.int (Int32.ofInt 24) :: st) (qH139 L xs z) = am_go 9 Lc (.ref 101 :: st) (qH140 L xs z) := qnwa (by decide) (by decide) (by decide) rfl (show 1 ≤ 600955 by decide) (show 24 ≤ 7291772 by decide) rfl qS140 rfl
def qV68 : Nat → Value := updV qV67 0 (.ref 101)
def qX130 : mm_X := fun b => if b = 100 then some (.inr (4, qV68)) else qX129 b
def qH141 (L : Nat) (xs : Nat → Int32) (z : Value) : am_G := mm_hp (L, xs, z, qP4) qM7 qX130 (102, 600954, 7291748)
theorem qJ141 : am_pf (qH140 L xs z) 100 4 0 (.ref 101) = some (qH141 L xs z) := qpf (w := (L, xs, z, qP4)) (μ := qM7) (X := qX129) (n := (102, 600954, 7291748)) (V := qV67) (by decide) rfl rfl rfl
set_option maxRecDepth 20000 in
theorem qC15 {Q : am_Ou → am_G → Prop} : am_C 298 90 [.ref 100] (qH139 L xs z) Q ↔ Q (.inl none) (qH141 L xs z) := by
  rw [am_C_in (d := 297) (by simp [am_arg, m_90, Value.category]), show am_loc 90 [.ref 100] = [some (.ref 100)] from by simp [am_loc, am_arg, m_90, Value.category, List.replicate]]
  rw [x_90_0, lc_A_0, x_90_1, am_obj v_90_1 (by simp), am_K_go, x_90_4, lc_A_0, x_90_5, show ((24 : Int32)) = Int32.ofInt (24) from by decide, x_90_7, qJ140, am_K_go, y_90_9, qJ141, am_kg_some, x_90_12]
def qV69 : Nat → Value := fun k => defaultValue (am_ft 6 k).1
def qX131 : mm_X := fun b => if b = 102 then some (.inr (6, qV69)) else qX130 b
def qH142 (L : Nat) (xs : Nat → Int32) (z : Value) : am_G := mm_hp (L, xs, z, qP4) qM7 qX131 (103, 600953, 7291743)
theorem qS142 : am_psh (qH141 L xs z) (.inr (6, qV69)) 5 = (qH142 L xs z) := qpsh (w := (L, xs, z, qP4)) (μ := qM7) (X := qX130) (n := (102, 600954, 7291748)) (by decide) rfl rfl rfl
theorem qJ142 : am_S 23 (.new 19) 37 Lc st (qH141 L xs z) = am_go 40 Lc (.ref 102 :: st) (qH142 L xs z) := qnew w_23_19 (show 1 ≤ 600954 by decide) (show am_nf 6 ≤ 7291748 by decide) rfl qS142 rfl
def qX132 : mm_X := fun b => if b = 103 then some (.inl (.int, 3, .inl fun _ => 0)) else qX131 b
def qH143 (L : Nat) (xs : Nat → Int32) (z : Value) : am_G := mm_hp (L, xs, z, qP4) qM7 qX132 (104, 600952, 7291740)
theorem qS143 : am_psh (qH142 L xs z) (.inl (.int, 3, .inl fun _ => 0)) 3 = (qH143 L xs z) := qpsh (w := (L, xs, z, qP4)) (μ := qM7) (X := qX131) (n := (103, 600953, 7291743)) (by decide) rfl rfl rfl
theorem qJ143 : am_S 107 (.newarray .int) 6 Lc (.int (Int32.ofInt 3) :: st) (qH142 L xs z) = am_go 8 Lc (.ref 103 :: st) (qH143 L xs z) := qnwa (by decide) (by decide) (by decide) rfl (show 1 ≤ 600953 by decide) (show 3 ≤ 7291743 by decide) rfl qS143 rfl
def qV70 : Nat → Value := updV qV69 0 (.ref 103)
def qX133 : mm_X := fun b => if b = 102 then some (.inr (6, qV70)) else qX132 b
def qH144 (L : Nat) (xs : Nat → Int32) (z : Value) : am_G := mm_hp (L, xs, z, qP4) qM7 qX133 (104, 600952, 7291740)
theorem qJ144 : am_pf (qH143 L xs z) 102 6 0 (.ref 103) = some (qH144 L xs z) := qpf (w := (L, xs, z, qP4)) (μ := qM7) (X := qX132) (n := (104, 600952, 7291740)) (V := qV69) (by decide) rfl rfl rfl
def qX134 : mm_X := fun b => if b = 104 then some (.inl (.int, 3, .inl fun _ => 0)) else qX133 b
def qH145 (L : Nat) (xs : Nat → Int32) (z : Value) : am_G := mm_hp (L, xs, z, qP4) qM7 qX134 (105, 600951, 7291737)
theorem qS145 : am_psh (qH144 L xs z) (.inl (.int, 3, .inl fun _ => 0)) 3 = (qH145 L xs z) := qpsh (w := (L, xs, z, qP4)) (μ := qM7) (X := qX133) (n := (104, 600952, 7291740)) (by decide) rfl rfl rfl
theorem qJ145 : am_S 107 (.newarray .int) 13 Lc (.int (Int32.ofInt 3) :: st) (qH144 L xs z) = am_go 15 Lc (.ref 104 :: st) (qH145 L xs z) := qnwa (by decide) (by decide) (by decide) rfl (show 1 ≤ 600952 by decide) (show 3 ≤ 7291740 by decide) rfl qS145 rfl
def qV71 : Nat → Value := updV qV70 1 (.ref 104)
def qX135 : mm_X := fun b => if b = 102 then some (.inr (6, qV71)) else qX134 b
def qH146 (L : Nat) (xs : Nat → Int32) (z : Value) : am_G := mm_hp (L, xs, z, qP4) qM7 qX135 (105, 600951, 7291737)
theorem qJ146 : am_pf (qH145 L xs z) 102 6 1 (.ref 104) = some (qH146 L xs z) := qpf (w := (L, xs, z, qP4)) (μ := qM7) (X := qX134) (n := (105, 600951, 7291737)) (V := qV70) (by decide) rfl rfl rfl
def qX136 : mm_X := fun b => if b = 105 then some (.inl (.int, 24, .inl fun _ => 0)) else qX135 b
def qH147 (L : Nat) (xs : Nat → Int32) (z : Value) : am_G := mm_hp (L, xs, z, qP4) qM7 qX136 (106, 600950, 7291713)
theorem qS147 : am_psh (qH146 L xs z) (.inl (.int, 24, .inl fun _ => 0)) 24 = (qH147 L xs z) := qpsh (w := (L, xs, z, qP4)) (μ := qM7) (X := qX135) (n := (105, 600951, 7291737)) (by decide) rfl rfl rfl
theorem qJ147 : am_S 107 (.newarray .int) 21 Lc (.int (Int32.ofInt 24) :: st) (qH146 L xs z) = am_go 23 Lc (.ref 105 :: st) (qH147 L xs z) := qnwa (by decide) (by decide) (by decide) rfl (show 1 ≤ 600951 by decide) (show 24 ≤ 7291737 by decide) rfl qS147 rfl
def qV72 : Nat → Value := updV qV71 2 (.ref 105)
def qX137 : mm_X := fun b => if b = 102 then some (.inr (6, qV72)) else qX136 b
def qH148 (L : Nat) (xs : Nat → Int32) (z : Value) : am_G := mm_hp (L, xs, z, qP4) qM7 qX137 (106, 600950, 7291713)
theorem qJ148 : am_pf (qH147 L xs z) 102 6 2 (.ref 105) = some (qH148 L xs z) := qpf (w := (L, xs, z, qP4)) (μ := qM7) (X := qX136) (n := (106, 600950, 7291713)) (V := qV71) (by decide) rfl rfl rfl
def qX138 : mm_X := fun b => if b = 106 then some (.inl (.int, 24, .inl fun _ => 0)) else qX137 b
def qH149 (L : Nat) (xs : Nat → Int32) (z : Value) : am_G := mm_hp (L, xs, z, qP4) qM7 qX138 (107, 600949, 7291689)
theorem qS149 : am_psh (qH148 L xs z) (.inl (.int, 24, .inl fun _ => 0)) 24 = (qH149 L xs z) := qpsh (w := (L, xs, z, qP4)) (μ := qM7) (X := qX137) (n := (106, 600950, 7291713)) (by decide) rfl rfl rfl
theorem qJ149 : am_S 107 (.newarray .int) 29 Lc (.int (Int32.ofInt 24) :: st) (qH148 L xs z) = am_go 31 Lc (.ref 106 :: st) (qH149 L xs z) := qnwa (by decide) (by decide) (by decide) rfl (show 1 ≤ 600950 by decide) (show 24 ≤ 7291713 by decide) rfl qS149 rfl
def qV73 : Nat → Value := updV qV72 3 (.ref 106)
def qX139 : mm_X := fun b => if b = 102 then some (.inr (6, qV73)) else qX138 b
def qH150 (L : Nat) (xs : Nat → Int32) (z : Value) : am_G := mm_hp (L, xs, z, qP4) qM7 qX139 (107, 600949, 7291689)
theorem qJ150 : am_pf (qH149 L xs z) 102 6 3 (.ref 106) = some (qH150 L xs z) := qpf (w := (L, xs, z, qP4)) (μ := qM7) (X := qX138) (n := (107, 600949, 7291689)) (V := qV72) (by decide) rfl rfl rfl
set_option maxRecDepth 20000 in
theorem qC16 {Q : am_Ou → am_G → Prop} : am_C 298 107 [.ref 102] (qH142 L xs z) Q ↔ Q (.inl none) (qH150 L xs z) := by
  rw [am_C_in (d := 297) (by simp [am_arg, m_107, Value.category]), show am_loc 107 [.ref 102] = [some (.ref 102)] from by simp [am_loc, am_arg, m_107, Value.category, List.replicate]]
  rw [x_107_0, lc_A_0, x_107_1, am_obj v_107_3 (by simp), am_K_go, x_107_4, lc_A_0, x_107_5, show ((3 : Int32)) = Int32.ofInt (3) from by decide, x_107_6, qJ143, am_K_go, y_107_8, qJ144, am_kg_some, x_107_11, lc_A_0, x_107_12, show ((3 : Int32)) = Int32.ofInt (3) from by decide, x_107_13, qJ145, am_K_go, y_107_15, qJ146, am_kg_some, x_107_18, lc_A_0, x_107_19, show ((24 : Int32)) = Int32.ofInt (24) from by decide, x_107_21, qJ147, am_K_go, y_107_23, qJ148, am_kg_some, x_107_26, lc_A_0, x_107_27, show ((24 : Int32)) = Int32.ofInt (24) from by decide, x_107_29, qJ149, am_K_go, y_107_31, qJ150, am_kg_some, x_107_34]
def qV74 : Nat → Value := updV qV1 0 (.ref 33)
def qX140 : mm_X := fun b => if b = 32 then some (.inr (0, qV74)) else qX139 b
def qH151 (L : Nat) (xs : Nat → Int32) (z : Value) : am_G := mm_hp (L, xs, z, qP4) qM7 qX140 (107, 600949, 7291689)
theorem qJ151 : am_pf (qH150 L xs z) 32 0 0 (.ref 33) = some (qH151 L xs z) := qpf (w := (L, xs, z, qP4)) (μ := qM7) (X := qX139) (n := (107, 600949, 7291689)) (V := qV1) (by decide) rfl rfl rfl
def qV75 : Nat → Value := updV qV74 1 (.ref 53)
def qX141 : mm_X := fun b => if b = 32 then some (.inr (0, qV75)) else qX140 b
def qH152 (L : Nat) (xs : Nat → Int32) (z : Value) : am_G := mm_hp (L, xs, z, qP4) qM7 qX141 (107, 600949, 7291689)
theorem qJ152 : am_pf (qH151 L xs z) 32 0 1 (.ref 53) = some (qH152 L xs z) := qpf (w := (L, xs, z, qP4)) (μ := qM7) (X := qX140) (n := (107, 600949, 7291689)) (V := qV74) (by decide) rfl rfl rfl
def qV76 : Nat → Value := updV qV75 2 (.ref 95)
def qX142 : mm_X := fun b => if b = 32 then some (.inr (0, qV76)) else qX141 b
def qH153 (L : Nat) (xs : Nat → Int32) (z : Value) : am_G := mm_hp (L, xs, z, qP4) qM7 qX142 (107, 600949, 7291689)
theorem qJ153 : am_pf (qH152 L xs z) 32 0 2 (.ref 95) = some (qH153 L xs z) := qpf (w := (L, xs, z, qP4)) (μ := qM7) (X := qX141) (n := (107, 600949, 7291689)) (V := qV75) (by decide) rfl rfl rfl
def qV77 : Nat → Value := fun k => defaultValue (am_ft 3 k).1
def qX143 : mm_X := fun b => if b = 107 then some (.inr (3, qV77)) else qX142 b
def qH154 (L : Nat) (xs : Nat → Int32) (z : Value) : am_G := mm_hp (L, xs, z, qP4) qM7 qX143 (108, 600948, 7291683)
theorem qS154 : am_psh (qH153 L xs z) (.inr (3, qV77)) 6 = (qH154 L xs z) := qpsh (w := (L, xs, z, qP4)) (μ := qM7) (X := qX142) (n := (107, 600949, 7291689)) (by decide) rfl rfl rfl
theorem qJ154 : am_S 23 (.new 36) 62 Lc st (qH153 L xs z) = am_go 65 Lc (.ref 107 :: st) (qH154 L xs z) := qnew w_23_36 (show 1 ≤ 600949 by decide) (show am_nf 3 ≤ 7291689 by decide) rfl qS154 rfl
def qF15 : Nat → Option Nat := fun j => if j < 12 then some (109 + j) else none
def qX144 : mm_X := fun b => if b = 108 then some (.inl (.array .int, 12, .inr (.inr (.inr (.inr qF15))))) else if 108 < b ∧ b < 121 then some (.inl (.int, 216, .inl fun _ => 0)) else qX143 b
def qH155 (L : Nat) (xs : Nat → Int32) (z : Value) : am_G := mm_hp (L, xs, z, qP4) qM7 qX144 (121, 600935, 7289079)
theorem qS155 : am_mul (qH154 L xs z) 12 216 = (qH155 L xs z) := qmulh (w := (L, xs, z, qP4)) (μ := qM7) (X := qX143) (n := (108, 600948, 7291683)) (by decide) (fun b h1 h2 => by have h1 : 108 ≤ b := h1; have h2 : b < 121 := h2; show qP4 b = false; exact qPo4 (by omega)) rfl rfl
theorem qJ155 : am_S 84 (.multianewarray 9 2) 10 Lc (.int (Int32.ofInt 216) :: .int (Int32.ofInt 12) :: st) (qH154 L xs z) = am_go 14 Lc (.ref 108 :: st) (qH155 L xs z) := qmul (m := 12) (k := 216) (by decide) (by decide) (by decide +kernel) (by decide) (by decide) (by decide) (by decide) (show 1 + 12 ≤ 600948 by decide) (show 12 + 12 * 216 ≤ 7291683 by decide) rfl qS155 rfl
def qV78 : Nat → Value := updV qV77 1 (.ref 108)
def qX145 : mm_X := fun b => if b = 107 then some (.inr (3, qV78)) else qX144 b
def qH156 (L : Nat) (xs : Nat → Int32) (z : Value) : am_G := mm_hp (L, xs, z, qP4) qM7 qX145 (121, 600935, 7289079)
theorem qJ156 : am_pf (qH155 L xs z) 107 3 1 (.ref 108) = some (qH156 L xs z) := qpf (w := (L, xs, z, qP4)) (μ := qM7) (X := qX144) (n := (121, 600935, 7289079)) (V := qV77) (by decide) rfl rfl rfl
def qX146 : mm_X := fun b => if b = 121 then some (.inl (.int, 12, .inl fun _ => 0)) else qX145 b
def qH157 (L : Nat) (xs : Nat → Int32) (z : Value) : am_G := mm_hp (L, xs, z, qP4) qM7 qX146 (122, 600934, 7289067)
theorem qS157 : am_psh (qH156 L xs z) (.inl (.int, 12, .inl fun _ => 0)) 12 = (qH157 L xs z) := qpsh (w := (L, xs, z, qP4)) (μ := qM7) (X := qX145) (n := (121, 600935, 7289079)) (by decide) rfl rfl rfl
theorem qJ157 : am_S 84 (.newarray .int) 20 Lc (.int (Int32.ofInt 12) :: st) (qH156 L xs z) = am_go 22 Lc (.ref 121 :: st) (qH157 L xs z) := qnwa (by decide) (by decide) (by decide) rfl (show 1 ≤ 600935 by decide) (show 12 ≤ 7289079 by decide) rfl qS157 rfl
def qV79 : Nat → Value := updV qV78 2 (.ref 121)
def qX147 : mm_X := fun b => if b = 107 then some (.inr (3, qV79)) else qX146 b
def qH158 (L : Nat) (xs : Nat → Int32) (z : Value) : am_G := mm_hp (L, xs, z, qP4) qM7 qX147 (122, 600934, 7289067)
theorem qJ158 : am_pf (qH157 L xs z) 107 3 2 (.ref 121) = some (qH158 L xs z) := qpf (w := (L, xs, z, qP4)) (μ := qM7) (X := qX146) (n := (122, 600934, 7289067)) (V := qV78) (by decide) rfl rfl rfl
def qV80 : Nat → Value := updV qV79 0 (.ref 95)
def qX148 : mm_X := fun b => if b = 107 then some (.inr (3, qV80)) else qX147 b
def qH159 (L : Nat) (xs : Nat → Int32) (z : Value) : am_G := mm_hp (L, xs, z, qP4) qM7 qX148 (122, 600934, 7289067)
theorem qJ159 : am_pf (qH158 L xs z) 107 3 0 (.ref 95) = some (qH159 L xs z) := qpf (w := (L, xs, z, qP4)) (μ := qM7) (X := qX147) (n := (122, 600934, 7289067)) (V := qV79) (by decide) rfl rfl rfl
set_option maxRecDepth 20000 in
theorem qC17 {Q : am_Ou → am_G → Prop} : am_C 298 84 [.ref 107, .ref 95] (qH154 L xs z) Q ↔ Q (.inl none) (qH159 L xs z) := by
  rw [am_C_in (d := 297) (by simp [am_arg, m_84, Value.category]), show am_loc 84 [.ref 107, .ref 95] = [some (.ref 107), some (.ref 95)] from by simp [am_loc, am_arg, m_84, Value.category, List.replicate]]
  rw [x_84_0, lc_A_0, x_84_1, am_obj v_84_3 (by simp), am_K_go, x_84_4, lc_A_0, x_84_5, show ((12 : Int32)) = Int32.ofInt (12) from by decide, x_84_7, show ((216 : Int32)) = Int32.ofInt (216) from by decide, x_84_10, qJ155, am_K_go, y_84_14, qJ156, am_kg_some, x_84_17, lc_A_0, x_84_18, show ((12 : Int32)) = Int32.ofInt (12) from by decide, x_84_20, qJ157, am_K_go, y_84_22, qJ158, am_kg_some, x_84_25, lc_A_0, x_84_26, lc_A_1, y_84_27, qJ159, am_kg_some, x_84_30]
def qV81 : Nat → Value := updV qV76 3 (.ref 107)
def qX149 : mm_X := fun b => if b = 32 then some (.inr (0, qV81)) else qX148 b
def qH160 (L : Nat) (xs : Nat → Int32) (z : Value) : am_G := mm_hp (L, xs, z, qP4) qM7 qX149 (122, 600934, 7289067)
theorem qJ160 : am_pf (qH159 L xs z) 32 0 3 (.ref 107) = some (qH160 L xs z) := qpf (w := (L, xs, z, qP4)) (μ := qM7) (X := qX148) (n := (122, 600934, 7289067)) (V := qV76) (by decide) rfl rfl rfl
def qV82 : Nat → Value := fun k => defaultValue (am_ft 1 k).1
def qX150 : mm_X := fun b => if b = 122 then some (.inr (1, qV82)) else qX149 b
def qH161 (L : Nat) (xs : Nat → Int32) (z : Value) : am_G := mm_hp (L, xs, z, qP4) qM7 qX150 (123, 600933, 7289057)
theorem qS161 : am_psh (qH160 L xs z) (.inr (1, qV82)) 10 = (qH161 L xs z) := qpsh (w := (L, xs, z, qP4)) (μ := qM7) (X := qX149) (n := (122, 600934, 7289067)) (by decide) rfl rfl rfl
theorem qJ161 : am_S 23 (.new 45) 74 Lc st (qH160 L xs z) = am_go 77 Lc (.ref 122 :: st) (qH161 L xs z) := qnew w_23_45 (show 1 ≤ 600934 by decide) (show am_nf 1 ≤ 7289067 by decide) rfl qS161 rfl
def qX151 : mm_X := fun b => if b = 123 then some (.inl (.int, 216, .inl fun _ => 0)) else qX150 b
def qH162 (L : Nat) (xs : Nat → Int32) (z : Value) : am_G := mm_hp (L, xs, z, qP4) qM7 qX151 (124, 600932, 7288841)
theorem qS162 : am_psh (qH161 L xs z) (.inl (.int, 216, .inl fun _ => 0)) 216 = (qH162 L xs z) := qpsh (w := (L, xs, z, qP4)) (μ := qM7) (X := qX150) (n := (123, 600933, 7289057)) (by decide) rfl rfl rfl
theorem qJ162 : am_S 62 (.newarray .int) 8 Lc (.int (Int32.ofInt 216) :: st) (qH161 L xs z) = am_go 10 Lc (.ref 123 :: st) (qH162 L xs z) := qnwa (by decide) (by decide) (by decide) rfl (show 1 ≤ 600933 by decide) (show 216 ≤ 7289057 by decide) rfl qS162 rfl
def qV83 : Nat → Value := updV qV82 3 (.ref 123)
def qX152 : mm_X := fun b => if b = 122 then some (.inr (1, qV83)) else qX151 b
def qH163 (L : Nat) (xs : Nat → Int32) (z : Value) : am_G := mm_hp (L, xs, z, qP4) qM7 qX152 (124, 600932, 7288841)
theorem qJ163 : am_pf (qH162 L xs z) 122 1 3 (.ref 123) = some (qH163 L xs z) := qpf (w := (L, xs, z, qP4)) (μ := qM7) (X := qX151) (n := (124, 600932, 7288841)) (V := qV82) (by decide) rfl rfl rfl
def qX153 : mm_X := fun b => if b = 124 then some (.inl (.long, 200, .inr (.inl fun _ => 0))) else qX152 b
def qH164 (L : Nat) (xs : Nat → Int32) (z : Value) : am_G := mm_hp (L, xs, z, qP4) qM7 qX153 (125, 600931, 7288641)
theorem qS164 : am_psh (qH163 L xs z) (.inl (.long, 200, .inr (.inl fun _ => 0))) 200 = (qH164 L xs z) := qpsh (w := (L, xs, z, qP4)) (μ := qM7) (X := qX152) (n := (124, 600932, 7288841)) (by decide) rfl rfl rfl
theorem qJ164 : am_S 62 (.newarray .long) 17 Lc (.int (Int32.ofInt 200) :: st) (qH163 L xs z) = am_go 19 Lc (.ref 124 :: st) (qH164 L xs z) := qnwa (by decide) (by decide) (by decide) rfl (show 1 ≤ 600932 by decide) (show 200 ≤ 7288841 by decide) rfl qS164 rfl
def qV84 : Nat → Value := updV qV83 4 (.ref 124)
def qX154 : mm_X := fun b => if b = 122 then some (.inr (1, qV84)) else qX153 b
def qH165 (L : Nat) (xs : Nat → Int32) (z : Value) : am_G := mm_hp (L, xs, z, qP4) qM7 qX154 (125, 600931, 7288641)
theorem qJ165 : am_pf (qH164 L xs z) 122 1 4 (.ref 124) = some (qH165 L xs z) := qpf (w := (L, xs, z, qP4)) (μ := qM7) (X := qX153) (n := (125, 600931, 7288641)) (V := qV83) (by decide) rfl rfl rfl
def qV85 : Nat → Value := updV qV84 8 (.int (Int32.ofInt (300)))
def qX155 : mm_X := fun b => if b = 122 then some (.inr (1, qV85)) else qX154 b
def qH166 (L : Nat) (xs : Nat → Int32) (z : Value) : am_G := mm_hp (L, xs, z, qP4) qM7 qX155 (125, 600931, 7288641)
theorem qJ166 : am_pf (qH165 L xs z) 122 1 8 (.int (Int32.ofInt (300))) = some (qH166 L xs z) := qpf (w := (L, xs, z, qP4)) (μ := qM7) (X := qX154) (n := (125, 600931, 7288641)) (V := qV84) (by decide) rfl rfl rfl
def qV86 : Nat → Value := updV qV85 0 (.ref 33)
def qX156 : mm_X := fun b => if b = 122 then some (.inr (1, qV86)) else qX155 b
def qH167 (L : Nat) (xs : Nat → Int32) (z : Value) : am_G := mm_hp (L, xs, z, qP4) qM7 qX156 (125, 600931, 7288641)
theorem qJ167 : am_pf (qH166 L xs z) 122 1 0 (.ref 33) = some (qH167 L xs z) := qpf (w := (L, xs, z, qP4)) (μ := qM7) (X := qX155) (n := (125, 600931, 7288641)) (V := qV85) (by decide) rfl rfl rfl
def qV87 : Nat → Value := updV qV86 1 (.ref 53)
def qX157 : mm_X := fun b => if b = 122 then some (.inr (1, qV87)) else qX156 b
def qH168 (L : Nat) (xs : Nat → Int32) (z : Value) : am_G := mm_hp (L, xs, z, qP4) qM7 qX157 (125, 600931, 7288641)
theorem qJ168 : am_pf (qH167 L xs z) 122 1 1 (.ref 53) = some (qH168 L xs z) := qpf (w := (L, xs, z, qP4)) (μ := qM7) (X := qX156) (n := (125, 600931, 7288641)) (V := qV86) (by decide) rfl rfl rfl
def qV88 : Nat → Value := updV qV87 2 (.ref 95)
def qX158 : mm_X := fun b => if b = 122 then some (.inr (1, qV88)) else qX157 b
def qH169 (L : Nat) (xs : Nat → Int32) (z : Value) : am_G := mm_hp (L, xs, z, qP4) qM7 qX158 (125, 600931, 7288641)
theorem qJ169 : am_pf (qH168 L xs z) 122 1 2 (.ref 95) = some (qH169 L xs z) := qpf (w := (L, xs, z, qP4)) (μ := qM7) (X := qX157) (n := (125, 600931, 7288641)) (V := qV87) (by decide) rfl rfl rfl
set_option maxRecDepth 20000 in
theorem qC18 {Q : am_Ou → am_G → Prop} : am_C 298 62 [.ref 122, .ref 33, .ref 53, .ref 95] (qH161 L xs z) Q ↔ Q (.inl none) (qH169 L xs z) := by
  rw [am_C_in (d := 297) (by simp [am_arg, m_62, Value.category]), show am_loc 62 [.ref 122, .ref 33, .ref 53, .ref 95] = [some (.ref 122), some (.ref 33), some (.ref 53), some (.ref 95)] from by simp [am_loc, am_arg, m_62, Value.category, List.replicate]]
  rw [x_62_0, lc_A_0, x_62_1, am_obj v_62_5 (by simp), am_K_go, x_62_4, lc_A_0, x_62_5, show ((216 : Int32)) = Int32.ofInt (216) from by decide, x_62_8, qJ162, am_K_go, y_62_10, qJ163, am_kg_some, x_62_13, lc_A_0, x_62_14, show ((200 : Int32)) = Int32.ofInt (200) from by decide, x_62_17, qJ164, am_K_go, y_62_19, qJ165, am_kg_some, x_62_22, lc_A_0, x_62_23, show ((300 : Int32)) = Int32.ofInt (300) from by decide, y_62_26, qJ166, am_kg_some, x_62_29, lc_A_0, x_62_30, lc_A_1, y_62_31, qJ167, am_kg_some, x_62_34, lc_A_0, x_62_35, lc_A_2, y_62_36, qJ168, am_kg_some, x_62_39, lc_A_0, x_62_40, lc_A_3, y_62_41, qJ169, am_kg_some, x_62_44]
def qV89 : Nat → Value := updV qV81 4 (.ref 122)
def qX159 : mm_X := fun b => if b = 32 then some (.inr (0, qV89)) else qX158 b
def qH170 (L : Nat) (xs : Nat → Int32) (z : Value) : am_G := mm_hp (L, xs, z, qP4) qM7 qX159 (125, 600931, 7288641)
theorem qJ170 : am_pf (qH169 L xs z) 32 0 4 (.ref 122) = some (qH170 L xs z) := qpf (w := (L, xs, z, qP4)) (μ := qM7) (X := qX158) (n := (125, 600931, 7288641)) (V := qV81) (by decide) rfl rfl rfl
def qV90 : Nat → Value := fun k => defaultValue (am_ft 9 k).1
def qX160 : mm_X := fun b => if b = 125 then some (.inr (9, qV90)) else qX159 b
def qH171 (L : Nat) (xs : Nat → Int32) (z : Value) : am_G := mm_hp (L, xs, z, qP4) qM7 qX160 (126, 600930, 7288635)
theorem qS171 : am_psh (qH170 L xs z) (.inr (9, qV90)) 6 = (qH171 L xs z) := qpsh (w := (L, xs, z, qP4)) (μ := qM7) (X := qX159) (n := (125, 600931, 7288641)) (by decide) rfl rfl rfl
theorem qJ171 : am_S 23 (.new 54) 88 Lc st (qH170 L xs z) = am_go 91 Lc (.ref 125 :: st) (qH171 L xs z) := qnew w_23_54 (show 1 ≤ 600931 by decide) (show am_nf 9 ≤ 7288641 by decide) rfl qS171 rfl
def qX161 : mm_X := fun b => if b = 126 then some (.inl (.int, 216, .inl fun _ => 0)) else qX160 b
def qH172 (L : Nat) (xs : Nat → Int32) (z : Value) : am_G := mm_hp (L, xs, z, qP4) qM7 qX161 (127, 600929, 7288419)
theorem qS172 : am_psh (qH171 L xs z) (.inl (.int, 216, .inl fun _ => 0)) 216 = (qH172 L xs z) := qpsh (w := (L, xs, z, qP4)) (μ := qM7) (X := qX160) (n := (126, 600930, 7288635)) (by decide) rfl rfl rfl
theorem qJ172 : am_S 133 (.newarray .int) 8 Lc (.int (Int32.ofInt 216) :: st) (qH171 L xs z) = am_go 10 Lc (.ref 126 :: st) (qH172 L xs z) := qnwa (by decide) (by decide) (by decide) rfl (show 1 ≤ 600930 by decide) (show 216 ≤ 7288635 by decide) rfl qS172 rfl
def qV91 : Nat → Value := updV qV90 3 (.ref 126)
def qX162 : mm_X := fun b => if b = 125 then some (.inr (9, qV91)) else qX161 b
def qH173 (L : Nat) (xs : Nat → Int32) (z : Value) : am_G := mm_hp (L, xs, z, qP4) qM7 qX162 (127, 600929, 7288419)
theorem qJ173 : am_pf (qH172 L xs z) 125 9 3 (.ref 126) = some (qH173 L xs z) := qpf (w := (L, xs, z, qP4)) (μ := qM7) (X := qX161) (n := (127, 600929, 7288419)) (V := qV90) (by decide) rfl rfl rfl
def qV92 : Nat → Value := updV qV91 0 (.ref 33)
def qX163 : mm_X := fun b => if b = 125 then some (.inr (9, qV92)) else qX162 b
def qH174 (L : Nat) (xs : Nat → Int32) (z : Value) : am_G := mm_hp (L, xs, z, qP4) qM7 qX163 (127, 600929, 7288419)
theorem qJ174 : am_pf (qH173 L xs z) 125 9 0 (.ref 33) = some (qH174 L xs z) := qpf (w := (L, xs, z, qP4)) (μ := qM7) (X := qX162) (n := (127, 600929, 7288419)) (V := qV91) (by decide) rfl rfl rfl
def qV93 : Nat → Value := updV qV92 1 (.ref 53)
def qX164 : mm_X := fun b => if b = 125 then some (.inr (9, qV93)) else qX163 b
def qH175 (L : Nat) (xs : Nat → Int32) (z : Value) : am_G := mm_hp (L, xs, z, qP4) qM7 qX164 (127, 600929, 7288419)
theorem qJ175 : am_pf (qH174 L xs z) 125 9 1 (.ref 53) = some (qH175 L xs z) := qpf (w := (L, xs, z, qP4)) (μ := qM7) (X := qX163) (n := (127, 600929, 7288419)) (V := qV92) (by decide) rfl rfl rfl
def qV94 : Nat → Value := updV qV93 2 (.ref 95)
def qX165 : mm_X := fun b => if b = 125 then some (.inr (9, qV94)) else qX164 b
def qH176 (L : Nat) (xs : Nat → Int32) (z : Value) : am_G := mm_hp (L, xs, z, qP4) qM7 qX165 (127, 600929, 7288419)
theorem qJ176 : am_pf (qH175 L xs z) 125 9 2 (.ref 95) = some (qH176 L xs z) := qpf (w := (L, xs, z, qP4)) (μ := qM7) (X := qX164) (n := (127, 600929, 7288419)) (V := qV93) (by decide) rfl rfl rfl
set_option maxRecDepth 20000 in
theorem qC19 {Q : am_Ou → am_G → Prop} : am_C 298 133 [.ref 125, .ref 33, .ref 53, .ref 95] (qH171 L xs z) Q ↔ Q (.inl none) (qH176 L xs z) := by
  rw [am_C_in (d := 297) (by simp [am_arg, m_133, Value.category]), show am_loc 133 [.ref 125, .ref 33, .ref 53, .ref 95] = [some (.ref 125), some (.ref 33), some (.ref 53), some (.ref 95)] from by simp [am_loc, am_arg, m_133, Value.category, List.replicate]]
  rw [x_133_0, lc_A_0, x_133_1, am_obj v_133_3 (by simp), am_K_go, x_133_4, lc_A_0, x_133_5, show ((216 : Int32)) = Int32.ofInt (216) from by decide, x_133_8, qJ172, am_K_go, y_133_10, qJ173, am_kg_some, x_133_13, lc_A_0, x_133_14, lc_A_1, y_133_15, qJ174, am_kg_some, x_133_18, lc_A_0, x_133_19, lc_A_2, y_133_20, qJ175, am_kg_some, x_133_23, lc_A_0, x_133_24, lc_A_3, y_133_25, qJ176, am_kg_some, x_133_28]
def qV95 : Nat → Value := updV qV89 5 (.ref 125)
def qX166 : mm_X := fun b => if b = 32 then some (.inr (0, qV95)) else qX165 b
def qH177 (L : Nat) (xs : Nat → Int32) (z : Value) : am_G := mm_hp (L, xs, z, qP4) qM7 qX166 (127, 600929, 7288419)
theorem qJ177 : am_pf (qH176 L xs z) 32 0 5 (.ref 125) = some (qH177 L xs z) := qpf (w := (L, xs, z, qP4)) (μ := qM7) (X := qX165) (n := (127, 600929, 7288419)) (V := qV89) (by decide) rfl rfl rfl
def qV96 : Nat → Value := updV qV95 6 (.ref 100)
def qX167 : mm_X := fun b => if b = 32 then some (.inr (0, qV96)) else qX166 b
def qH178 (L : Nat) (xs : Nat → Int32) (z : Value) : am_G := mm_hp (L, xs, z, qP4) qM7 qX167 (127, 600929, 7288419)
theorem qJ178 : am_pf (qH177 L xs z) 32 0 6 (.ref 100) = some (qH178 L xs z) := qpf (w := (L, xs, z, qP4)) (μ := qM7) (X := qX166) (n := (127, 600929, 7288419)) (V := qV95) (by decide) rfl rfl rfl
def qV97 : Nat → Value := updV qV96 7 (.ref 102)
def qX168 : mm_X := fun b => if b = 32 then some (.inr (0, qV97)) else qX167 b
def qH179 (L : Nat) (xs : Nat → Int32) (z : Value) : am_G := mm_hp (L, xs, z, qP4) qM7 qX168 (127, 600929, 7288419)
theorem qJ179 : am_pf (qH178 L xs z) 32 0 7 (.ref 102) = some (qH179 L xs z) := qpf (w := (L, xs, z, qP4)) (μ := qM7) (X := qX167) (n := (127, 600929, 7288419)) (V := qV96) (by decide) rfl rfl rfl
def qV98 : Nat → Value := fun k => defaultValue (am_ft 5 k).1
def qX169 : mm_X := fun b => if b = 127 then some (.inr (5, qV98)) else qX168 b
def qH180 (L : Nat) (xs : Nat → Int32) (z : Value) : am_G := mm_hp (L, xs, z, qP4) qM7 qX169 (128, 600928, 7288416)
theorem qS180 : am_psh (qH179 L xs z) (.inr (5, qV98)) 3 = (qH180 L xs z) := qpsh (w := (L, xs, z, qP4)) (μ := qM7) (X := qX168) (n := (127, 600929, 7288419)) (by decide) rfl rfl rfl
theorem qJ180 : am_S 23 (.new 69) 114 Lc st (qH179 L xs z) = am_go 117 Lc (.ref 127 :: st) (qH180 L xs z) := qnew w_23_69 (show 1 ≤ 600929 by decide) (show am_nf 5 ≤ 7288419 by decide) rfl qS180 rfl
def qV99 : Nat → Value := updV qV98 0 (.ref 100)
def qX170 : mm_X := fun b => if b = 127 then some (.inr (5, qV99)) else qX169 b
def qH181 (L : Nat) (xs : Nat → Int32) (z : Value) : am_G := mm_hp (L, xs, z, qP4) qM7 qX170 (128, 600928, 7288416)
theorem qJ181 : am_pf (qH180 L xs z) 127 5 0 (.ref 100) = some (qH181 L xs z) := qpf (w := (L, xs, z, qP4)) (μ := qM7) (X := qX169) (n := (128, 600928, 7288416)) (V := qV98) (by decide) rfl rfl rfl
def qV100 : Nat → Value := updV qV99 1 (.ref 102)
def qX171 : mm_X := fun b => if b = 127 then some (.inr (5, qV100)) else qX170 b
def qH182 (L : Nat) (xs : Nat → Int32) (z : Value) : am_G := mm_hp (L, xs, z, qP4) qM7 qX171 (128, 600928, 7288416)
theorem qJ182 : am_pf (qH181 L xs z) 127 5 1 (.ref 102) = some (qH182 L xs z) := qpf (w := (L, xs, z, qP4)) (μ := qM7) (X := qX170) (n := (128, 600928, 7288416)) (V := qV99) (by decide) rfl rfl rfl
set_option maxRecDepth 20000 in
theorem qC20 {Q : am_Ou → am_G → Prop} : am_C 298 94 [.ref 127, .ref 100, .ref 102] (qH180 L xs z) Q ↔ Q (.inl none) (qH182 L xs z) := by
  rw [am_C_in (d := 297) (by simp [am_arg, m_94, Value.category]), show am_loc 94 [.ref 127, .ref 100, .ref 102] = [some (.ref 127), some (.ref 100), some (.ref 102)] from by simp [am_loc, am_arg, m_94, Value.category, List.replicate]]
  rw [x_94_0, lc_A_0, x_94_1, am_obj v_94_3 (by simp), am_K_go, x_94_4, lc_A_0, x_94_5, lc_A_1, y_94_6, qJ181, am_kg_some, x_94_9, lc_A_0, x_94_10, lc_A_2, y_94_11, qJ182, am_kg_some, x_94_14]
def qV101 : Nat → Value := updV qV97 8 (.ref 127)
def qX172 : mm_X := fun b => if b = 32 then some (.inr (0, qV101)) else qX171 b
def qH183 (L : Nat) (xs : Nat → Int32) (z : Value) : am_G := mm_hp (L, xs, z, qP4) qM7 qX172 (128, 600928, 7288416)
theorem qJ183 : am_pf (qH182 L xs z) 32 0 8 (.ref 127) = some (qH183 L xs z) := qpf (w := (L, xs, z, qP4)) (μ := qM7) (X := qX171) (n := (128, 600928, 7288416)) (V := qV97) (by decide) rfl rfl rfl
def qX173 : mm_X := fun b => if b = 128 then some (.inl (.int, 3, .inl fun _ => 0)) else qX172 b
def qH184 (L : Nat) (xs : Nat → Int32) (z : Value) : am_G := mm_hp (L, xs, z, qP4) qM7 qX173 (129, 600927, 7288413)
theorem qS184 : am_psh (qH183 L xs z) (.inl (.int, 3, .inl fun _ => 0)) 3 = (qH184 L xs z) := qpsh (w := (L, xs, z, qP4)) (μ := qM7) (X := qX172) (n := (128, 600928, 7288416)) (by decide) rfl rfl rfl
theorem qJ184 : am_S 23 (.newarray .int) 130 Lc (.int (Int32.ofInt 3) :: st) (qH183 L xs z) = am_go 132 Lc (.ref 128 :: st) (qH184 L xs z) := qnwa (by decide) (by decide) (by decide) rfl (show 1 ≤ 600928 by decide) (show 3 ≤ 7288416 by decide) rfl qS184 rfl
def qV102 : Nat → Value := updV qV101 9 (.ref 128)
def qX174 : mm_X := fun b => if b = 32 then some (.inr (0, qV102)) else qX173 b
def qH185 (L : Nat) (xs : Nat → Int32) (z : Value) : am_G := mm_hp (L, xs, z, qP4) qM7 qX174 (129, 600927, 7288413)
theorem qJ185 : am_pf (qH184 L xs z) 32 0 9 (.ref 128) = some (qH185 L xs z) := qpf (w := (L, xs, z, qP4)) (μ := qM7) (X := qX173) (n := (129, 600927, 7288413)) (V := qV101) (by decide) rfl rfl rfl
set_option maxRecDepth 20000 in
theorem qC21 {Q : am_Ou → am_G → Prop} : am_C 299 23 [.ref 32] (qH1 L xs z) Q ↔ Q (.inl none) (qH185 L xs z) := by
  rw [am_C_in (d := 298) (by simp [am_arg, m_23, Value.category]), show am_loc 23 [.ref 32] = [some (.ref 32), none, none, none, none, none] from by simp [am_loc, am_arg, m_23, Value.category, List.replicate]]
  rw [x_23_0, lc_A_0, x_23_1, am_obj v_23_1 (by simp), am_K_go, x_23_4, qJ2, am_K_go, x_23_7, if_pos (by rfl), z_23_8 (by simp), qC4, bk_n, x_23_11, sc_A_1 (by rfl), x_23_12, qJ50, am_K_go, x_23_15, if_pos (by rfl), z_23_16 (by simp), qC13, bk_n, x_23_19, sc_A_2 (by rfl), x_23_20, qJ133, am_K_go, x_23_23, if_pos (by rfl), z_23_24 (by simp), qC14, bk_n, x_23_27, sc_A_3 (by rfl), x_23_28, qJ139, am_K_go, x_23_31, if_pos (by rfl), z_23_32 (by simp), qC15, bk_n, x_23_35, sc_A_4 (by rfl), x_23_37, qJ142, am_K_go, x_23_40, if_pos (by rfl), z_23_41 (by simp), qC16, bk_n, x_23_44, sc_A_5 (by rfl), x_23_46, lc_A_0, x_23_47, lc_A_1, y_23_48, qJ151, am_kg_some, x_23_51, lc_A_0, x_23_52, lc_A_2, y_23_53, qJ152, am_kg_some, x_23_56, lc_A_0, x_23_57, lc_A_3, y_23_58, qJ153, am_kg_some, x_23_61, lc_A_0, x_23_62, qJ154, am_K_go, x_23_65, if_pos (by rfl), x_23_66, lc_A_3, z_23_67 (by simp), qC17, bk_n, y_23_70, qJ160, am_kg_some, x_23_73, lc_A_0, x_23_74, qJ161, am_K_go, x_23_77, if_pos (by rfl), x_23_78, lc_A_1, x_23_79, lc_A_2, x_23_80, lc_A_3, z_23_81 (by simp), qC18, bk_n, y_23_84, qJ170, am_kg_some, x_23_87, lc_A_0, x_23_88, qJ171, am_K_go, x_23_91, if_pos (by rfl), x_23_92, lc_A_1, x_23_93, lc_A_2, x_23_94, lc_A_3, z_23_95 (by simp), qC19, bk_n, y_23_98, qJ177, am_kg_some, x_23_101, lc_A_0, x_23_102, lc_A_4, y_23_104, qJ178, am_kg_some, x_23_107, lc_A_0, x_23_108, lc_A_5, y_23_110, qJ179, am_kg_some, x_23_113, lc_A_0, x_23_114, qJ180, am_K_go, x_23_117, if_pos (by rfl), x_23_118, lc_A_4, x_23_120, lc_A_5, z_23_122 (by simp), qC20, bk_n, y_23_125, qJ183, am_kg_some, x_23_128, lc_A_0, x_23_129, show ((3 : Int32)) = Int32.ofInt (3) from by decide, x_23_130, qJ184, am_K_go, y_23_132, qJ185, am_kg_some, x_23_135]
def qP5 : Nat → Bool := fun b => qP4 b || [32, 33, 34, 53, 54, 55, 56, 57, 58, 59, 60, 61, 62, 63, 64, 65, 66, 67, 68, 69, 70, 71, 72, 73, 74, 75, 76, 77, 78, 79, 80, 81, 82, 83, 84, 85, 86, 87, 88, 89, 90, 91, 92, 93, 94, 95, 96, 98, 99, 100, 101, 102, 103, 104, 105, 106, 107, 108, 109, 110, 111, 112, 113, 114, 115, 116, 117, 118, 119, 120, 121, 122, 123, 124, 125, 126, 127, 128].contains b
set_option maxRecDepth 20000 in
theorem qK32 : qX174 32 = mm_c qI 32 := by
  show some (Sum.inr (0, qV102)) = some (Sum.inr (0, fun k => mm_ob qI 0 32 k))
  refine congrArg (fun f => some (Sum.inr (0, f))) (funext fun k => ?_)
  match k with
  | 0 => rfl
  | 1 => rfl
  | 2 => rfl
  | 3 => rfl
  | 4 => rfl
  | 5 => rfl
  | 6 => rfl
  | 7 => rfl
  | 8 => rfl
  | 9 => rfl
  | k + 10 => rfl
set_option maxRecDepth 20000 in
theorem qK33 : qX174 33 = mm_c qI 33 := by
  show some (Sum.inr (8, qV3)) = some (Sum.inr (8, fun k => mm_ob qI 8 33 k))
  refine congrArg (fun f => some (Sum.inr (8, f))) (funext fun k => ?_)
  match k with
  | 0 => rfl
  | k + 1 => rfl
set_option maxRecDepth 20000 in
theorem qK34 : qX174 34 = mm_c qI 34 := by
  show some (Sum.inl (FieldType.object "ModelSheet$Tree", 3, Sum.inr (Sum.inr (Sum.inr (Sum.inr qF4))))) = some (Sum.inl (mm_et 34, 3, Sum.inr (Sum.inr (Sum.inr (Sum.inr (fun j => if j < 3 then some (mm_ra qI 34 j) else none))))))
  refine congrArg (fun f => some (Sum.inl (FieldType.object "ModelSheet$Tree", 3, Sum.inr (Sum.inr (Sum.inr (Sum.inr f)))))) (funext fun j => ?_)
  match j with
  | 0 => rfl
  | 1 => rfl
  | 2 => rfl
  | j + 3 => rfl
set_option maxRecDepth 20000 in
theorem qK53 : qX174 53 = mm_c qI 53 := by
  show some (Sum.inr (7, qV23)) = some (Sum.inr (7, fun k => mm_ob qI 7 53 k))
  refine congrArg (fun f => some (Sum.inr (7, f))) (funext fun k => ?_)
  match k with
  | 0 => rfl
  | 1 => rfl
  | k + 2 => rfl
set_option maxRecDepth 20000 in
theorem qK54 : qX174 54 = mm_c qI 54 := by
  show some (Sum.inl (FieldType.object "ModelSheet$Rule", 8, Sum.inr (Sum.inr (Sum.inr (Sum.inr qF13))))) = some (Sum.inl (mm_et 54, 8, Sum.inr (Sum.inr (Sum.inr (Sum.inr (fun j => if j < 8 then some (mm_ra qI 54 j) else none))))))
  refine congrArg (fun f => some (Sum.inl (FieldType.object "ModelSheet$Rule", 8, Sum.inr (Sum.inr (Sum.inr (Sum.inr f)))))) (funext fun j => ?_)
  match j with
  | 0 => rfl
  | 1 => rfl
  | 2 => rfl
  | 3 => rfl
  | 4 => rfl
  | 5 => rfl
  | 6 => rfl
  | 7 => rfl
  | j + 8 => rfl
set_option maxRecDepth 20000 in
theorem qK55 : qX174 55 = mm_c qI 55 := by
  show some (Sum.inr (6, qV28)) = some (Sum.inr (6, fun k => mm_ob qI 6 55 k))
  refine congrArg (fun f => some (Sum.inr (6, f))) (funext fun k => ?_)
  match k with
  | 0 => rfl
  | 1 => rfl
  | 2 => rfl
  | 3 => rfl
  | 4 => rfl
  | k + 5 => rfl
set_option maxRecDepth 20000 in
theorem qK56 : qX174 56 = mm_c qI 56 := rfl
set_option maxRecDepth 20000 in
theorem qK57 : qX174 57 = mm_c qI 57 := rfl
set_option maxRecDepth 20000 in
theorem qK58 : qX174 58 = mm_c qI 58 := rfl
set_option maxRecDepth 20000 in
theorem qK59 : qX174 59 = mm_c qI 59 := rfl
set_option maxRecDepth 20000 in
theorem qK60 : qX174 60 = mm_c qI 60 := by
  show some (Sum.inr (6, qV33)) = some (Sum.inr (6, fun k => mm_ob qI 6 60 k))
  refine congrArg (fun f => some (Sum.inr (6, f))) (funext fun k => ?_)
  match k with
  | 0 => rfl
  | 1 => rfl
  | 2 => rfl
  | 3 => rfl
  | 4 => rfl
  | k + 5 => rfl
set_option maxRecDepth 20000 in
theorem qK61 : qX174 61 = mm_c qI 61 := rfl
set_option maxRecDepth 20000 in
theorem qK62 : qX174 62 = mm_c qI 62 := rfl
set_option maxRecDepth 20000 in
theorem qK63 : qX174 63 = mm_c qI 63 := rfl
set_option maxRecDepth 20000 in
theorem qK64 : qX174 64 = mm_c qI 64 := rfl
set_option maxRecDepth 20000 in
theorem qK65 : qX174 65 = mm_c qI 65 := by
  show some (Sum.inr (6, qV38)) = some (Sum.inr (6, fun k => mm_ob qI 6 65 k))
  refine congrArg (fun f => some (Sum.inr (6, f))) (funext fun k => ?_)
  match k with
  | 0 => rfl
  | 1 => rfl
  | 2 => rfl
  | 3 => rfl
  | 4 => rfl
  | k + 5 => rfl
set_option maxRecDepth 20000 in
theorem qK66 : qX174 66 = mm_c qI 66 := rfl
set_option maxRecDepth 20000 in
theorem qK67 : qX174 67 = mm_c qI 67 := rfl
set_option maxRecDepth 20000 in
theorem qK68 : qX174 68 = mm_c qI 68 := rfl
set_option maxRecDepth 20000 in
theorem qK69 : qX174 69 = mm_c qI 69 := rfl
set_option maxRecDepth 20000 in
theorem qK70 : qX174 70 = mm_c qI 70 := by
  show some (Sum.inr (6, qV43)) = some (Sum.inr (6, fun k => mm_ob qI 6 70 k))
  refine congrArg (fun f => some (Sum.inr (6, f))) (funext fun k => ?_)
  match k with
  | 0 => rfl
  | 1 => rfl
  | 2 => rfl
  | 3 => rfl
  | 4 => rfl
  | k + 5 => rfl
set_option maxRecDepth 20000 in
theorem qK71 : qX174 71 = mm_c qI 71 := rfl
set_option maxRecDepth 20000 in
theorem qK72 : qX174 72 = mm_c qI 72 := rfl
set_option maxRecDepth 20000 in
theorem qK73 : qX174 73 = mm_c qI 73 := rfl
set_option maxRecDepth 20000 in
theorem qK74 : qX174 74 = mm_c qI 74 := rfl
set_option maxRecDepth 20000 in
theorem qK75 : qX174 75 = mm_c qI 75 := by
  show some (Sum.inr (6, qV48)) = some (Sum.inr (6, fun k => mm_ob qI 6 75 k))
  refine congrArg (fun f => some (Sum.inr (6, f))) (funext fun k => ?_)
  match k with
  | 0 => rfl
  | 1 => rfl
  | 2 => rfl
  | 3 => rfl
  | 4 => rfl
  | k + 5 => rfl
set_option maxRecDepth 20000 in
theorem qK76 : qX174 76 = mm_c qI 76 := rfl
set_option maxRecDepth 20000 in
theorem qK77 : qX174 77 = mm_c qI 77 := rfl
set_option maxRecDepth 20000 in
theorem qK78 : qX174 78 = mm_c qI 78 := rfl
set_option maxRecDepth 20000 in
theorem qK79 : qX174 79 = mm_c qI 79 := rfl
set_option maxRecDepth 20000 in
theorem qK80 : qX174 80 = mm_c qI 80 := by
  show some (Sum.inr (6, qV53)) = some (Sum.inr (6, fun k => mm_ob qI 6 80 k))
  refine congrArg (fun f => some (Sum.inr (6, f))) (funext fun k => ?_)
  match k with
  | 0 => rfl
  | 1 => rfl
  | 2 => rfl
  | 3 => rfl
  | 4 => rfl
  | k + 5 => rfl
set_option maxRecDepth 20000 in
theorem qK81 : qX174 81 = mm_c qI 81 := rfl
set_option maxRecDepth 20000 in
theorem qK82 : qX174 82 = mm_c qI 82 := rfl
set_option maxRecDepth 20000 in
theorem qK83 : qX174 83 = mm_c qI 83 := rfl
set_option maxRecDepth 20000 in
theorem qK84 : qX174 84 = mm_c qI 84 := rfl
set_option maxRecDepth 20000 in
theorem qK85 : qX174 85 = mm_c qI 85 := by
  show some (Sum.inr (6, qV58)) = some (Sum.inr (6, fun k => mm_ob qI 6 85 k))
  refine congrArg (fun f => some (Sum.inr (6, f))) (funext fun k => ?_)
  match k with
  | 0 => rfl
  | 1 => rfl
  | 2 => rfl
  | 3 => rfl
  | 4 => rfl
  | k + 5 => rfl
set_option maxRecDepth 20000 in
theorem qK86 : qX174 86 = mm_c qI 86 := rfl
set_option maxRecDepth 20000 in
theorem qK87 : qX174 87 = mm_c qI 87 := rfl
set_option maxRecDepth 20000 in
theorem qK88 : qX174 88 = mm_c qI 88 := rfl
set_option maxRecDepth 20000 in
theorem qK89 : qX174 89 = mm_c qI 89 := rfl
set_option maxRecDepth 20000 in
theorem qK90 : qX174 90 = mm_c qI 90 := by
  show some (Sum.inr (6, qV63)) = some (Sum.inr (6, fun k => mm_ob qI 6 90 k))
  refine congrArg (fun f => some (Sum.inr (6, f))) (funext fun k => ?_)
  match k with
  | 0 => rfl
  | 1 => rfl
  | 2 => rfl
  | 3 => rfl
  | 4 => rfl
  | k + 5 => rfl
set_option maxRecDepth 20000 in
theorem qK91 : qX174 91 = mm_c qI 91 := rfl
set_option maxRecDepth 20000 in
theorem qK92 : qX174 92 = mm_c qI 92 := rfl
set_option maxRecDepth 20000 in
theorem qK93 : qX174 93 = mm_c qI 93 := rfl
set_option maxRecDepth 20000 in
theorem qK94 : qX174 94 = mm_c qI 94 := rfl
set_option maxRecDepth 20000 in
theorem qK95 : qX174 95 = mm_c qI 95 := by
  show some (Sum.inr (2, qV66)) = some (Sum.inr (2, fun k => mm_ob qI 2 95 k))
  refine congrArg (fun f => some (Sum.inr (2, f))) (funext fun k => ?_)
  match k with
  | 0 => rfl
  | 1 => rfl
  | k + 2 => rfl
set_option maxRecDepth 20000 in
theorem qK96 : qX174 96 = mm_c qI 96 := by
  show some (Sum.inl (FieldType.array FieldType.int, 3, Sum.inr (Sum.inr (Sum.inr (Sum.inr qF14))))) = some (Sum.inl (mm_et 96, 3, Sum.inr (Sum.inr (Sum.inr (Sum.inr (fun j => if j < 3 then some (mm_ra qI 96 j) else none))))))
  refine congrArg (fun f => some (Sum.inl (FieldType.array FieldType.int, 3, Sum.inr (Sum.inr (Sum.inr (Sum.inr f)))))) (funext fun j => ?_)
  match j with
  | 0 => rfl
  | 1 => rfl
  | 2 => rfl
  | j + 3 => rfl
set_option maxRecDepth 20000 in
theorem qK98 : qX174 98 = mm_c qI 98 := rfl
set_option maxRecDepth 20000 in
theorem qK99 : qX174 99 = mm_c qI 99 := rfl
set_option maxRecDepth 20000 in
theorem qK100 : qX174 100 = mm_c qI 100 := by
  show some (Sum.inr (4, qV68)) = some (Sum.inr (4, fun k => mm_ob qI 4 100 k))
  refine congrArg (fun f => some (Sum.inr (4, f))) (funext fun k => ?_)
  match k with
  | 0 => rfl
  | 1 => rfl
  | k + 2 => rfl
set_option maxRecDepth 20000 in
theorem qK101 : qX174 101 = mm_c qI 101 := rfl
set_option maxRecDepth 20000 in
theorem qK102 : qX174 102 = mm_c qI 102 := by
  show some (Sum.inr (6, qV73)) = some (Sum.inr (6, fun k => mm_ob qI 6 102 k))
  refine congrArg (fun f => some (Sum.inr (6, f))) (funext fun k => ?_)
  match k with
  | 0 => rfl
  | 1 => rfl
  | 2 => rfl
  | 3 => rfl
  | 4 => rfl
  | k + 5 => rfl
set_option maxRecDepth 20000 in
theorem qK103 : qX174 103 = mm_c qI 103 := rfl
set_option maxRecDepth 20000 in
theorem qK104 : qX174 104 = mm_c qI 104 := rfl
set_option maxRecDepth 20000 in
theorem qK105 : qX174 105 = mm_c qI 105 := rfl
set_option maxRecDepth 20000 in
theorem qK106 : qX174 106 = mm_c qI 106 := rfl
set_option maxRecDepth 20000 in
theorem qK107 : qX174 107 = mm_c qI 107 := by
  show some (Sum.inr (3, qV80)) = some (Sum.inr (3, fun k => mm_ob qI 3 107 k))
  refine congrArg (fun f => some (Sum.inr (3, f))) (funext fun k => ?_)
  match k with
  | 0 => rfl
  | 1 => rfl
  | 2 => rfl
  | 3 => rfl
  | 4 => rfl
  | 5 => rfl
  | k + 6 => rfl
set_option maxRecDepth 20000 in
theorem qK108 : qX174 108 = mm_c qI 108 := by
  show some (Sum.inl (FieldType.array FieldType.int, 12, Sum.inr (Sum.inr (Sum.inr (Sum.inr qF15))))) = some (Sum.inl (mm_et 108, 12, Sum.inr (Sum.inr (Sum.inr (Sum.inr (fun j => if j < 12 then some (mm_ra qI 108 j) else none))))))
  refine congrArg (fun f => some (Sum.inl (FieldType.array FieldType.int, 12, Sum.inr (Sum.inr (Sum.inr (Sum.inr f)))))) (funext fun j => ?_)
  match j with
  | 0 => rfl
  | 1 => rfl
  | 2 => rfl
  | 3 => rfl
  | 4 => rfl
  | 5 => rfl
  | 6 => rfl
  | 7 => rfl
  | 8 => rfl
  | 9 => rfl
  | 10 => rfl
  | 11 => rfl
  | j + 12 => rfl
set_option maxRecDepth 20000 in
theorem qK109 : qX174 109 = mm_c qI 109 := rfl
set_option maxRecDepth 20000 in
theorem qK110 : qX174 110 = mm_c qI 110 := rfl
set_option maxRecDepth 20000 in
theorem qK111 : qX174 111 = mm_c qI 111 := rfl
set_option maxRecDepth 20000 in
theorem qK112 : qX174 112 = mm_c qI 112 := rfl
set_option maxRecDepth 20000 in
theorem qK113 : qX174 113 = mm_c qI 113 := rfl
set_option maxRecDepth 20000 in
theorem qK114 : qX174 114 = mm_c qI 114 := rfl
set_option maxRecDepth 20000 in
theorem qK115 : qX174 115 = mm_c qI 115 := rfl
set_option maxRecDepth 20000 in
theorem qK116 : qX174 116 = mm_c qI 116 := rfl
set_option maxRecDepth 20000 in
theorem qK117 : qX174 117 = mm_c qI 117 := rfl
set_option maxRecDepth 20000 in
theorem qK118 : qX174 118 = mm_c qI 118 := rfl
set_option maxRecDepth 20000 in
theorem qK119 : qX174 119 = mm_c qI 119 := rfl
set_option maxRecDepth 20000 in
theorem qK120 : qX174 120 = mm_c qI 120 := rfl
set_option maxRecDepth 20000 in
theorem qK121 : qX174 121 = mm_c qI 121 := rfl
set_option maxRecDepth 20000 in
theorem qK122 : qX174 122 = mm_c qI 122 := by
  show some (Sum.inr (1, qV88)) = some (Sum.inr (1, fun k => mm_ob qI 1 122 k))
  refine congrArg (fun f => some (Sum.inr (1, f))) (funext fun k => ?_)
  match k with
  | 0 => rfl
  | 1 => rfl
  | 2 => rfl
  | 3 => rfl
  | 4 => rfl
  | 5 => rfl
  | 6 => rfl
  | 7 => rfl
  | 8 => rfl
  | 9 => rfl
  | k + 10 => rfl
set_option maxRecDepth 20000 in
theorem qK123 : qX174 123 = mm_c qI 123 := rfl
set_option maxRecDepth 20000 in
theorem qK124 : qX174 124 = mm_c qI 124 := rfl
set_option maxRecDepth 20000 in
theorem qK125 : qX174 125 = mm_c qI 125 := by
  show some (Sum.inr (9, qV94)) = some (Sum.inr (9, fun k => mm_ob qI 9 125 k))
  refine congrArg (fun f => some (Sum.inr (9, f))) (funext fun k => ?_)
  match k with
  | 0 => rfl
  | 1 => rfl
  | 2 => rfl
  | 3 => rfl
  | 4 => rfl
  | 5 => rfl
  | k + 6 => rfl
set_option maxRecDepth 20000 in
theorem qK126 : qX174 126 = mm_c qI 126 := rfl
set_option maxRecDepth 20000 in
theorem qK127 : qX174 127 = mm_c qI 127 := by
  show some (Sum.inr (5, qV100)) = some (Sum.inr (5, fun k => mm_ob qI 5 127 k))
  refine congrArg (fun f => some (Sum.inr (5, f))) (funext fun k => ?_)
  match k with
  | 0 => rfl
  | 1 => rfl
  | 2 => rfl
  | k + 3 => rfl
set_option maxRecDepth 20000 in
theorem qK128 : qX174 128 = mm_c qI 128 := rfl
def qH186 (L : Nat) (xs : Nat → Int32) (z : Value) : am_G := mm_hp (L, xs, z, qP5) qM7 qX174 (129, 600927, 7288413)
theorem qJ186 : (qH185 L xs z) = (qH186 L xs z) := qflipl [32, 33, 34, 53, 54, 55, 56, 57, 58, 59, 60, 61, 62, 63, 64, 65, 66, 67, 68, 69, 70, 71, 72, 73, 74, 75, 76, 77, 78, 79, 80, 81, 82, 83, 84, 85, 86, 87, 88, 89, 90, 91, 92, 93, 94, 95, 96, 98, 99, 100, 101, 102, 103, 104, 105, 106, 107, 108, 109, 110, 111, 112, 113, 114, 115, 116, 117, 118, 119, 120, 121, 122, 123, 124, 125, 126, 127, 128] rfl (by
  intro b hb _
  simp only [List.mem_cons, List.not_mem_nil, or_false] at hb
  rcases hb with rfl | rfl | rfl | rfl | rfl | rfl | rfl | rfl | rfl | rfl | rfl | rfl | rfl | rfl | rfl | rfl | rfl | rfl | rfl | rfl | rfl | rfl | rfl | rfl | rfl | rfl | rfl | rfl | rfl | rfl | rfl | rfl | rfl | rfl | rfl | rfl | rfl | rfl | rfl | rfl | rfl | rfl | rfl | rfl | rfl | rfl | rfl | rfl | rfl | rfl | rfl | rfl | rfl | rfl | rfl | rfl | rfl | rfl | rfl | rfl | rfl | rfl | rfl | rfl | rfl | rfl | rfl | rfl | rfl | rfl | rfl | rfl | rfl | rfl | rfl | rfl | rfl | rfl
  · exact qK32.trans (mm_c_of (qE7 (by decide)) (fun q => absurd q (by decide))).symm
  · exact qK33.trans (mm_c_of (qE7 (by decide)) (fun q => absurd q (by decide))).symm
  · exact qK34.trans (mm_c_of (qE7 (by decide)) (fun q => absurd q (by decide))).symm
  · exact qK53.trans (mm_c_of (qE7 (by decide)) (fun q => absurd q (by decide))).symm
  · exact qK54.trans (mm_c_of (qE7 (by decide)) (fun _ => qE7 (by decide))).symm
  · exact qK55.trans (mm_c_of (qE7 (by decide)) (fun q => absurd q (by decide))).symm
  · exact qK56.trans (mm_c_of (qE7 (by decide)) (fun q => absurd q (by decide))).symm
  · exact qK57.trans (mm_c_of (qE7 (by decide)) (fun q => absurd q (by decide))).symm
  · exact qK58.trans (mm_c_of (qE7 (by decide)) (fun q => absurd q (by decide))).symm
  · exact qK59.trans (mm_c_of (qE7 (by decide)) (fun q => absurd q (by decide))).symm
  · exact qK60.trans (mm_c_of (qE7 (by decide)) (fun q => absurd q (by decide))).symm
  · exact qK61.trans (mm_c_of (qE7 (by decide)) (fun q => absurd q (by decide))).symm
  · exact qK62.trans (mm_c_of (qE7 (by decide)) (fun q => absurd q (by decide))).symm
  · exact qK63.trans (mm_c_of (qE7 (by decide)) (fun q => absurd q (by decide))).symm
  · exact qK64.trans (mm_c_of (qE7 (by decide)) (fun q => absurd q (by decide))).symm
  · exact qK65.trans (mm_c_of (qE7 (by decide)) (fun q => absurd q (by decide))).symm
  · exact qK66.trans (mm_c_of (qE7 (by decide)) (fun q => absurd q (by decide))).symm
  · exact qK67.trans (mm_c_of (qE7 (by decide)) (fun q => absurd q (by decide))).symm
  · exact qK68.trans (mm_c_of (qE7 (by decide)) (fun q => absurd q (by decide))).symm
  · exact qK69.trans (mm_c_of (qE7 (by decide)) (fun q => absurd q (by decide))).symm
  · exact qK70.trans (mm_c_of (qE7 (by decide)) (fun q => absurd q (by decide))).symm
  · exact qK71.trans (mm_c_of (qE7 (by decide)) (fun q => absurd q (by decide))).symm
  · exact qK72.trans (mm_c_of (qE7 (by decide)) (fun q => absurd q (by decide))).symm
  · exact qK73.trans (mm_c_of (qE7 (by decide)) (fun q => absurd q (by decide))).symm
  · exact qK74.trans (mm_c_of (qE7 (by decide)) (fun q => absurd q (by decide))).symm
  · exact qK75.trans (mm_c_of (qE7 (by decide)) (fun q => absurd q (by decide))).symm
  · exact qK76.trans (mm_c_of (qE7 (by decide)) (fun q => absurd q (by decide))).symm
  · exact qK77.trans (mm_c_of (qE7 (by decide)) (fun q => absurd q (by decide))).symm
  · exact qK78.trans (mm_c_of (qE7 (by decide)) (fun q => absurd q (by decide))).symm
  · exact qK79.trans (mm_c_of (qE7 (by decide)) (fun q => absurd q (by decide))).symm
  · exact qK80.trans (mm_c_of (qE7 (by decide)) (fun q => absurd q (by decide))).symm
  · exact qK81.trans (mm_c_of (qE7 (by decide)) (fun q => absurd q (by decide))).symm
  · exact qK82.trans (mm_c_of (qE7 (by decide)) (fun q => absurd q (by decide))).symm
  · exact qK83.trans (mm_c_of (qE7 (by decide)) (fun q => absurd q (by decide))).symm
  · exact qK84.trans (mm_c_of (qE7 (by decide)) (fun q => absurd q (by decide))).symm
  · exact qK85.trans (mm_c_of (qE7 (by decide)) (fun q => absurd q (by decide))).symm
  · exact qK86.trans (mm_c_of (qE7 (by decide)) (fun q => absurd q (by decide))).symm
  · exact qK87.trans (mm_c_of (qE7 (by decide)) (fun q => absurd q (by decide))).symm
  · exact qK88.trans (mm_c_of (qE7 (by decide)) (fun q => absurd q (by decide))).symm
  · exact qK89.trans (mm_c_of (qE7 (by decide)) (fun q => absurd q (by decide))).symm
  · exact qK90.trans (mm_c_of (qE7 (by decide)) (fun q => absurd q (by decide))).symm
  · exact qK91.trans (mm_c_of (qE7 (by decide)) (fun q => absurd q (by decide))).symm
  · exact qK92.trans (mm_c_of (qE7 (by decide)) (fun q => absurd q (by decide))).symm
  · exact qK93.trans (mm_c_of (qE7 (by decide)) (fun q => absurd q (by decide))).symm
  · exact qK94.trans (mm_c_of (qE7 (by decide)) (fun q => absurd q (by decide))).symm
  · exact qK95.trans (mm_c_of (qE7 (by decide)) (fun q => absurd q (by decide))).symm
  · exact qK96.trans (mm_c_of (qE7 (by decide)) (fun q => absurd q (by decide))).symm
  · exact qK98.trans (mm_c_of (qE7 (by decide)) (fun q => absurd q (by decide))).symm
  · exact qK99.trans (mm_c_of (qE7 (by decide)) (fun q => absurd q (by decide))).symm
  · exact qK100.trans (mm_c_of (qE7 (by decide)) (fun q => absurd q (by decide))).symm
  · exact qK101.trans (mm_c_of (qE7 (by decide)) (fun q => absurd q (by decide))).symm
  · exact qK102.trans (mm_c_of (qE7 (by decide)) (fun q => absurd q (by decide))).symm
  · exact qK103.trans (mm_c_of (qE7 (by decide)) (fun q => absurd q (by decide))).symm
  · exact qK104.trans (mm_c_of (qE7 (by decide)) (fun q => absurd q (by decide))).symm
  · exact qK105.trans (mm_c_of (qE7 (by decide)) (fun q => absurd q (by decide))).symm
  · exact qK106.trans (mm_c_of (qE7 (by decide)) (fun q => absurd q (by decide))).symm
  · exact qK107.trans (mm_c_of (qE7 (by decide)) (fun q => absurd q (by decide))).symm
  · exact qK108.trans (mm_c_of (qE7 (by decide)) (fun q => absurd q (by decide))).symm
  · exact qK109.trans (mm_c_of (qE7 (by decide)) (fun q => absurd q (by decide))).symm
  · exact qK110.trans (mm_c_of (qE7 (by decide)) (fun q => absurd q (by decide))).symm
  · exact qK111.trans (mm_c_of (qE7 (by decide)) (fun q => absurd q (by decide))).symm
  · exact qK112.trans (mm_c_of (qE7 (by decide)) (fun q => absurd q (by decide))).symm
  · exact qK113.trans (mm_c_of (qE7 (by decide)) (fun q => absurd q (by decide))).symm
  · exact qK114.trans (mm_c_of (qE7 (by decide)) (fun q => absurd q (by decide))).symm
  · exact qK115.trans (mm_c_of (qE7 (by decide)) (fun q => absurd q (by decide))).symm
  · exact qK116.trans (mm_c_of (qE7 (by decide)) (fun q => absurd q (by decide))).symm
  · exact qK117.trans (mm_c_of (qE7 (by decide)) (fun q => absurd q (by decide))).symm
  · exact qK118.trans (mm_c_of (qE7 (by decide)) (fun q => absurd q (by decide))).symm
  · exact qK119.trans (mm_c_of (qE7 (by decide)) (fun q => absurd q (by decide))).symm
  · exact qK120.trans (mm_c_of (qE7 (by decide)) (fun q => absurd q (by decide))).symm
  · exact qK121.trans (mm_c_of (qE7 (by decide)) (fun q => absurd q (by decide))).symm
  · exact qK122.trans (mm_c_of (qE7 (by decide)) (fun q => absurd q (by decide))).symm
  · exact qK123.trans (mm_c_of (qE7 (by decide)) (fun q => absurd q (by decide))).symm
  · exact qK124.trans (mm_c_of (qE7 (by decide)) (fun q => absurd q (by decide))).symm
  · exact qK125.trans (mm_c_of (qE7 (by decide)) (fun q => absurd q (by decide))).symm
  · exact qK126.trans (mm_c_of (qE7 (by decide)) (fun q => absurd q (by decide))).symm
  · exact qK127.trans (mm_c_of (qE7 (by decide)) (fun q => absurd q (by decide))).symm
  · exact qK128.trans (mm_c_of (qE7 (by decide)) (fun q => absurd q (by decide))).symm)
theorem qPo5 {b : Nat} (h : 129 ≤ b) : qP5 b = false := by
  show (qP4 b || [32, 33, 34, 53, 54, 55, 56, 57, 58, 59, 60, 61, 62, 63, 64, 65, 66, 67, 68, 69, 70, 71, 72, 73, 74, 75, 76, 77, 78, 79, 80, 81, 82, 83, 84, 85, 86, 87, 88, 89, 90, 91, 92, 93, 94, 95, 96, 98, 99, 100, 101, 102, 103, 104, 105, 106, 107, 108, 109, 110, 111, 112, 113, 114, 115, 116, 117, 118, 119, 120, 121, 122, 123, 124, 125, 126, 127, 128].contains b) = false
  rw [qPo4 (by omega)]
  show List.contains _ b = false
  simp
  omega
end QS