/-! Spread: the leaf cells within a cell, as both sides list them. -/
def ls (f : Int → List Int) : Nat → Int → List Int
  | 0, _ => []
  | k + 1, i => f i ++ ls f k (i + 1)
/-- a list stands in row a from index 0 on -/
def mm_pl (μ : mm_M) (a : Nat) (l : List Int) : mm_M := fun x j => if x = a ∧ 0 ≤ j ∧ j < l.length then l.getD j.toNat 0 else μ x j
section SL
variable {d : Nat} {Q : am_Ou → am_G → Prop} {w : mm_Z} {μ : mm_M} {X : mm_X} {n : mm_N} {e m c x y z : Int} {f g : Int → List Int} {l : List Int} {a b : Nat} {P : Int → Bool}
theorem ls_c : ∀ (k : Nat) (i : Int), (∀ j, i ≤ j → j < i + k → f j = g j) → ls f k i = ls g k i := by
  intro k
  induction k with
  | zero => intro i _; rfl
  | succ k ih =>
    intro i h
    unfold ls
    rw [h i (by omega) (by omega), ih (i + 1) (fun j j0 j1 => h j (by omega) (by omega))]
theorem ls_add : ∀ (k j : Nat) (i : Int), ls f (k + j) i = ls f k i ++ ls f j (i + k) := by
  intro k
  induction k with
  | zero => intro j i; rw [Nat.zero_add, show i + ((0 : Nat) : Int) = i by omega]; rfl
  | succ k ih =>
    intro j i
    rw [show k + 1 + j = (k + j) + 1 by omega]
    show f i ++ ls f (k + j) (i + 1) = (f i ++ ls f k (i + 1)) ++ ls f j (i + ((k + 1 : Nat) : Int))
    rw [ih, List.append_assoc, show i + 1 + (k : Int) = i + ((k + 1 : Nat) : Int) by omega]
theorem ls_len (B : Nat) (h : ∀ j, (f j).length ≤ B) : ∀ (k : Nat) (i : Int), (ls f k i).length ≤ B * k := by
  intro k
  induction k with
  | zero => intro i; exact Nat.le_refl _
  | succ k ih =>
    intro i
    unfold ls
    rw [List.length_append]
    have := ih (i + 1)
    have := h i
    rw [Nat.mul_succ]
    omega
theorem pl_nil : mm_pl μ a [] = μ := by
  funext x j
  unfold mm_pl
  rw [if_neg (by simp only [List.length_nil]; omega)]
theorem pl_o (h : b ≠ a) : mm_pl μ a l b = μ b := by
  funext j
  unfold mm_pl
  rw [if_neg (fun q => h q.1)]
theorem pl_s {v : Int} : mm_u (mm_pl μ a l) a (l.length) v = mm_pl μ a (l ++ [v]) := by
  funext x j
  rw [mm_ux]
  unfold mm_pl
  rw [List.length_append, List.length_singleton]
  by_cases q : x = a ∧ j = (l.length : Int)
  · rw [if_pos q, if_pos ⟨q.1, by omega, by omega⟩, q.2]
    simp
  · rw [if_neg q]
    by_cases p : x = a ∧ 0 ≤ j ∧ j < l.length
    · rw [if_pos p, if_pos ⟨p.1, p.2.1, by omega⟩, List.getD_eq_getElem?_getD, List.getD_eq_getElem?_getD, List.getElem?_append_left (by omega)]
    · rw [if_neg p, if_neg (fun u => by
        have h := u.2.2
        by_cases t : j = (l.length : Int)
        · exact q ⟨u.1, t⟩
        · exact p ⟨u.1, u.2.1, by omega⟩)]
/-- the leaf cell at places x, y, z, if it lies within o -/
def rsp1 (μ : mm_M) (o x y z : Int) : List Int := if ramg μ (μ 133 x + 6 * μ 133 (6 + y) + 36 * μ 133 (12 + z)) o = true then [μ 133 x + 6 * μ 133 (6 + y) + 36 * μ 133 (12 + z)] else []
def rspz (μ : mm_M) (o x y : Int) : List Int := ls (rsp1 μ o x y) (μ 134 2).toNat 0
def rspy (μ : mm_M) (o x : Int) : List Int := ls (rspz μ o x) (μ 134 1).toNat 0
def rsps (μ : mm_M) (o : Int) : List Int := ls (rspy μ o) (μ 134 0).toNat 0
/-- leaves in range -/
def rl_r (μ : mm_M) : Prop := ∀ e, 0 ≤ e → e < 3 → (0 ≤ μ 134 e ∧ μ 134 e ≤ 6) ∧ ∀ j, 0 ≤ j → j < μ 134 e → 0 ≤ μ 133 (6 * e + j) ∧ μ 133 (6 * e + j) < 6
theorem rsp1_l {o : Int} : (rsp1 μ o x y z).length ≤ 1 := by
  unfold rsp1
  split
  · exact Nat.le_refl 1
  · exact Nat.zero_le 1
theorem rspz_l (h : rl_r μ) {o : Int} : (rspz μ o x y).length ≤ 6 := by
  have h2 := (h 2 (by decide) (by decide)).1
  have := ls_len (f := rsp1 μ o x y) 1 (fun j => rsp1_l) (μ 134 2).toNat 0
  unfold rspz
  omega
theorem rspy_l (h : rl_r μ) {o : Int} : (rspy μ o x).length ≤ 36 := by
  have h2 := (h 1 (by decide) (by decide)).1
  have := ls_len (f := rspz μ o x) 6 (fun j => rspz_l h) (μ 134 1).toNat 0
  unfold rspy
  omega
theorem rsps_l (h : rl_r μ) {o : Int} : (rsps μ o).length ≤ 216 := by
  have h2 := (h 0 (by decide) (by decide)).1
  have := ls_len (f := rspy μ o) 36 (fun j => rspy_l h) (μ 134 0).toNat 0
  unfold rsps
  omega
theorem ramg_c {μ' : mm_M} {o : Int} (h0 : μ' 130 = μ 130) (h1 : μ' 131 = μ 131) : ramg μ' c o = ramg μ c o := by
  unfold ramg ramg1 rq
  rw [h0, h1]
theorem c_230_31 (hq : mm_P w) (ht : rt_a μ) (h : rl_r μ) {o : Int} (ho : 0 ≤ o ∧ o < 216) (hx : 0 ≤ x ∧ x < μ 134 0) (hy : 0 ≤ y ∧ y < μ 134 1) : ∀ (k : Nat) (i : Int) (l : List Int) (e6 : Option Value), am_n2 e6 = true → 0 ≤ i → i + k = μ 134 2 → l.length ≤ 36 * x + 6 * y + i → ∃ e6' : Option Value, am_n2 e6' = true ∧ (am_E (d + 2) 230 Q (31, [some (.ref 129), some (.int (Int32.ofInt (o))), some (.int (Int32.ofInt ((l.length : Int)))), some (.int (Int32.ofInt (x))), some (.int (Int32.ofInt (y))), some (.int (Int32.ofInt (i))), e6], [], mm_hp w (mm_pl μ 176 l) X n) ↔ am_E (d + 2) 230 Q (17, [some (.ref 129), some (.int (Int32.ofInt (o))), some (.int (Int32.ofInt (((l ++ ls (rsp1 μ o x y) k i).length : Int)))), some (.int (Int32.ofInt (x))), some (.int (Int32.ofInt (y + 1))), some (.int (Int32.ofInt (μ 134 2))), e6'], [], mm_hp w (mm_pl μ 176 (l ++ ls (rsp1 μ o x y) k i)) X n)) := by
  have g0 := h 0 (by decide) (by decide)
  have g1 := h 1 (by decide) (by decide)
  have g2 := h 2 (by decide) (by decide)
  intro k
  induction k with
  | zero =>
    intro i l e6 he i0 i1 hl
    obtain rfl : i = μ 134 2 := by omega
    refine ⟨e6, he, ?_⟩
    rw [b_230_31 hq he, pl_o (by decide)]
    simp (disch := omega) only [and_self, true_and, mm_ltx, mm_lex, mm_eqx, mm_wv, mm_gd, ↓reduceIte, Int.reduceAdd, Int.reduceSub, Int.reduceNeg, Int.reduceLE, Int.reduceLT, Int.reduceMul, Int.reduceEq]
    rw [if_pos (by omega)]
    unfold ls
    rw [List.append_nil]
  | succ k ih =>
    intro i l e6 he i0 i1 hl
    have v0 := g0.2 x hx.1 hx.2
    have v1 := g1.2 y hy.1 hy.2
    have v2 := g2.2 i i0 (by omega)
    rw [show (6 : Int) * 0 + x = x by omega] at v0
    rw [show (6 : Int) * 1 + y = 6 + y by omega] at v1
    rw [show (6 : Int) * 2 + i = 12 + i by omega] at v2
    have ht' : rt_a (mm_pl μ 176 l) := fun e e0 e1 m m0 m1 => by rw [pl_o (by decide), pl_o (by decide)]; exact ht e e0 e1 m m0 m1
    have hstep : ∀ l' : List Int, l' = l ++ rsp1 μ o x y i → ∃ e6' : Option Value, am_n2 e6' = true ∧ (am_E (d + 2) 230 Q (99, [some (.ref 129), some (.int (Int32.ofInt (o))), some (.int (Int32.ofInt ((l'.length : Int)))), some (.int (Int32.ofInt (x))), some (.int (Int32.ofInt (y))), some (.int (Int32.ofInt (i))), some (.int (Int32.ofInt (μ 133 x + 6 * μ 133 (6 + y) + 36 * μ 133 (12 + i))))], [], mm_hp w (mm_pl μ 176 l') X n) ↔ am_E (d + 2) 230 Q (17, [some (.ref 129), some (.int (Int32.ofInt (o))), some (.int (Int32.ofInt (((l ++ ls (rsp1 μ o x y) (k + 1) i).length : Int)))), some (.int (Int32.ofInt (x))), some (.int (Int32.ofInt (y + 1))), some (.int (Int32.ofInt (μ 134 2))), e6'], [], mm_hp w (mm_pl μ 176 (l ++ ls (rsp1 μ o x y) (k + 1) i)) X n)) := by
      intro l' hl'
      have hll : (l'.length : Int) ≤ 36 * x + 6 * y + (i + 1) := by
        rw [hl', List.length_append]
        have := rsp1_l (μ := μ) (o := o) (x := x) (y := y) (z := i)
        omega
      obtain ⟨e6', h6, h7⟩ := ih (i + 1) l' (some (.int (Int32.ofInt (μ 133 x + 6 * μ 133 (6 + y) + 36 * μ 133 (12 + i))))) rfl (by omega) (by omega) hll
      refine ⟨e6', h6, ?_⟩
      rw [b_230_99 hq, h7]
      unfold ls
      rw [hl', List.append_assoc]
      cases k <;> rfl
    by_cases p : ramg μ (μ 133 x + 6 * μ 133 (6 + y) + 36 * μ 133 (12 + i)) o = true
    · obtain ⟨e6', h6, h7⟩ := hstep (l ++ [μ 133 x + 6 * μ 133 (6 + y) + 36 * μ 133 (12 + i)]) (by unfold rsp1; rw [if_pos p])
      refine ⟨e6', h6, ?_⟩
      rw [b_230_31 hq he, pl_o (by decide), pl_o (by decide)]
      simp (disch := omega) only [and_self, true_and, mm_ltx, mm_lex, mm_eqx, mm_wv, mm_gd, ↓reduceIte, Int.reduceAdd, Int.reduceSub, Int.reduceNeg, Int.reduceLE, Int.reduceLT, Int.reduceMul, Int.reduceEq]
      rw [if_neg (by omega), c_158 (d := d) hq ht' (by omega) (by omega) ho.1 ho.2, ramg_c (pl_o (by decide)) (pl_o (by decide)), if_pos p, bk_v, b_230_85 hq]
      simp (disch := omega) only [and_self, true_and, mm_ltx, mm_lex, mm_eqx, mm_wv, mm_gd, ↓reduceIte, Int.reduceAdd, Int.reduceSub, Int.reduceNeg, Int.reduceLE, Int.reduceLT, Int.reduceMul, Int.reduceEq]
      rw [pl_s]
      rw [List.length_append, List.length_singleton] at h7
      exact h7
    · obtain ⟨e6', h6, h7⟩ := hstep l (by unfold rsp1; rw [if_neg p, List.append_nil])
      refine ⟨e6', h6, ?_⟩
      rw [b_230_31 hq he, pl_o (by decide), pl_o (by decide)]
      simp (disch := omega) only [and_self, true_and, mm_ltx, mm_lex, mm_eqx, mm_wv, mm_gd, ↓reduceIte, Int.reduceAdd, Int.reduceSub, Int.reduceNeg, Int.reduceLE, Int.reduceLT, Int.reduceMul, Int.reduceEq]
      rw [if_neg (by omega), c_158 (d := d) hq ht' (by omega) (by omega) ho.1 ho.2, ramg_c (pl_o (by decide)) (pl_o (by decide)), if_neg p, bk_v, b_230_85 hq]
      simp (disch := omega) only [and_self, true_and, mm_ltx, mm_lex, mm_eqx, mm_wv, mm_gd, ↓reduceIte, Int.reduceAdd, Int.reduceSub, Int.reduceNeg, Int.reduceLE, Int.reduceLT, Int.reduceMul, Int.reduceEq]
      exact h7
theorem c_230_17 (hq : mm_P w) (ht : rt_a μ) (h : rl_r μ) {o : Int} (ho : 0 ≤ o ∧ o < 216) (hx : 0 ≤ x ∧ x < μ 134 0) : ∀ (k : Nat) (i : Int) (l : List Int) (e5 e6 : Option Value), am_n2 e5 = true → am_n2 e6 = true → 0 ≤ i → i + k = μ 134 1 → l.length ≤ 36 * x + 6 * i → ∃ e5' e6' : Option Value, (am_n2 e5' = true ∧ am_n2 e6' = true) ∧ (am_E (d + 2) 230 Q (17, [some (.ref 129), some (.int (Int32.ofInt (o))), some (.int (Int32.ofInt ((l.length : Int)))), some (.int (Int32.ofInt (x))), some (.int (Int32.ofInt (i))), e5, e6], [], mm_hp w (mm_pl μ 176 l) X n) ↔ am_E (d + 2) 230 Q (4, [some (.ref 129), some (.int (Int32.ofInt (o))), some (.int (Int32.ofInt (((l ++ ls (rspz μ o x) k i).length : Int)))), some (.int (Int32.ofInt (x + 1))), some (.int (Int32.ofInt (μ 134 1))), e5', e6'], [], mm_hp w (mm_pl μ 176 (l ++ ls (rspz μ o x) k i)) X n)) := by
  have g0 := h 0 (by decide) (by decide)
  have g1 := h 1 (by decide) (by decide)
  have g2 := h 2 (by decide) (by decide)
  intro k
  induction k with
  | zero =>
    intro i l e5 e6 he5 he6 i0 i1 hl
    obtain rfl : i = μ 134 1 := by omega
    refine ⟨e5, e6, ⟨he5, he6⟩, ?_⟩
    rw [b_230_17 hq he5 he6, pl_o (by decide)]
    simp (disch := omega) only [and_self, true_and, mm_ltx, mm_lex, mm_eqx, mm_wv, mm_gd, ↓reduceIte, Int.reduceAdd, Int.reduceSub, Int.reduceNeg, Int.reduceLE, Int.reduceLT, Int.reduceMul, Int.reduceEq]
    rw [if_pos (by omega)]
    unfold ls
    rw [List.append_nil]
  | succ k ih =>
    intro i l e5 e6 he5 he6 i0 i1 hl
    obtain ⟨f6, f61, f62⟩ := c_230_31 (d := d) (Q := Q) (X := X) (n := n) (y := i) hq ht h ho hx ⟨i0, by omega⟩ (μ 134 2).toNat 0 l e6 he6 (by decide) (by omega) (by omega)
    have hz := rspz_l h (o := o) (x := x) (y := i)
    obtain ⟨e5', e6', h6, h7⟩ := ih (i + 1) (l ++ rspz μ o x i) (some (.int (Int32.ofInt (μ 134 2)))) f6 rfl f61 (by omega) (by omega) (by rw [List.length_append]; omega)
    refine ⟨e5', e6', h6, ?_⟩
    rw [b_230_17 hq he5 he6, pl_o (by decide)]
    simp (disch := omega) only [and_self, true_and, mm_ltx, mm_lex, mm_eqx, mm_wv, mm_gd, ↓reduceIte, Int.reduceAdd, Int.reduceSub, Int.reduceNeg, Int.reduceLE, Int.reduceLT, Int.reduceMul, Int.reduceEq]
    rw [if_neg (by omega), f62]
    refine Iff.trans h7 ?_
    rw [show ls (rspz μ o x) (k + 1) i = rspz μ o x i ++ ls (rspz μ o x) k (i + 1) from rfl, List.append_assoc]
theorem c_230_4 (hq : mm_P w) (ht : rt_a μ) (h : rl_r μ) {o : Int} (ho : 0 ≤ o ∧ o < 216) : ∀ (k : Nat) (i : Int) (l : List Int) (e4 e5 e6 : Option Value), am_n2 e4 = true → am_n2 e5 = true → am_n2 e6 = true → 0 ≤ i → i + k = μ 134 0 → l.length ≤ 36 * i → (am_E (d + 2) 230 Q (4, [some (.ref 129), some (.int (Int32.ofInt (o))), some (.int (Int32.ofInt ((l.length : Int)))), some (.int (Int32.ofInt (i))), e4, e5, e6], [], mm_hp w (mm_pl μ 176 l) X n) ↔ Q (.inl (some (.int (Int32.ofInt (((l ++ ls (rspy μ o) k i).length : Int)))))) (mm_hp w (mm_pl μ 176 (l ++ ls (rspy μ o) k i)) X n)) := by
  have g0 := h 0 (by decide) (by decide)
  have g1 := h 1 (by decide) (by decide)
  intro k
  induction k with
  | zero =>
    intro i l e4 e5 e6 he4 he5 he6 i0 i1 hl
    obtain rfl : i = μ 134 0 := by omega
    rw [b_230_4 hq he4 he5 he6, pl_o (by decide)]
    simp (disch := omega) only [and_self, true_and, mm_ltx, mm_lex, mm_eqx, mm_wv, mm_gd, ↓reduceIte, Int.reduceAdd, Int.reduceSub, Int.reduceNeg, Int.reduceLE, Int.reduceLT, Int.reduceMul, Int.reduceEq]
    rw [if_pos (by omega)]
    unfold ls
    rw [List.append_nil]
  | succ k ih =>
    intro i l e4 e5 e6 he4 he5 he6 i0 i1 hl
    obtain ⟨f5, f6, f61, f62⟩ := c_230_17 (d := d) (Q := Q) (X := X) (n := n) hq ht h ho ⟨i0, by omega⟩ (μ 134 1).toNat 0 l e5 e6 he5 he6 (by decide) (by omega) (by omega)
    have hz := rspy_l h (o := o) (x := i)
    have h7 := ih (i + 1) (l ++ rspy μ o i) (some (.int (Int32.ofInt (μ 134 1)))) f5 f6 rfl f61.1 f61.2 (by omega) (by omega) (by rw [List.length_append]; omega)
    rw [b_230_4 hq he4 he5 he6, pl_o (by decide)]
    simp (disch := omega) only [and_self, true_and, mm_ltx, mm_lex, mm_eqx, mm_wv, mm_gd, ↓reduceIte, Int.reduceAdd, Int.reduceSub, Int.reduceNeg, Int.reduceLE, Int.reduceLT, Int.reduceMul, Int.reduceEq]
    rw [if_neg (by omega), f62]
    refine Iff.trans h7 ?_
    rw [show ls (rspy μ o) (k + 1) i = rspy μ o i ++ ls (rspy μ o) k (i + 1) from rfl, List.append_assoc]
/-- the reference lists the leaf cells within o -/
theorem c_230 (hq : mm_P w) (ht : rt_a μ) (h : rl_r μ) {o : Int} (ho : 0 ≤ o ∧ o < 216) : am_C (d + 3) 230 [.ref 129, .int (Int32.ofInt (o))] (mm_hp w μ X n) Q ↔ Q (.inl (some (.int (Int32.ofInt (((rsps μ o).length : Int)))))) (mm_hp w (mm_pl μ 176 (rsps μ o)) X n) := by
  have g0 := h 0 (by decide) (by decide)
  have := c_230_4 (d := d) (Q := Q) (X := X) (n := n) hq ht h ho (μ 134 0).toNat 0 [] (some (.int (Int32.ofInt (0)))) none none rfl rfl rfl (by decide) (by omega) (by decide)
  rw [en_230 (d := d + 2), b_230_0 hq]
  have h0 := c_230_4 (d := d) (Q := Q) (X := X) (n := n) hq ht h ho (μ 134 0).toNat 0 [] none none none rfl rfl rfl (by decide) (by omega) (by decide)
  rw [pl_nil] at h0
  exact h0
end SL
