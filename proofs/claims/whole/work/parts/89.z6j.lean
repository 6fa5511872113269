/-! Spread: nothing rules the cells, all above them is summed: the reference. -/
def bl (P : Int → Bool) : Nat → Int → Bool
  | 0, _ => true
  | k + 1, i => P i && bl P k (i + 1)
/-- no rule reaches the cell c within o -/
def rpl1 (μ : mm_M) (o c : Int) : Bool := !(ramg μ c o && decide (0 ≤ rwin μ c (μ 129 11).toNat))
/-- the member m is summed, if it is one within o that is not a leaf -/
def rpl2 (μ : mm_M) (o e m : Int) : Bool := !(decide (μ 130 (6 * e + m) ≠ 0 ∧ rt_u (rq μ e) (rpart o e) 6 m = rpart o e ∧ sp_fc (rp μ e) m ≠ -1 ∧ μ 132 (6 * e + m) ≠ 1))
section PL
variable {d : Nat} {Q : am_Ou → am_G → Prop} {w : mm_Z} {μ : mm_M} {X : mm_X} {n : mm_N} {e m c o i : Int} {b : Bool} {P R : Int → Bool}
theorem bl_iff : ∀ (k : Nat) (i : Int), bl P k i = true ↔ ∀ j, i ≤ j → j < i + k → P j = true := by
  intro k
  induction k with
  | zero => intro i; exact ⟨fun _ j j0 j1 => by omega, fun _ => rfl⟩
  | succ k ih =>
    intro i
    unfold bl
    rw [Bool.and_eq_true, ih]
    constructor
    · rintro ⟨h1, h2⟩ j j0 j1
      by_cases z : j = i
      · rw [z]; exact h1
      · exact h2 j (by omega) (by omega)
    · intro h
      exact ⟨h i (by omega) (by omega), fun j j0 j1 => h j (by omega) (by omega)⟩
theorem b01 (b : Bool) : ((if b = true then (1 : Int) else 0) = 0 ∨ (if b = true then (1 : Int) else 0) = 1) := by cases b <;> decide
theorem c_215_4 (hq : mm_P w) (ht : rt_a μ) (hr : rr_r μ) (ho : 0 ≤ o ∧ o < 216) : ∀ (k : Nat) (i : Int) (b : Bool), 0 ≤ i → i + k = 216 → (am_E (d + 4) 215 Q (4, [some (.ref 129), some (.int (Int32.ofInt (o))), some (.int (Int32.ofInt (if b = true then 1 else 0))), some (.int (Int32.ofInt (i))), none], [], mm_hp w μ X n) ↔ am_E (d + 4) 215 Q (46, [some (.ref 129), some (.int (Int32.ofInt (o))), some (.int (Int32.ofInt (if (b && bl (rpl1 μ o) k i) = true then 1 else 0))), some (.int (Int32.ofInt (0))), none], [], mm_hp w μ X n)) := by
  intro k
  induction k with
  | zero =>
    intro i b i0 i1
    rw [b_215_4 hq, if_pos (by rw [mm_lex, mm_wv (by omega) (by omega), mm_wv (by omega) (by omega)]; omega)]
    unfold bl
    rw [Bool.and_true]
  | succ k ih =>
    intro i b i0 i1
    have hgo : ∀ s : Int, s = (if (b && rpl1 μ o i) = true then 1 else 0) → (am_E (d + 4) 215 Q (37, [some (.ref 129), some (.int (Int32.ofInt (o))), some (.int (Int32.ofInt (if b = true then 1 else 0))), some (.int (Int32.ofInt (i))), none], [.int (Int32.ofInt (s))], mm_hp w μ X n) ↔ am_E (d + 4) 215 Q (46, [some (.ref 129), some (.int (Int32.ofInt (o))), some (.int (Int32.ofInt (if (b && bl (rpl1 μ o) (k + 1) i) = true then 1 else 0))), some (.int (Int32.ofInt (0))), none], [], mm_hp w μ X n)) := by
      rintro s rfl
      rw [b_215_37 hq, ih (i + 1) (b && rpl1 μ o i) (by omega) (by omega)]
      unfold bl
      rw [Bool.and_assoc]
      cases k <;> rfl
    rw [b_215_4 hq, if_neg (by rw [mm_lex, mm_wv (by omega) (by omega), mm_wv (by omega) (by omega)]; omega)]
    cases b with
    | false =>
      rw [if_pos (by decide), b_215_36 hq]
      exact hgo 0 rfl
    | true =>
      rw [if_neg (by decide), c_158 (d := d + 2) hq ht i0 (by omega) ho.1 ho.2, bk_v, b_215_21 hq]
      by_cases p : ramg μ i o = true
      · rw [if_pos p, if_neg (by decide), c_243 (d := d) hq ht hr i0 (by omega), bk_v, b_215_29 hq]
        have hw := rwin_b (μ := μ) (c := i) (μ 129 11).toNat
        have h11 := hr.1
        by_cases q : 0 ≤ rwin μ i (μ 129 11).toNat
        · rw [if_pos (by rw [mm_lex, mm_wv (by omega) (by omega), mm_wv (by omega) (by omega)]; omega), b_215_36 hq]
          exact hgo 0 (by unfold rpl1; rw [p, decide_eq_true q]; rfl)
        · rw [if_neg (by rw [mm_lex, mm_wv (by omega) (by omega), mm_wv (by omega) (by omega)]; omega), b_215_32 hq]
          exact hgo 1 (by unfold rpl1; rw [p, decide_eq_false q]; rfl)
      · have p' : ramg μ i o = false := Bool.eq_false_iff.mpr p
        rw [if_neg p, if_pos (by decide), b_215_32 hq]
        exact hgo 1 (by unfold rpl1; rw [p']; rfl)
theorem c_215_54 (hq : mm_P w) (ht : rt_a μ) (ho : 0 ≤ o ∧ o < 216) (he : 0 ≤ e ∧ e < 3) (h132 : ∀ j, 0 ≤ j → j < 18 → 0 ≤ μ 132 j ∧ μ 132 j ≤ 4) : ∀ (k : Nat) (i : Int) (b : Bool), 0 ≤ i → i + k = 6 → (am_E (d + 4) 215 Q (54, [some (.ref 129), some (.int (Int32.ofInt (o))), some (.int (Int32.ofInt (if b = true then 1 else 0))), some (.int (Int32.ofInt (e))), some (.int (Int32.ofInt (i)))], [], mm_hp w μ X n) ↔ am_E (d + 4) 215 Q (46, [some (.ref 129), some (.int (Int32.ofInt (o))), some (.int (Int32.ofInt (if (b && bl (rpl2 μ o e) k i) = true then 1 else 0))), some (.int (Int32.ofInt (e + 1))), some (.int (Int32.ofInt (6)))], [], mm_hp w μ X n)) := by
  intro k
  induction k with
  | zero =>
    intro i b i0 i1
    obtain rfl : i = 6 := by omega
    rw [b_215_54 hq, if_pos (by decide)]
    unfold bl
    rw [Bool.and_true]
  | succ k ih =>
    intro i b i0 i1
    have hgo : ∀ s : Int, s = (if (b && rpl2 μ o e i) = true then 1 else 0) → (am_E (d + 4) 215 Q (126, [some (.ref 129), some (.int (Int32.ofInt (o))), some (.int (Int32.ofInt (if b = true then 1 else 0))), some (.int (Int32.ofInt (e))), some (.int (Int32.ofInt (i)))], [.int (Int32.ofInt (s))], mm_hp w μ X n) ↔ am_E (d + 4) 215 Q (46, [some (.ref 129), some (.int (Int32.ofInt (o))), some (.int (Int32.ofInt (if (b && bl (rpl2 μ o e) (k + 1) i) = true then 1 else 0))), some (.int (Int32.ofInt (e + 1))), some (.int (Int32.ofInt (6)))], [], mm_hp w μ X n)) := by
      rintro s rfl
      rw [b_215_126 hq, ih (i + 1) (b && rpl2 μ o e i) (by omega) (by omega)]
      unfold bl
      rw [Bool.and_assoc]
      cases k <;> rfl
    rw [b_215_54 hq, if_neg (by rw [mm_lex, mm_wv (by omega) (by omega), mm_wv (by omega) (by omega)]; omega)]
    cases b with
    | false =>
      rw [if_pos (by decide), b_215_125 hq]
      exact hgo 0 rfl
    | true =>
      have hr := ht e he.1 he.2 i i0 (by omega)
      have hpt := rpart_b (e := e) ho.1 ho.2
      have h2 := h132 (6 * e + i) (by omega) (by omega)
      rw [if_neg (by decide)]
      simp (disch := omega) only [and_self, true_and, mm_ltx, mm_lex, mm_eqx, mm_wv, mm_gd, ↓reduceIte, Int.reduceAdd, Int.reduceSub, Int.reduceNeg, Int.reduceLE, Int.reduceLT, Int.reduceMul, Int.reduceEq]
      by_cases p : μ 130 (6 * e + i) = 0
      · rw [if_pos p, b_215_121 hq]
        exact hgo 1 (by unfold rpl2; rw [decide_eq_false (fun q => q.1 p)]; rfl)
      · rw [if_neg p, d_213 (d := d + 3) hq ho.1 ho.2 he, bk_v, b_215_89 hq, d_238 (d := d + 3) hq he ⟨hpt.1, by omega⟩ (by omega) (by omega) (ht e he.1 he.2), bk_v, b_215_92 hq]
        by_cases q : rt_u (rq μ e) (rpart o e) 6 i = rpart o e
        · rw [if_pos q, if_neg (by decide), c_194 (d := d + 2) hq he (by omega) (by omega) (ht e he.1 he.2), bk_v, b_215_102 hq]
          by_cases r : sp_fc (rp μ e) i = -1
          · rw [if_pos r, if_neg (by decide), b_215_121 hq]
            exact hgo 1 (by unfold rpl2; rw [decide_eq_false (fun q => q.2.2.1 r)]; rfl)
          · rw [if_neg r, if_pos (by decide)]
            simp (disch := omega) only [and_self, true_and, mm_ltx, mm_lex, mm_eqx, mm_wv, mm_gd, ↓reduceIte, Int.reduceAdd, Int.reduceSub, Int.reduceNeg, Int.reduceLE, Int.reduceLT, Int.reduceMul, Int.reduceEq]
            by_cases t : μ 132 (6 * e + i) = 1
            · rw [if_pos t, b_215_121 hq]
              exact hgo 1 (by unfold rpl2; rw [decide_eq_false (fun q => q.2.2.2 t)]; rfl)
            · rw [if_neg t, b_215_125 hq]
              exact hgo 0 (by unfold rpl2; rw [decide_eq_true ⟨p, q, r, t⟩]; rfl)
        · rw [if_neg q, if_pos (by decide), b_215_121 hq]
          exact hgo 1 (by unfold rpl2; rw [decide_eq_false (fun z => q z.2.1)]; rfl)
/-- the reference: may o be spread upon -/
def rpln (μ : mm_M) (o : Int) : Bool := bl (rpl1 μ o) 216 0 && (bl (rpl2 μ o 0) 6 0 && bl (rpl2 μ o 1) 6 0 && bl (rpl2 μ o 2) 6 0)
theorem c_215 (hq : mm_P w) (ht : rt_a μ) (hr : rr_r μ) (ho : 0 ≤ o ∧ o < 216) (h132 : ∀ j, 0 ≤ j → j < 18 → 0 ≤ μ 132 j ∧ μ 132 j ≤ 4) : am_C (d + 5) 215 [.ref 129, .int (Int32.ofInt (o))] (mm_hp w μ X n) Q ↔ Q (.inl (some (.int (Int32.ofInt (if rpln μ o = true then 1 else 0))))) (mm_hp w μ X n) := by
  rw [en_215 (d := d + 4), b_215_0 hq]
  have h1 := c_215_4 (d := d) (Q := Q) (X := X) (n := n) hq ht hr ho 216 0 true (by decide) (by decide)
  have h2 := fun b => c_215_54 (d := d) (Q := Q) (X := X) (n := n) (e := 0) hq ht ho (by decide) h132 6 0 b (by decide) (by decide)
  have h3 := fun b => c_215_54 (d := d) (Q := Q) (X := X) (n := n) (e := 1) hq ht ho (by decide) h132 6 0 b (by decide) (by decide)
  have h4 := fun b => c_215_54 (d := d) (Q := Q) (X := X) (n := n) (e := 2) hq ht ho (by decide) h132 6 0 b (by decide) (by decide)
  refine Iff.trans h1 ?_
  rw [b_215_46 hq rfl, if_neg (by decide)]
  refine Iff.trans (h2 _) ?_
  rw [b_215_46 hq rfl, if_neg (by decide)]
  refine Iff.trans (h3 _) ?_
  rw [b_215_46 hq rfl, if_neg (by decide)]
  refine Iff.trans (h4 _) ?_
  rw [b_215_46 hq rfl, if_pos (by decide)]
  unfold rpln
  simp only [Bool.true_and, Bool.and_assoc]
  generalize (bl (rpl1 μ o) 216 0 && (bl (rpl2 μ o 0) 6 0 && (bl (rpl2 μ o 1) 6 0 && bl (rpl2 μ o 2) 6 0))) = z
  cases z
  · rw [if_pos (by decide)]
  · rw [if_pos (by decide)]
end PL
