/-! The class's cells, and which rule is best for one. -/
def cpart (c e : Int) : Int := if e = 0 then c / 36 else if e = 1 then c / 6 % 6 else c % 6
def ct_a (μ : mm_M) : Prop := ∀ e, 0 ≤ e → e < 3 → mm_tw μ e
def cr_r (μ : mm_M) : Prop := (0 ≤ μ 53 1 ∧ μ 53 1 ≤ 8) ∧ (∀ j, 0 ≤ j → j < 8 → 0 ≤ μ 54 j ∧ μ 54 j < 8) ∧ ∀ v e, 0 ≤ v → v < 8 → 0 ≤ e → e < 3 → (0 ≤ μ (mm_rl v + 1) e ∧ μ (mm_rl v + 1) e ≤ 2) ∧ (0 ≤ μ (mm_rl v + 2) e ∧ μ (mm_rl v + 2) e ≤ 5)
def cfit (μ : mm_M) (v e m : Int) : Bool := decide ((μ (mm_rl v + 1) e = 1 → m = μ (mm_rl v + 2) e) ∧ (μ (mm_rl v + 1) e = 2 → μ (mm_tr e + 4) m ≠ -1 ∧ sp_in (μ (mm_tr e + 1)) (μ (mm_rl v + 2) e) 6 m = true))
def cfits (μ : mm_M) (v c : Int) : Bool := cfit μ v 0 (cpart c 0) && cfit μ v 1 (cpart c 1) && cfit μ v 2 (cpart c 2)
def cpat (μ : mm_M) (v e : Int) : Int := if μ (mm_rl v + 1) e = 0 then 0 else 1
def cdep (μ : mm_M) (v e : Int) : Int := if μ (mm_rl v + 1) e = 0 then 0 else μ (mm_tr e + 3) (μ (mm_rl v + 2) e)
def crank (μ : mm_M) (v : Int) : Int := (cpat μ v 0 + cpat μ v 1 + cpat μ v 2) * 216 + (cdep μ v 0 + cdep μ v 1 + cdep μ v 2)
/-- the best rule so far and its rank -/
def cbest (μ : mm_M) (c : Int) : Nat → Int × Int
  | 0 => (-1, 0)
  | r + 1 => if cfits μ (μ 54 r) c = true ∧ (cbest μ c r).2 ≤ crank μ (μ 54 r) then ((r : Int), crank μ (μ 54 r)) else cbest μ c r
def chere (μ : mm_M) : Prop := μ (mm_tr 0 + 1) (μ 128 0) ≠ -2 ∧ μ (mm_tr 1 + 1) (μ 128 1) ≠ -2 ∧ μ (mm_tr 2 + 1) (μ 128 2) ≠ -2
def cinner (μ : mm_M) (c : Int) : Int := if μ (mm_tr 0 + 4) (cpart c 0) = -1 then 0 else if μ (mm_tr 1 + 4) (cpart c 1) = -1 then 1 else if μ (mm_tr 2 + 4) (cpart c 2) = -1 then 2 else 3
section CS
variable {d : Nat} {Q : am_Ou → am_G → Prop} {w : mm_Z} {μ : mm_M} {X : mm_X} {n : mm_N} {e m c v : Int}
theorem mm_PT (hq : mm_P w) : mm_T w e := fun i hi => hq _ (by have := mm_tr_b (z := e); omega) (by have := mm_tr_b (z := e); omega)
theorem mm_twp (h : mm_tw μ e) : mm_tp μ e := fun j h0 h1 => (h.1 j h0 h1).1
theorem cpart_b (h0 : 0 ≤ c) (h1 : c < 216) : 0 ≤ cpart c e ∧ cpart c e < 6 := by
  unfold cpart
  split
  · omega
  · split <;> omega
theorem c_131 (hq : mm_P w) (h0 : 0 ≤ c) (h1 : c < 216) (he : 0 ≤ e ∧ e < 3) : am_C (d + 1) 131 [.int (Int32.ofInt (c)), .int (Int32.ofInt (e))] (mm_hp w μ X n) Q ↔ Q (.inl (some (.int (Int32.ofInt (cpart c e))))) (mm_hp w μ X n) := by
  simp only [en_131, b_131_0 hq]
  unfold cpart mm_span
  by_cases e1 : e = 0
  · simp (disch := omega) only [and_self, true_and, mm_ltx, mm_lex, mm_eqx, mm_wv, mm_gd, ↓reduceIte, Int.reduceAdd, Int.reduceSub, Int.reduceNeg, Int.reduceLE, Int.reduceLT, Int.reduceMul, Int.reduceEq, mm_dvp, if_pos, if_neg]
    rw [show c / 36 - c / 36 / 6 * 6 = c / 36 by omega]
  · by_cases e2 : e = 1
    · simp (disch := omega) only [and_self, true_and, mm_ltx, mm_lex, mm_eqx, mm_wv, mm_gd, ↓reduceIte, Int.reduceAdd, Int.reduceSub, Int.reduceNeg, Int.reduceLE, Int.reduceLT, Int.reduceMul, Int.reduceEq, mm_dvp, if_pos, if_neg]
      rw [show c / 6 - c / 6 / 6 * 6 = c / 6 % 6 by omega]
    · simp (disch := omega) only [and_self, true_and, mm_ltx, mm_lex, mm_eqx, mm_wv, mm_gd, ↓reduceIte, Int.reduceAdd, Int.reduceSub, Int.reduceNeg, Int.reduceLE, Int.reduceLT, Int.reduceMul, Int.reduceEq, mm_dvp, if_pos, if_neg]
      rw [show c / 1 - c / 1 / 6 * 6 = c % 6 by omega]
theorem c_132 (hq : mm_P w) (h0 : 0 ≤ c) (h1 : c < 216) (he : 0 ≤ e ∧ e < 3) (hm : 0 ≤ m ∧ m < 6) : am_C (d + 2) 132 [.int (Int32.ofInt (c)), .int (Int32.ofInt (e)), .int (Int32.ofInt (m))] (mm_hp w μ X n) Q ↔ Q (.inl (some (.int (Int32.ofInt (c + (m - cpart c e) * mm_span e))))) (mm_hp w μ X n) := by
  have hb := cpart_b (e := e) h0 h1
  simp only [en_132 (d := d + 1), b_132_0 hq, c_131 (d := d) hq h0 h1 he, bk_v, Nat.reduceAdd, b_132_7 hq]
  simp (disch := omega) only [and_self, true_and, mm_ltx, mm_lex, mm_eqx, mm_wv, mm_gd, ↓reduceIte, Int.reduceAdd, Int.reduceSub, Int.reduceNeg, Int.reduceLE, Int.reduceLT, Int.reduceMul, Int.reduceEq, if_pos, if_neg]
theorem c_126 (hq : mm_P w) (h1 : -2147483648 ≤ e) (h2 : e ≤ 2147483647) (g1 : -2147483648 ≤ m) (g2 : m ≤ 2147483647) (ht : ct_a μ) : am_C (d + 2) 126 [.ref 33, .int (Int32.ofInt (e)), .int (Int32.ofInt (m))] (mm_hp w μ X n) Q ↔ Q (.inl (some (.int (Int32.ofInt (if 0 ≤ e ∧ e < 3 ∧ 0 ≤ m ∧ m < 6 ∧ μ (mm_tr e + 1) m ≠ -2 then 1 else 0))))) (mm_hp w μ X n) := by
  simp only [en_126 (d := d + 1), b_126_0 hq]
  by_cases a : e < 0
  · simp (disch := omega) only [and_self, true_and, mm_ltx, mm_lex, mm_eqx, mm_wv, mm_gd, ↓reduceIte, Int.reduceAdd, Int.reduceSub, Int.reduceNeg, Int.reduceLE, Int.reduceLT, Int.reduceMul, Int.reduceEq, if_pos, if_neg]
  · by_cases b : 3 ≤ e
    · simp (disch := omega) only [and_self, true_and, mm_ltx, mm_lex, mm_eqx, mm_wv, mm_gd, ↓reduceIte, Int.reduceAdd, Int.reduceSub, Int.reduceNeg, Int.reduceLE, Int.reduceLT, Int.reduceMul, Int.reduceEq, if_pos, if_neg]
    · simp (disch := omega) only [and_self, true_and, mm_ltx, mm_lex, mm_eqx, mm_wv, mm_gd, ↓reduceIte, Int.reduceAdd, Int.reduceSub, Int.reduceNeg, Int.reduceLE, Int.reduceLT, Int.reduceMul, Int.reduceEq, if_pos, if_neg]
      rw [c_148 (d := d) (mm_PT hq) g1 g2 (mm_twp (ht e (by omega) (by omega))), bk_v, b_126_19 hq]
      by_cases a2 : 0 ≤ m ∧ m < 6 ∧ μ (mm_tr e + 1) m ≠ -2
      · rw [if_pos a2, if_neg (by decide)]
      · rw [if_neg a2, if_pos (by decide)]
theorem c_125 (hq : mm_P w) (h1 : -2147483648 ≤ e) (h2 : e ≤ 2147483647) (g1 : -2147483648 ≤ m) (g2 : m ≤ 2147483647) (ht : ct_a μ) : am_C (d + 2) 125 [.ref 33, .int (Int32.ofInt (e)), .int (Int32.ofInt (m))] (mm_hp w μ X n) Q ↔ Q (.inl (some (.int (Int32.ofInt (if (0 ≤ e ∧ e < 3) ∧ (m = -1 ∨ (0 ≤ m ∧ m < 6 ∧ μ (mm_tr e + 1) m ≠ -2)) then 1 else 0))))) (mm_hp w μ X n) := by
  simp only [en_125 (d := d + 1), b_125_0 hq]
  by_cases a : e < 0
  · simp (disch := omega) only [and_self, true_and, mm_ltx, mm_lex, mm_eqx, mm_wv, mm_gd, ↓reduceIte, Int.reduceAdd, Int.reduceSub, Int.reduceNeg, Int.reduceLE, Int.reduceLT, Int.reduceMul, Int.reduceEq, if_pos, if_neg, b_125_13 hq, b_125_14 hq]
  · by_cases b : 3 ≤ e
    · simp (disch := omega) only [and_self, true_and, mm_ltx, mm_lex, mm_eqx, mm_wv, mm_gd, ↓reduceIte, Int.reduceAdd, Int.reduceSub, Int.reduceNeg, Int.reduceLE, Int.reduceLT, Int.reduceMul, Int.reduceEq, if_pos, if_neg, b_125_13 hq, b_125_14 hq]
    · by_cases a1 : m = -1
      · simp (disch := omega) only [and_self, true_and, mm_ltx, mm_lex, mm_eqx, mm_wv, mm_gd, ↓reduceIte, Int.reduceAdd, Int.reduceSub, Int.reduceNeg, Int.reduceLE, Int.reduceLT, Int.reduceMul, Int.reduceEq, if_pos, if_neg, b_125_13 hq, b_125_14 hq]
      · simp (disch := omega) only [and_self, true_and, mm_ltx, mm_lex, mm_eqx, mm_wv, mm_gd, ↓reduceIte, Int.reduceAdd, Int.reduceSub, Int.reduceNeg, Int.reduceLE, Int.reduceLT, Int.reduceMul, Int.reduceEq, if_pos, if_neg, b_125_13 hq, b_125_14 hq]
        rw [c_148 (d := d) (mm_PT hq) g1 g2 (mm_twp (ht e (by omega) (by omega))), bk_v, b_125_34 hq]
        by_cases a2 : 0 ≤ m ∧ m < 6 ∧ μ (mm_tr e + 1) m ≠ -2
        · rw [if_pos a2, if_neg (by decide), if_pos (by omega)]
        · rw [if_neg a2, if_pos (by decide), if_neg (by omega)]
theorem c_127 (hq : mm_P w) (ht : ct_a μ) (hc : ∀ e, 0 ≤ e → e < 3 → 0 ≤ μ 128 e ∧ μ 128 e < 6) : am_C (d + 2) 127 [.ref 33, .ref 128] (mm_hp w μ X n) Q ↔ Q (.inl (some (.int (Int32.ofInt (if μ (mm_tr 0 + 1) (μ 128 0) ≠ -2 ∧ μ (mm_tr 1 + 1) (μ 128 1) ≠ -2 ∧ μ (mm_tr 2 + 1) (μ 128 2) ≠ -2 then 1 else 0))))) (mm_hp w μ X n) := by
  have c0 := hc 0 (by decide) (by decide)
  have c1 := hc 1 (by decide) (by decide)
  have c2 := hc 2 (by decide) (by decide)
  have t0 := mm_twp (ht 0 (by decide) (by decide))
  have t1 := mm_twp (ht 1 (by decide) (by decide))
  have t2 := mm_twp (ht 2 (by decide) (by decide))
  simp only [en_127 (d := d + 1), b_127_0 hq]
  simp (disch := omega) only [and_self, true_and, mm_ltx, mm_lex, mm_eqx, mm_wv, mm_gd, ↓reduceIte, Int.reduceAdd, Int.reduceSub, Int.reduceNeg, Int.reduceLE, Int.reduceLT, Int.reduceMul, Int.reduceEq, if_pos, if_neg]
  rw [c_148 (d := d) (mm_PT hq) (by omega) (by omega) t0, bk_v, b_127_12 hq]
  by_cases a0 : μ (mm_tr 0 + 1) (μ 128 0) = -2
  · simp (disch := omega) only [and_self, true_and, mm_ltx, mm_lex, mm_eqx, mm_wv, mm_gd, ↓reduceIte, Int.reduceAdd, Int.reduceSub, Int.reduceNeg, Int.reduceLE, Int.reduceLT, Int.reduceMul, Int.reduceEq, if_pos, if_neg]
  · simp (disch := omega) only [and_self, true_and, mm_ltx, mm_lex, mm_eqx, mm_wv, mm_gd, ↓reduceIte, Int.reduceAdd, Int.reduceSub, Int.reduceNeg, Int.reduceLE, Int.reduceLT, Int.reduceMul, Int.reduceEq, if_pos, if_neg]
    rw [c_148 (d := d) (mm_PT hq) (by omega) (by omega) t1, bk_v, b_127_27 hq]
    by_cases a1 : μ (mm_tr 1 + 1) (μ 128 1) = -2
    · simp (disch := omega) only [and_self, true_and, mm_ltx, mm_lex, mm_eqx, mm_wv, mm_gd, ↓reduceIte, Int.reduceAdd, Int.reduceSub, Int.reduceNeg, Int.reduceLE, Int.reduceLT, Int.reduceMul, Int.reduceEq, if_pos, if_neg]
    · simp (disch := omega) only [and_self, true_and, mm_ltx, mm_lex, mm_eqx, mm_wv, mm_gd, ↓reduceIte, Int.reduceAdd, Int.reduceSub, Int.reduceNeg, Int.reduceLE, Int.reduceLT, Int.reduceMul, Int.reduceEq, if_pos, if_neg]
      rw [c_148 (d := d) (mm_PT hq) (by omega) (by omega) t2, bk_v, b_127_42 hq]
      by_cases a2 : μ (mm_tr 2 + 1) (μ 128 2) = -2
      · simp (disch := omega) only [and_self, true_and, mm_ltx, mm_lex, mm_eqx, mm_wv, mm_gd, ↓reduceIte, Int.reduceAdd, Int.reduceSub, Int.reduceNeg, Int.reduceLE, Int.reduceLT, Int.reduceMul, Int.reduceEq, if_pos, if_neg]
      · simp (disch := omega) only [and_self, true_and, mm_ltx, mm_lex, mm_eqx, mm_wv, mm_gd, ↓reduceIte, Int.reduceAdd, Int.reduceSub, Int.reduceNeg, Int.reduceLE, Int.reduceLT, Int.reduceMul, Int.reduceEq, if_pos, if_neg]
theorem c_128 (hq : mm_P w) (ht : ct_a μ) (h0 : 0 ≤ c) (h1 : c < 216) : am_C (d + 2) 128 [.ref 33, .int (Int32.ofInt (c))] (mm_hp w μ X n) Q ↔ Q (.inl (some (.int (Int32.ofInt (cinner μ c))))) (mm_hp w μ X n) := by
  have p0 := cpart_b (e := 0) h0 h1
  have p1 := cpart_b (e := 1) h0 h1
  have p2 := cpart_b (e := 2) h0 h1
  have t0 := ht 0 (by decide) (by decide)
  have t1 := ht 1 (by decide) (by decide)
  have t2 := ht 2 (by decide) (by decide)
  simp only [en_128 (d := d + 1), b_128_0 hq]
  simp (disch := first | omega | assumption | exact mm_PT hq) only [b_128_2 hq, c_131 (d := d), bk_v, Nat.reduceAdd, b_128_18 hq, c_150 (d := d), b_128_21 hq, and_self, true_and, mm_ltx, mm_lex, mm_eqx, mm_wv, mm_gd, ↓reduceIte, Int.reduceAdd, Int.reduceSub, Int.reduceNeg, Int.reduceLE, Int.reduceLT, Int.reduceMul, Int.reduceEq, mm_qi (Q := Q)]
  unfold cinner
  by_cases a0 : μ (mm_tr 0 + 4) (cpart c 0) = -1
  · simp (disch := omega) only [and_self, true_and, mm_ltx, mm_lex, mm_eqx, mm_wv, mm_gd, ↓reduceIte, Int.reduceAdd, Int.reduceSub, Int.reduceNeg, Int.reduceLE, Int.reduceLT, Int.reduceMul, Int.reduceEq, if_pos, if_neg]
  · by_cases a1 : μ (mm_tr 1 + 4) (cpart c 1) = -1
    · simp (disch := omega) only [and_self, true_and, mm_ltx, mm_lex, mm_eqx, mm_wv, mm_gd, ↓reduceIte, Int.reduceAdd, Int.reduceSub, Int.reduceNeg, Int.reduceLE, Int.reduceLT, Int.reduceMul, Int.reduceEq, if_pos, if_neg]
    · by_cases a2 : μ (mm_tr 2 + 4) (cpart c 2) = -1
      · simp (disch := omega) only [and_self, true_and, mm_ltx, mm_lex, mm_eqx, mm_wv, mm_gd, ↓reduceIte, Int.reduceAdd, Int.reduceSub, Int.reduceNeg, Int.reduceLE, Int.reduceLT, Int.reduceMul, Int.reduceEq, if_pos, if_neg]
      · simp (disch := omega) only [and_self, true_and, mm_ltx, mm_lex, mm_eqx, mm_wv, mm_gd, ↓reduceIte, Int.reduceAdd, Int.reduceSub, Int.reduceNeg, Int.reduceLE, Int.reduceLT, Int.reduceMul, Int.reduceEq, if_pos, if_neg]
theorem cinner_b : 0 ≤ cinner μ c ∧ cinner μ c ≤ 3 := by
  unfold cinner
  repeat (split; · decide)
  decide
theorem c_129 (hq : mm_P w) (ht : ct_a μ) (h0 : 0 ≤ c) (h1 : c < 216) : am_C (d + 3) 129 [.ref 33, .int (Int32.ofInt (c))] (mm_hp w μ X n) Q ↔ Q (.inl (some (.int (Int32.ofInt (if cinner μ c = 3 then 1 else 0))))) (mm_hp w μ X n) := by
  have := cinner_b (μ := μ) (c := c)
  simp only [en_129 (d := d + 2), b_129_0 hq, c_128 (d := d) hq ht h0 h1, bk_v, Nat.reduceAdd, b_129_5 hq]
  simp (disch := omega) only [and_self, true_and, mm_ltx, mm_lex, mm_eqx, mm_wv, mm_gd, ↓reduceIte, Int.reduceAdd, Int.reduceSub, Int.reduceNeg, Int.reduceLE, Int.reduceLT, Int.reduceMul, Int.reduceEq, mm_qi (Q := Q)]
def cin1 (μ : mm_M) (c e : Int) : Bool := sp_in (μ (mm_tr e + 1)) (μ 128 e) 6 (cpart c e)
theorem c_130 (hq : mm_P w) (ht : ct_a μ) (hc : ∀ e, 0 ≤ e → e < 3 → 0 ≤ μ 128 e ∧ μ 128 e < 6) (h0 : 0 ≤ c) (h1 : c < 216) : am_C (d + 2) 130 [.ref 33, .int (Int32.ofInt (c)), .ref 128] (mm_hp w μ X n) Q ↔ Q (.inl (some (.int (Int32.ofInt (if (cin1 μ c 0 && cin1 μ c 1 && cin1 μ c 2) = true then 1 else 0))))) (mm_hp w μ X n) := by
  have p0 := cpart_b (e := 0) h0 h1
  have p1 := cpart_b (e := 1) h0 h1
  have p2 := cpart_b (e := 2) h0 h1
  have c0 := hc 0 (by decide) (by decide)
  have c1 := hc 1 (by decide) (by decide)
  have c2 := hc 2 (by decide) (by decide)
  have t0 := mm_twp (ht 0 (by decide) (by decide))
  have t1 := mm_twp (ht 1 (by decide) (by decide))
  have t2 := mm_twp (ht 2 (by decide) (by decide))
  simp only [en_130 (d := d + 1), b_130_0 hq]
  simp (disch := omega) only [and_self, true_and, mm_ltx, mm_lex, mm_eqx, mm_wv, mm_gd, ↓reduceIte, Int.reduceAdd, Int.reduceSub, Int.reduceNeg, Int.reduceLE, Int.reduceLT, Int.reduceMul, Int.reduceEq]
  rw [c_131 (d := d) hq h0 h1 (by decide), bk_v, b_130_11 hq]
  simp (disch := omega) only [and_self, true_and, mm_ltx, mm_lex, mm_eqx, mm_wv, mm_gd, ↓reduceIte, Int.reduceAdd, Int.reduceSub, Int.reduceNeg, Int.reduceLE, Int.reduceLT, Int.reduceMul, Int.reduceEq]
  rw [c_151 (d := d) (mm_PT hq) (by omega) (by omega) (by omega) (by omega) t0, bk_v, b_130_17 hq, show sp_in (μ (mm_tr 0 + 1)) (μ 128 0) 6 (cpart c 0) = cin1 μ c 0 from rfl]
  cases cin1 μ c 0 with
  | false => exact Iff.rfl
  | true =>
    rw [if_pos rfl, if_neg (by decide)]
    simp (disch := omega) only [and_self, true_and, mm_ltx, mm_lex, mm_eqx, mm_wv, mm_gd, ↓reduceIte, Int.reduceAdd, Int.reduceSub, Int.reduceNeg, Int.reduceLE, Int.reduceLT, Int.reduceMul, Int.reduceEq]
    rw [c_131 (d := d) hq h0 h1 (by decide), bk_v, b_130_31 hq]
    simp (disch := omega) only [and_self, true_and, mm_ltx, mm_lex, mm_eqx, mm_wv, mm_gd, ↓reduceIte, Int.reduceAdd, Int.reduceSub, Int.reduceNeg, Int.reduceLE, Int.reduceLT, Int.reduceMul, Int.reduceEq]
    rw [c_151 (d := d) (mm_PT hq) (by omega) (by omega) (by omega) (by omega) t1, bk_v, b_130_37 hq, show sp_in (μ (mm_tr 1 + 1)) (μ 128 1) 6 (cpart c 1) = cin1 μ c 1 from rfl]
    cases cin1 μ c 1 with
    | false => exact Iff.rfl
    | true =>
      rw [if_pos rfl, if_neg (by decide)]
      simp (disch := omega) only [and_self, true_and, mm_ltx, mm_lex, mm_eqx, mm_wv, mm_gd, ↓reduceIte, Int.reduceAdd, Int.reduceSub, Int.reduceNeg, Int.reduceLE, Int.reduceLT, Int.reduceMul, Int.reduceEq]
      rw [c_131 (d := d) hq h0 h1 (by decide), bk_v, b_130_51 hq]
      simp (disch := omega) only [and_self, true_and, mm_ltx, mm_lex, mm_eqx, mm_wv, mm_gd, ↓reduceIte, Int.reduceAdd, Int.reduceSub, Int.reduceNeg, Int.reduceLE, Int.reduceLT, Int.reduceMul, Int.reduceEq]
      rw [c_151 (d := d) (mm_PT hq) (by omega) (by omega) (by omega) (by omega) t2, bk_v, b_130_57 hq, show sp_in (μ (mm_tr 2 + 1)) (μ 128 2) 6 (cpart c 2) = cin1 μ c 2 from rfl]
      cases cin1 μ c 2 with
      | false => exact Iff.rfl
      | true => exact Iff.rfl
theorem c_112 (hq : mm_P w) (ht : ct_a μ) (hr : cr_r μ) (hv : 0 ≤ v ∧ v < 8) (h0 : 0 ≤ c) (h1 : c < 216) : am_C (d + 2) 112 [.ref (mm_rl v), .ref 33, .int (Int32.ofInt (c))] (mm_hp w μ X n) Q ↔ Q (.inl (some (.int (Int32.ofInt (if cfits μ v c = true then 1 else 0))))) (mm_hp w μ X n) := by
  have step : ∀ (e : Int) (e4 e5 : Option Value), am_n2 e4 = true → am_n2 e5 = true → 0 ≤ e → e < 3 → (am_E (d + 1) 112 Q (2, [some (.ref (mm_rl v)), some (.ref 33), some (.int (Int32.ofInt (c))), some (.int (Int32.ofInt (e))), e4, e5], [], mm_hp w μ X n) ↔ if cfit μ v e (cpart c e) = true then am_E (d + 1) 112 Q (2, [some (.ref (mm_rl v)), some (.ref 33), some (.int (Int32.ofInt (c))), some (.int (Int32.ofInt (e + 1))), some (.int (Int32.ofInt (cpart c e))), some (.ref (mm_tr e))], [], mm_hp w μ X n) else Q (.inl (some (.int (Int32.ofInt (0))))) (mm_hp w μ X n)) := by
    intro e e4 e5 h4 h5 e0 e3
    have hp := cpart_b (e := e) h0 h1
    have hk := hr.2.2 v e hv.1 hv.2 e0 e3
    have hte := ht e e0 e3
    have hf : cfit μ v e (cpart c e) = true ↔ ((μ (mm_rl v + 1) e = 1 → cpart c e = μ (mm_rl v + 2) e) ∧ (μ (mm_rl v + 1) e = 2 → μ (mm_tr e + 4) (cpart c e) ≠ -1 ∧ sp_in (μ (mm_tr e + 1)) (μ (mm_rl v + 2) e) 6 (cpart c e) = true)) := decide_eq_true_iff
    rw [b_112_2 hq h4 h5]
    simp (disch := omega) only [and_self, true_and, mm_ltx, mm_lex, mm_eqx, mm_wv, mm_gd, ↓reduceIte, Int.reduceAdd, Int.reduceSub, Int.reduceNeg, Int.reduceLE, Int.reduceLT, Int.reduceMul, Int.reduceEq, if_pos, if_neg]
    rw [c_131 (d := d) hq h0 h1 ⟨e0, e3⟩, bk_v, b_112_12 hq h4 h5]
    by_cases k1 : μ (mm_rl v + 1) e = 1
    · by_cases g : cpart c e = μ (mm_rl v + 2) e
      · simp (disch := omega) only [and_self, true_and, mm_ltx, mm_lex, mm_eqx, mm_wv, mm_gd, ↓reduceIte, Int.reduceAdd, Int.reduceSub, Int.reduceNeg, Int.reduceLE, Int.reduceLT, Int.reduceMul, Int.reduceEq, if_pos, if_neg, b_112_45 hq, b_112_83 hq]
        rw [if_pos (hf.mpr ⟨fun _ => g, fun q => by omega⟩)]
      · simp (disch := omega) only [and_self, true_and, mm_ltx, mm_lex, mm_eqx, mm_wv, mm_gd, ↓reduceIte, Int.reduceAdd, Int.reduceSub, Int.reduceNeg, Int.reduceLE, Int.reduceLT, Int.reduceMul, Int.reduceEq, if_pos, if_neg, b_112_45 hq]
        rw [if_neg (fun q => g ((hf.mp q).1 k1))]
    · by_cases k2 : μ (mm_rl v + 1) e = 2
      · simp (disch := omega) only [and_self, true_and, mm_ltx, mm_lex, mm_eqx, mm_wv, mm_gd, ↓reduceIte, Int.reduceAdd, Int.reduceSub, Int.reduceNeg, Int.reduceLE, Int.reduceLT, Int.reduceMul, Int.reduceEq, if_pos, if_neg, b_112_45 hq]
        rw [c_150 (d := d) (mm_PT hq) (by omega) (by omega) hte, bk_v, b_112_62 hq]
        by_cases g : μ (mm_tr e + 4) (cpart c e) = -1
        · rw [if_pos g, if_pos (by decide), if_neg (fun q => ((hf.mp q).2 k2).1 g)]
        · simp (disch := omega) only [and_self, true_and, mm_ltx, mm_lex, mm_eqx, mm_wv, mm_gd, ↓reduceIte, Int.reduceAdd, Int.reduceSub, Int.reduceNeg, Int.reduceLE, Int.reduceLT, Int.reduceMul, Int.reduceEq, if_pos, if_neg]
          rw [c_151 (d := d) (mm_PT hq) (by omega) (by omega) (by omega) (by omega) (mm_twp hte), bk_v, b_112_78 hq]
          by_cases g2 : sp_in (μ (mm_tr e + 1)) (μ (mm_rl v + 2) e) 6 (cpart c e) = true
          · rw [if_pos g2, if_neg (by decide), b_112_83 hq, if_pos (hf.mpr ⟨fun q => by omega, fun _ => ⟨g, g2⟩⟩)]
          · rw [if_neg g2, if_pos (by decide), if_neg (fun q => g2 ((hf.mp q).2 k2).2)]
      · simp (disch := omega) only [and_self, true_and, mm_ltx, mm_lex, mm_eqx, mm_wv, mm_gd, ↓reduceIte, Int.reduceAdd, Int.reduceSub, Int.reduceNeg, Int.reduceLE, Int.reduceLT, Int.reduceMul, Int.reduceEq, if_pos, if_neg, b_112_45 hq, b_112_83 hq]
        rw [if_pos (hf.mpr ⟨fun q => by omega, fun q => by omega⟩)]
  simp only [en_112 (d := d + 1), b_112_0 hq]
  rw [step 0 none none rfl rfl (by decide) (by decide), show (0 : Int) + 1 = 1 from rfl, step 1 _ _ rfl rfl (by decide) (by decide), show (1 : Int) + 1 = 2 from rfl, step 2 _ _ rfl rfl (by decide) (by decide), show (2 : Int) + 1 = 3 from rfl, b_112_2 hq rfl rfl]
  unfold cfits
  cases cfit μ v 0 (cpart c 0) <;> cases cfit μ v 1 (cpart c 1) <;> cases cfit μ v 2 (cpart c 2) <;> exact Iff.rfl
theorem cdep_b (ht : ct_a μ) (hr : cr_r μ) (hv : 0 ≤ v ∧ v < 8) (he : 0 ≤ e ∧ e < 3) : (0 ≤ cpat μ v e ∧ cpat μ v e ≤ 1) ∧ (0 ≤ cdep μ v e ∧ cdep μ v e ≤ 5) := by
  have hk := hr.2.2 v e hv.1 hv.2 he.1 he.2
  have h1 := (ht e he.1 he.2).1 (μ (mm_rl v + 2) e) (by omega) (by omega)
  unfold cpat cdep
  split <;> omega
theorem c_115 (hq : mm_P w) (ht : ct_a μ) (hr : cr_r μ) (hv : 0 ≤ v ∧ v < 8) : am_C (d + 1) 115 [.ref (mm_rl v), .ref 33] (mm_hp w μ X n) Q ↔ Q (.inl (some (.int (Int32.ofInt (crank μ v))))) (mm_hp w μ X n) := by
  have step : ∀ (e a b : Int), 0 ≤ e → e < 3 → (am_E d 115 Q (7, [some (.ref (mm_rl v)), some (.ref 33), some (.int (Int32.ofInt (a))), some (.int (Int32.ofInt (b))), some (.int (Int32.ofInt (e)))], [], mm_hp w μ X n) ↔ am_E d 115 Q (7, [some (.ref (mm_rl v)), some (.ref 33), some (.int (Int32.ofInt (a + cpat μ v e))), some (.int (Int32.ofInt (b + cdep μ v e))), some (.int (Int32.ofInt (e + 1)))], [], mm_hp w μ X n)) := by
    intro e a b e0 e3
    have hk := hr.2.2 v e hv.1 hv.2 e0 e3
    rw [b_115_7 hq]
    unfold cpat cdep
    by_cases k : μ (mm_rl v + 1) e = 0
    · simp (disch := omega) only [and_self, true_and, mm_ltx, mm_lex, mm_eqx, mm_wv, mm_gd, ↓reduceIte, Int.reduceAdd, Int.reduceSub, Int.reduceNeg, Int.reduceLE, Int.reduceLT, Int.reduceMul, Int.reduceEq, if_pos, if_neg, b_115_47 hq, Int.add_zero]
    · simp (disch := omega) only [and_self, true_and, mm_ltx, mm_lex, mm_eqx, mm_wv, mm_gd, ↓reduceIte, Int.reduceAdd, Int.reduceSub, Int.reduceNeg, Int.reduceLE, Int.reduceLT, Int.reduceMul, Int.reduceEq, if_pos, if_neg, b_115_47 hq]
  have b0 := cdep_b (e := 0) ht hr hv (by decide)
  have b1 := cdep_b (e := 1) ht hr hv (by decide)
  have b2 := cdep_b (e := 2) ht hr hv (by decide)
  simp only [en_115, b_115_0 hq]
  rw [step 0 0 0 (by decide) (by decide), show (0 : Int) + 1 = 1 from rfl, Int.zero_add, Int.zero_add, step 1 _ _ (by decide) (by decide), show (1 : Int) + 1 = 2 from rfl, step 2 _ _ (by decide) (by decide), show (2 : Int) + 1 = 3 from rfl, b_115_7 hq]
  unfold crank
  simp (disch := omega) only [and_self, true_and, mm_ltx, mm_lex, mm_eqx, mm_wv, mm_gd, ↓reduceIte, Int.reduceAdd, Int.reduceSub, Int.reduceNeg, Int.reduceLE, Int.reduceLT, Int.reduceMul, Int.reduceEq, if_pos, if_neg]
theorem crank_b (ht : ct_a μ) (hr : cr_r μ) (hv : 0 ≤ v ∧ v < 8) : 0 ≤ crank μ v ∧ crank μ v ≤ 700 := by
  have b0 := cdep_b (e := 0) ht hr hv (by decide)
  have b1 := cdep_b (e := 1) ht hr hv (by decide)
  have b2 := cdep_b (e := 2) ht hr hv (by decide)
  unfold crank
  omega
theorem cbest_b (ht : ct_a μ) (hr : cr_r μ) : ∀ (k : Nat), k ≤ 8 → (-1 ≤ (cbest μ c k).1 ∧ (cbest μ c k).1 < 8) ∧ 0 ≤ (cbest μ c k).2 ∧ (cbest μ c k).2 ≤ 700 := by
  intro k
  induction k with
  | zero => intro _; unfold cbest; exact ⟨⟨by decide, by decide⟩, by decide, by decide⟩
  | succ k ih =>
    intro hk
    have := ih (by omega)
    have h1 := hr.2.1 (k : Int) (by omega) (by omega)
    have h2 := crank_b ht hr h1
    unfold cbest
    split
    · exact ⟨⟨by show (-1 : Int) ≤ (k : Int); omega, by show (k : Int) < 8; omega⟩, h2.1, h2.2⟩
    · exact this
theorem c_120_8 (hq : mm_P w) (ht : ct_a μ) (hr : cr_r μ) (h0 : 0 ≤ c) (h1 : c < 216) : ∀ (k i : Nat) (e6 : Option Value), am_n2 e6 = true → (i : Int) + k = μ 53 1 → (am_E (d + 2) 120 Q (8, [some (.ref 53), some (.ref 33), some (.int (Int32.ofInt (c))), some (.int (Int32.ofInt ((cbest μ c i).1))), some (.int (Int32.ofInt ((cbest μ c i).2))), some (.int (Int32.ofInt ((i : Int)))), e6], [], mm_hp w μ X n) ↔ Q (.inl (some (.int (Int32.ofInt ((cbest μ c (i + k)).1))))) (mm_hp w μ X n)) := by
  have hr1 := hr.1
  intro k
  induction k with
  | zero =>
    intro i e6 h6 hi
    rw [b_120_8 hq h6]
    simp (disch := omega) only [and_self, true_and, mm_ltx, mm_lex, mm_eqx, mm_wv, mm_gd, ↓reduceIte, Int.reduceAdd, Int.reduceSub, Int.reduceNeg, Int.reduceLE, Int.reduceLT, Int.reduceMul, Int.reduceEq, if_pos, if_neg]
    rfl
  | succ k ih =>
    intro i e6 h6 hi
    have hb := cbest_b (c := c) ht hr i (by omega)
    have hv := hr.2.1 (i : Int) (by omega) (by omega)
    have hrk := crank_b ht hr hv
    have fin : ∀ (e6 : Option Value), am_n2 e6 = true → (am_E (d + 2) 120 Q (59, [some (.ref 53), some (.ref 33), some (.int (Int32.ofInt (c))), some (.int (Int32.ofInt ((cbest μ c (i + 1)).1))), some (.int (Int32.ofInt ((cbest μ c (i + 1)).2))), some (.int (Int32.ofInt ((i : Int)))), e6], [], mm_hp w μ X n) ↔ Q (.inl (some (.int (Int32.ofInt ((cbest μ c (i + (k + 1))).1))))) (mm_hp w μ X n)) := by
      intro e6 h6
      rw [b_120_59 hq h6, show (i : Int) + 1 = ((i + 1 : Nat) : Int) by omega, ih (i + 1) e6 h6 (by omega), show i + 1 + k = i + (k + 1) by omega]
    rw [b_120_8 hq h6]
    simp (disch := omega) only [and_self, true_and, mm_ltx, mm_lex, mm_eqx, mm_wv, mm_gd, ↓reduceIte, Int.reduceAdd, Int.reduceSub, Int.reduceNeg, Int.reduceLE, Int.reduceLT, Int.reduceMul, Int.reduceEq, if_pos, if_neg]
    rw [c_112 (d := d) hq ht hr hv h0 h1, bk_v, b_120_29 hq h6]
    by_cases f : cfits μ (μ 54 i) c = true
    · simp (disch := omega) only [and_self, true_and, mm_ltx, mm_lex, mm_eqx, mm_wv, mm_gd, ↓reduceIte, Int.reduceAdd, Int.reduceSub, Int.reduceNeg, Int.reduceLE, Int.reduceLT, Int.reduceMul, Int.reduceEq, if_pos, if_neg]
      rw [show d + 2 = (d + 1) + 1 from rfl, c_115 (d := d + 1) hq ht hr hv, bk_v, b_120_43 hq h6, show d + 1 + 1 = d + 2 from rfl]
      by_cases g : crank μ (μ 54 i) < (cbest μ c i).2
      · have hx := fin (some (.int (Int32.ofInt (crank μ (μ 54 i))))) rfl
        rw [show cbest μ c (i + 1) = cbest μ c i from if_neg (fun q => by omega)] at hx
        simp (disch := omega) only [and_self, true_and, mm_ltx, mm_lex, mm_eqx, mm_wv, mm_gd, ↓reduceIte, Int.reduceAdd, Int.reduceSub, Int.reduceNeg, Int.reduceLE, Int.reduceLT, Int.reduceMul, Int.reduceEq, if_pos, if_neg]
        exact hx
      · have hx := fin (some (.int (Int32.ofInt (crank μ (μ 54 i))))) rfl
        rw [show cbest μ c (i + 1) = ((i : Int), crank μ (μ 54 i)) from if_pos ⟨f, by omega⟩] at hx
        simp (disch := omega) only [and_self, true_and, mm_ltx, mm_lex, mm_eqx, mm_wv, mm_gd, ↓reduceIte, Int.reduceAdd, Int.reduceSub, Int.reduceNeg, Int.reduceLE, Int.reduceLT, Int.reduceMul, Int.reduceEq, if_pos, if_neg]
        exact hx
    · have hx := fin e6 h6
      rw [show cbest μ c (i + 1) = cbest μ c i from if_neg (fun q => f q.1)] at hx
      rw [if_neg f, if_pos (by decide)]
      exact hx
theorem c_120 (hq : mm_P w) (ht : ct_a μ) (hr : cr_r μ) (h0 : 0 ≤ c) (h1 : c < 216) : am_C (d + 3) 120 [.ref 53, .ref 33, .int (Int32.ofInt (c))] (mm_hp w μ X n) Q ↔ Q (.inl (some (.int (Int32.ofInt ((cbest μ c (μ 53 1).toNat).1))))) (mm_hp w μ X n) := by
  have hr1 := hr.1
  simp only [en_120 (d := d + 2), b_120_0 hq]
  have := c_120_8 (d := d) (Q := Q) (X := X) (n := n) hq ht hr h0 h1 (μ 53 1).toNat 0 none rfl (by omega)
  rw [Nat.zero_add] at this
  exact this
end CS
