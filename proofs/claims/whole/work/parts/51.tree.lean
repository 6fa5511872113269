/-! The class's small methods of a tree. -/
/-- a tree's numbers are in range -/
def mm_tw (μ : mm_M) (z : Int) : Prop := (∀ j, 0 ≤ j → j < 6 → (-2 ≤ μ (mm_tr z + 1) j ∧ μ (mm_tr z + 1) j ≤ 5) ∧ (0 ≤ μ (mm_tr z + 2) j ∧ μ (mm_tr z + 2) j ≤ 4) ∧ (0 ≤ μ (mm_tr z + 3) j ∧ μ (mm_tr z + 3) j ≤ 5) ∧ (-1 ≤ μ (mm_tr z + 4) j ∧ μ (mm_tr z + 4) j ≤ 5) ∧ (0 ≤ μ (mm_tr z + 5) j ∧ μ (mm_tr z + 5) j ≤ 5)) ∧ (0 ≤ μ (mm_tr z) 5 ∧ μ (mm_tr z) 5 ≤ 6) ∧ (0 ≤ μ (mm_tr z) 6 ∧ μ (mm_tr z) 6 ≤ 6)
def sp_fc (p : Int → Int) (m : Int) : Int := if p 0 = m then 0 else if p 1 = m then 1 else if p 2 = m then 2 else if p 3 = m then 3 else if p 4 = m then 4 else if p 5 = m then 5 else -1
def sp_lc (p : Int → Int) (m : Int) : Int := if p 5 = m then 5 else if p 4 = m then 4 else if p 3 = m then 3 else if p 2 = m then 2 else if p 1 = m then 1 else if p 0 = m then 0 else -1
def sp_in (p : Int → Int) (top : Int) : Nat → Int → Bool
  | 0, _ => false
  | k + 1, m => if m < 0 then false else if m = top then true else sp_in p top k (p m)
/-- the parents are in range -/
def mm_tp (μ : mm_M) (z : Int) : Prop := ∀ j, 0 ≤ j → j < 6 → -2 ≤ μ (mm_tr z + 1) j ∧ μ (mm_tr z + 1) j ≤ 5
section T1
variable {d : Nat} {Q : am_Ou → am_G → Prop} {w : mm_Z} {μ : mm_M} {X : mm_X} {n : mm_N} {z m : Int}
theorem c_148 (hq : mm_T w z) (h1 : -2147483648 ≤ m) (h2 : m ≤ 2147483647) (hr : mm_tp μ z) : am_C (d + 1) 148 [.ref (mm_tr z), .int (Int32.ofInt m)] (mm_hp w μ X n) Q ↔ Q (.inl (some (.int (Int32.ofInt (if 0 ≤ m ∧ m < 6 ∧ μ (mm_tr z + 1) m ≠ -2 then 1 else 0))))) (mm_hp w μ X n) := by
  simp only [en_148, b_148_0, hq]
  by_cases e1 : 0 ≤ m ∧ m < 6
  · have := hr m e1.1 e1.2
    by_cases e2 : μ (mm_tr z + 1) m = -2
    · simp (disch := omega) only [and_self, true_and, mm_ltx, mm_lex, mm_eqx, mm_wv, mm_gd, ↓reduceIte, Int.reduceAdd, Int.reduceSub, Int.reduceNeg, Int.reduceLE, Int.reduceLT, Int.reduceMul, if_pos, if_neg]
    · simp (disch := omega) only [and_self, true_and, mm_ltx, mm_lex, mm_eqx, mm_wv, mm_gd, ↓reduceIte, Int.reduceAdd, Int.reduceSub, Int.reduceNeg, Int.reduceLE, Int.reduceLT, Int.reduceMul, if_pos, if_neg]
  · by_cases e3 : m < 0
    · simp (disch := omega) only [and_self, true_and, mm_ltx, mm_lex, mm_eqx, mm_wv, mm_gd, ↓reduceIte, Int.reduceAdd, Int.reduceSub, Int.reduceNeg, Int.reduceLE, Int.reduceLT, Int.reduceMul, if_pos, if_neg]
    · simp (disch := omega) only [and_self, true_and, mm_ltx, mm_lex, mm_eqx, mm_wv, mm_gd, ↓reduceIte, Int.reduceAdd, Int.reduceSub, Int.reduceNeg, Int.reduceLE, Int.reduceLT, Int.reduceMul, if_pos, if_neg]
theorem c_145 (hq : mm_T w z) (h1 : -2147483648 ≤ m) (h2 : m ≤ 2147483647) (hr : mm_tp μ z) : am_C (d + 1) 145 [.ref (mm_tr z), .int (Int32.ofInt m)] (mm_hp w μ X n) Q ↔ Q (.inl (some (.int (Int32.ofInt (sp_fc (μ (mm_tr z + 1)) m))))) (mm_hp w μ X n) := by
  have q0 := hr 0 (by decide) (by decide)
  have q1 := hr 1 (by decide) (by decide)
  have q2 := hr 2 (by decide) (by decide)
  have q3 := hr 3 (by decide) (by decide)
  have q4 := hr 4 (by decide) (by decide)
  have q5 := hr 5 (by decide) (by decide)
  simp only [en_145, b_145_0 hq]
  simp (disch := omega) only [b_145_2 hq, b_145_24 hq, and_self, true_and, mm_ltx, mm_lex, mm_eqx, mm_wv, mm_gd, ↓reduceIte, Int.reduceAdd, Int.reduceSub, Int.reduceNeg, Int.reduceLE, Int.reduceLT, Int.reduceMul, mm_qi (Q := Q), sp_fc]
theorem c_149 (hq : mm_T w z) {b : Int} (h1 : 0 ≤ m) (h2 : m < 6) (h3 : -2147483648 ≤ b) (h4 : b ≤ 2147483647) (hr : mm_tp μ z) : am_C (d + 1) 149 [.ref (mm_tr z), .int (Int32.ofInt (m)), .int (Int32.ofInt (b))] (mm_hp w μ X n) Q ↔ Q (.inl (some (.int (Int32.ofInt (if μ (mm_tr z + 1) m = b then 1 else 0))))) (mm_hp w μ X n) := by
  have := hr m h1 h2
  simp only [en_149, b_149_0, hq]
  simp (disch := omega) only [and_self, true_and, mm_ltx, mm_lex, mm_eqx, mm_wv, mm_gd, ↓reduceIte, Int.reduceAdd, Int.reduceSub, Int.reduceNeg, Int.reduceLE, Int.reduceLT, Int.reduceMul, mm_qi (Q := Q)]
theorem c_150 (hq : mm_T w z) (h1 : 0 ≤ m) (h2 : m < 6) (hr : mm_tw μ z) : am_C (d + 1) 150 [.ref (mm_tr z), .int (Int32.ofInt (m))] (mm_hp w μ X n) Q ↔ Q (.inl (some (.int (Int32.ofInt (if μ (mm_tr z + 4) m = -1 then 0 else 1))))) (mm_hp w μ X n) := by
  have := hr.1 m h1 h2
  simp only [en_150, b_150_0, hq]
  simp (disch := omega) only [and_self, true_and, mm_ltx, mm_lex, mm_eqx, mm_wv, mm_gd, ↓reduceIte, Int.reduceAdd, Int.reduceSub, Int.reduceNeg, Int.reduceLE, Int.reduceLT, Int.reduceMul, mm_qi (Q := Q)]
theorem c_151_5 (hq : mm_T w z) {top : Int} (h3 : -2147483648 ≤ top) (h4 : top ≤ 2147483647) (hr : mm_tp μ z) : ∀ (k : Nat) (v : Int), k ≤ 6 → -2 ≤ v → v ≤ 5 → (am_E d 151 Q (5, [some (.ref (mm_tr z)), some (.int (Int32.ofInt (m))), some (.int (Int32.ofInt (top))), some (.int (Int32.ofInt (v))), some (.int (Int32.ofInt (6 - (k : Int))))], [], mm_hp w μ X n) ↔ Q (.inl (some (.int (Int32.ofInt (if sp_in (μ (mm_tr z + 1)) top k v = true then 1 else 0))))) (mm_hp w μ X n)) := by
  intro k
  induction k with
  | zero =>
    intro v _ _ _
    rw [b_151_5 hq]
    simp only [sp_in, Bool.false_eq_true]
    simp (disch := omega) only [and_self, true_and, mm_ltx, mm_lex, mm_eqx, mm_wv, mm_gd, ↓reduceIte, Int.reduceAdd, Int.reduceSub, Int.reduceNeg, Int.reduceLE, Int.reduceLT, Int.reduceMul, if_pos, if_neg]
  | succ k ih =>
    intro v hk h5 h6
    rw [b_151_5 hq]
    by_cases e1 : v < 0
    · simp only [sp_in, if_pos e1, Bool.false_eq_true]
      simp (disch := omega) only [and_self, true_and, mm_ltx, mm_lex, mm_eqx, mm_wv, mm_gd, ↓reduceIte, Int.reduceAdd, Int.reduceSub, Int.reduceNeg, Int.reduceLE, Int.reduceLT, Int.reduceMul, if_pos, if_neg]
    · have := hr v (by omega) (by omega)
      by_cases e2 : v = top
      · simp only [sp_in, if_neg e1, if_pos e2]
        simp (disch := omega) only [and_self, true_and, mm_ltx, mm_lex, mm_eqx, mm_wv, mm_gd, ↓reduceIte, Int.reduceAdd, Int.reduceSub, Int.reduceNeg, Int.reduceLE, Int.reduceLT, Int.reduceMul, if_pos, if_neg]
      · simp only [sp_in, if_neg e1, if_neg e2]
        rw [← ih (μ (mm_tr z + 1) v) (by omega) (by omega) (by omega)]
        simp (disch := omega) only [and_self, true_and, mm_ltx, mm_lex, mm_eqx, mm_wv, mm_gd, ↓reduceIte, Int.reduceAdd, Int.reduceSub, Int.reduceNeg, Int.reduceLE, Int.reduceLT, Int.reduceMul, if_pos, if_neg]
        rw [show 6 - ((k + 1 : Nat) : Int) + 1 = 6 - (k : Int) by omega]
theorem c_151 (hq : mm_T w z) {top : Int} (h1 : -2 ≤ m) (h2 : m ≤ 5) (h3 : -2147483648 ≤ top) (h4 : top ≤ 2147483647) (hr : mm_tp μ z) : am_C (d + 1) 151 [.ref (mm_tr z), .int (Int32.ofInt (m)), .int (Int32.ofInt (top))] (mm_hp w μ X n) Q ↔ Q (.inl (some (.int (Int32.ofInt (if sp_in (μ (mm_tr z + 1)) top 6 m = true then 1 else 0))))) (mm_hp w μ X n) := by
  simp only [en_151, b_151_0 hq]
  exact c_151_5 hq h3 h4 hr 6 m (by omega) h1 h2
theorem c_152 (hq : mm_T w z) (h1 : -2147483648 ≤ m) (h2 : m ≤ 2147483647) (hr : mm_tp μ z) : am_C (d + 1) 152 [.ref (mm_tr z), .int (Int32.ofInt (m))] (mm_hp w μ X n) Q ↔ Q (.inl (some (.int (Int32.ofInt (sp_lc (μ (mm_tr z + 1)) m))))) (mm_hp w μ X n) := by
  have q0 := hr 0 (by decide) (by decide)
  have q1 := hr 1 (by decide) (by decide)
  have q2 := hr 2 (by decide) (by decide)
  have q3 := hr 3 (by decide) (by decide)
  have q4 := hr 4 (by decide) (by decide)
  have q5 := hr 5 (by decide) (by decide)
  simp only [en_152, b_152_0 hq]
  simp (disch := omega) only [b_152_2 hq, and_self, true_and, mm_ltx, mm_lex, mm_eqx, mm_wv, mm_gd, ↓reduceIte, Int.reduceAdd, Int.reduceSub, Int.reduceNeg, Int.reduceLE, Int.reduceLT, Int.reduceMul, mm_qi (Q := Q), sp_lc]
theorem c_153 (hq : mm_T w z) (h1 : 0 ≤ m) (h2 : m ≤ 5) (hr : mm_tw μ z) : am_C (d + 1) 153 [.ref (mm_tr z), .int (Int32.ofInt (m))] (mm_hp w μ X n) Q ↔ Q (.inl (some (.int (Int32.ofInt (if μ (mm_tr z) 5 ≤ m then -1 else μ (mm_tr z + 5) m))))) (mm_hp w μ X n) := by
  have := hr.2.1
  simp only [en_153, b_153_0, hq]
  simp (disch := omega) only [and_self, true_and, mm_ltx, mm_lex, mm_eqx, mm_wv, mm_gd, ↓reduceIte, Int.reduceAdd, Int.reduceSub, Int.reduceNeg, Int.reduceLE, Int.reduceLT, Int.reduceMul, mm_qi (Q := Q)]
theorem c_154 (hq : mm_T w z) {o : Int} (h1 : 0 ≤ m) (h2 : m ≤ 5) (h3 : o = 1 ∨ o = -1) (hr : mm_tw μ z) : am_C (d + 2) 154 [.ref (mm_tr z), .int (Int32.ofInt (m)), .int (Int32.ofInt (o))] (mm_hp w μ X n) Q ↔ Q (.inl (some (.int (Int32.ofInt (if μ (mm_tr z + 4) m = -1 ∨ μ (mm_tr z + 4) m + o < 0 ∨ μ (mm_tr z) 5 ≤ μ (mm_tr z + 4) m + o then -1 else μ (mm_tr z + 5) (μ (mm_tr z + 4) m + o)))))) (mm_hp w μ X n) := by
  have := hr.2.1
  have := hr.1 m (by omega) (by omega)
  simp only [en_154 (d := d + 1), b_154_0 hq]
  simp (disch := omega) only [and_self, true_and, mm_ltx, mm_lex, mm_eqx, mm_wv, mm_gd, ↓reduceIte, Int.reduceAdd, Int.reduceSub, Int.reduceNeg, Int.reduceLE, Int.reduceLT, Int.reduceMul, c_150 (d := d) hq h1 (by omega) hr, bk_v, Nat.reduceAdd, b_154_14 hq]
  by_cases e1 : μ (mm_tr z + 4) m = -1
  · simp (disch := omega) only [and_self, true_and, mm_ltx, mm_lex, mm_eqx, mm_wv, mm_gd, ↓reduceIte, Int.reduceAdd, Int.reduceSub, Int.reduceNeg, Int.reduceLE, Int.reduceLT, Int.reduceMul, if_pos, if_neg]
  · by_cases e2 : μ (mm_tr z + 4) m + o < 0
    · simp (disch := omega) only [and_self, true_and, mm_ltx, mm_lex, mm_eqx, mm_wv, mm_gd, ↓reduceIte, Int.reduceAdd, Int.reduceSub, Int.reduceNeg, Int.reduceLE, Int.reduceLT, Int.reduceMul, if_pos, if_neg]
    · by_cases e3 : μ (mm_tr z) 5 ≤ μ (mm_tr z + 4) m + o
      · simp (disch := omega) only [and_self, true_and, mm_ltx, mm_lex, mm_eqx, mm_wv, mm_gd, ↓reduceIte, Int.reduceAdd, Int.reduceSub, Int.reduceNeg, Int.reduceLE, Int.reduceLT, Int.reduceMul, if_pos, if_neg]
      · simp (disch := omega) only [and_self, true_and, mm_ltx, mm_lex, mm_eqx, mm_wv, mm_gd, ↓reduceIte, Int.reduceAdd, Int.reduceSub, Int.reduceNeg, Int.reduceLE, Int.reduceLT, Int.reduceMul, if_pos, if_neg]
end T1
