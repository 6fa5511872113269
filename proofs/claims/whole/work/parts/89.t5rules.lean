/-! The class's rule book. -/
/-- a formula names a member -/
def crn (μ : mm_M) (v e m : Int) : Nat → Int → Bool
  | 0, _ => false
  | k + 1, i => decide (μ (mm_rl v + 3) i = 7 ∧ μ (mm_rl v + 4) i = 10 * e + m) || crn μ v e m k (i + 1)
def crn1 (μ : mm_M) (v e m : Int) : Bool := decide (μ (mm_rl v + 1) e ≠ 0 ∧ μ (mm_rl v + 2) e = m) || crn μ v e m (μ (mm_rl v) 4).toNat 0
def crns (μ : mm_M) (e m : Int) : Nat → Int → Bool
  | 0, _ => false
  | k + 1, i => crn1 μ (μ 54 i) e m || crns μ e m k (i + 1)
/-- rules move down behind one that goes -/
def crot (μ : mm_M) (r k : Int) : mm_M := fun x j => if x = 54 ∧ r ≤ j ∧ j < k then μ 54 (j + 1) else μ x j
/-- formulas in range -/
def cf_r (μ : mm_M) : Prop := ∀ v, 0 ≤ v → v < 8 → (0 ≤ μ (mm_rl v) 4 ∧ μ (mm_rl v) 4 ≤ 24) ∧ ∀ j, 0 ≤ j → j < μ (mm_rl v) 4 → (-2147483648 ≤ μ (mm_rl v + 3) j ∧ μ (mm_rl v + 3) j ≤ 2147483647) ∧ (μ (mm_rl v + 3) j = 7 → -2147483648 ≤ μ (mm_rl v + 4) j ∧ μ (mm_rl v + 4) j ≤ 2147483647)
section RB
variable {d : Nat} {Q : am_Ou → am_G → Prop} {w : mm_Z} {μ : mm_M} {X : mm_X} {n : mm_N} {e m v r : Int}
theorem c_109 (hq : mm_P w) : am_C (d + 2) 109 [.ref 102] (mm_hp w μ X n) Q ↔ Q (.inl none) (mm_hp w (mm_u (mm_fi (mm_fi μ 103 3 0) 104 3 0) 102 4 0) X n) := by
  rw [en_109 (d := d + 1), b_109_0 hq, c_311 (d := d) (N := 3) (by decide) (hq _ (by decide) (by decide)) (by decide) (by decide), bk_n, b_109_8 hq, c_311 (d := d) (N := 3) (by decide) (hq _ (by decide) (by decide)) (by decide) (by decide), bk_n, b_109_16 hq]
  rfl
theorem c_113 (hq : mm_P w) (he : 0 ≤ e ∧ e < 3) (hm : 0 ≤ m ∧ m < 6) (h : -2147483648 ≤ μ 104 e ∧ μ 104 e ≤ 2147483647) : am_C (d + 1) 113 [.ref 102, .int (Int32.ofInt (e)), .int (Int32.ofInt (m))] (mm_hp w μ X n) Q ↔ Q (.inl none) (mm_hp w (if μ 104 e = m then mm_u (mm_u μ 103 e 0) 104 e 0 else μ) X n) := by
  rw [en_113, b_113_0 hq]
  simp (disch := omega) only [and_self, true_and, mm_ltx, mm_lex, mm_eqx, mm_wv, mm_gd, ↓reduceIte, Int.reduceAdd, Int.reduceSub, Int.reduceNeg, Int.reduceLE, Int.reduceLT, Int.reduceMul, Int.reduceEq]
  by_cases a : μ 104 e = m
  · rw [if_pos a, if_pos a]
  · rw [if_neg a, if_neg a]
theorem c_116 (hq : mm_P w) (he : 0 ≤ e ∧ e < 3) (hm : 0 ≤ m ∧ m < 10) : am_C (d + 1) 116 [.int (Int32.ofInt (e)), .int (Int32.ofInt (m))] (mm_hp w μ X n) Q ↔ Q (.inl (some (.int (Int32.ofInt (10 * e + m))))) (mm_hp w μ X n) := by
  rw [en_116, b_116_0 hq, Int.mul_comm e 10]
theorem c_114_23 (hq : mm_P w) (hf : cf_r μ) (hv : 0 ≤ v ∧ v < 8) (he : 0 ≤ e ∧ e < 3) (hm : 0 ≤ m ∧ m < 6) : ∀ (k : Nat) (i : Int), 0 ≤ i → i + k = μ (mm_rl v) 4 → (am_E (d + 1) 114 Q (23, [some (.ref (mm_rl v)), some (.int (Int32.ofInt (e))), some (.int (Int32.ofInt (m))), some (.int (Int32.ofInt (i)))], [], mm_hp w μ X n) ↔ Q (.inl (some (.int (Int32.ofInt (if crn μ v e m k i = true then 1 else 0))))) (mm_hp w μ X n)) := by
  have hl := (hf v hv.1 hv.2).1
  intro k
  induction k with
  | zero =>
    intro i i0 hi
    rw [b_114_23 hq, if_pos (by rw [mm_lex, mm_wv (by omega) (by omega), mm_wv (by omega) (by omega)]; omega)]
    rfl
  | succ k ih =>
    intro i i0 hi
    have hj := (hf v hv.1 hv.2).2 i i0 (by omega)
    have s58 : decide (μ (mm_rl v + 3) i = 7 ∧ μ (mm_rl v + 4) i = 10 * e + m) = false → (am_E (d + 1) 114 Q (58, [some (.ref (mm_rl v)), some (.int (Int32.ofInt (e))), some (.int (Int32.ofInt (m))), some (.int (Int32.ofInt (i)))], [], mm_hp w μ X n) ↔ Q (.inl (some (.int (Int32.ofInt (if crn μ v e m (k + 1) i = true then 1 else 0))))) (mm_hp w μ X n)) := by
      intro hd
      unfold crn
      rw [hd, Bool.false_or, b_114_58 hq]
      exact ih (i + 1) (by omega) (by omega)
    rw [b_114_23 hq, if_neg (by rw [mm_lex, mm_wv (by omega) (by omega), mm_wv (by omega) (by omega)]; omega)]
    simp (disch := omega) only [and_self, true_and, mm_ltx, mm_lex, mm_eqx, mm_wv, mm_gd, ↓reduceIte, Int.reduceAdd, Int.reduceSub, Int.reduceNeg, Int.reduceLE, Int.reduceLT, Int.reduceMul, Int.reduceEq]
    by_cases a : μ (mm_rl v + 3) i = 7
    · have hj2 := hj.2 a
      rw [if_pos a, c_116 (d := d) hq he (by omega), bk_v, b_114_53 hq]
      by_cases b : μ (mm_rl v + 4) i = 10 * e + m
      · rw [if_pos (by rw [b])]
        unfold crn
        rw [decide_eq_true ⟨a, b⟩, Bool.true_or, if_pos rfl]
      · rw [if_neg (by rw [mm_eqx, mm_wv (by omega) (by omega), mm_wv (by omega) (by omega)]; exact b)]
        exact s58 (decide_eq_false (fun q => b q.2))
    · rw [if_neg a]
      exact s58 (decide_eq_false (fun q => a q.1))
theorem c_114 (hq : mm_P w) (hf : cf_r μ) (hr : cr_r μ) (hv : 0 ≤ v ∧ v < 8) (he : 0 ≤ e ∧ e < 3) (hm : 0 ≤ m ∧ m < 6) : am_C (d + 2) 114 [.ref (mm_rl v), .int (Int32.ofInt (e)), .int (Int32.ofInt (m))] (mm_hp w μ X n) Q ↔ Q (.inl (some (.int (Int32.ofInt (if crn1 μ v e m = true then 1 else 0))))) (mm_hp w μ X n) := by
  have hl := (hf v hv.1 hv.2).1
  have hp := hr.2.2 v e hv.1 hv.2 he.1 he.2
  have s21 : decide (μ (mm_rl v + 1) e ≠ 0 ∧ μ (mm_rl v + 2) e = m) = false → (am_E (d + 1) 114 Q (21, [some (.ref (mm_rl v)), some (.int (Int32.ofInt (e))), some (.int (Int32.ofInt (m))), none], [], mm_hp w μ X n) ↔ Q (.inl (some (.int (Int32.ofInt (if crn1 μ v e m = true then 1 else 0))))) (mm_hp w μ X n)) := by
    intro hd
    unfold crn1
    rw [hd, Bool.false_or, b_114_21 hq]
    exact c_114_23 hq hf hv he hm _ 0 (by decide) (by omega)
  rw [en_114 (d := d + 1), b_114_0 hq]
  simp (disch := omega) only [and_self, true_and, mm_ltx, mm_lex, mm_eqx, mm_wv, mm_gd, ↓reduceIte, Int.reduceAdd, Int.reduceSub, Int.reduceNeg, Int.reduceLE, Int.reduceLT, Int.reduceMul, Int.reduceEq]
  by_cases a : μ (mm_rl v + 1) e = 0
  · rw [if_pos a]
    exact s21 (decide_eq_false (fun q => q.1 a))
  · rw [if_neg a]
    by_cases b : μ (mm_rl v + 2) e = m
    · rw [if_pos b]
      unfold crn1
      rw [decide_eq_true ⟨a, b⟩, Bool.true_or, if_pos rfl]
    · rw [if_neg b]
      exact s21 (decide_eq_false (fun q => b q.2))
theorem c_122_2 (hq : mm_P w) (hf : cf_r μ) (hr : cr_r μ) (he : 0 ≤ e ∧ e < 3) (hm : 0 ≤ m ∧ m < 6) : ∀ (k : Nat) (i : Int), 0 ≤ i → i + k = μ 53 1 → (am_E (d + 2) 122 Q (2, [some (.ref 53), some (.int (Int32.ofInt (e))), some (.int (Int32.ofInt (m))), some (.int (Int32.ofInt (i)))], [], mm_hp w μ X n) ↔ Q (.inl (some (.int (Int32.ofInt (if crns μ e m k i = true then 1 else 0))))) (mm_hp w μ X n)) := by
  have h53 := hr.1
  intro k
  induction k with
  | zero =>
    intro i i0 hi
    rw [b_122_2 hq, if_pos (by rw [mm_lex, mm_wv (by omega) (by omega), mm_wv (by omega) (by omega)]; omega)]
    rfl
  | succ k ih =>
    intro i i0 hi
    have hv := hr.2.1 i i0 (by omega)
    rw [b_122_2 hq, if_neg (by rw [mm_lex, mm_wv (by omega) (by omega), mm_wv (by omega) (by omega)]; omega)]
    simp (disch := omega) only [and_self, true_and, mm_ltx, mm_lex, mm_eqx, mm_wv, mm_gd, ↓reduceIte, Int.reduceAdd, Int.reduceSub, Int.reduceNeg, Int.reduceLE, Int.reduceLT, Int.reduceMul, Int.reduceEq]
    rw [c_114 (d := d) hq hf hr hv he hm, bk_v, b_122_21 hq]
    by_cases a : crn1 μ (μ 54 i) e m = true
    · rw [if_pos a, if_neg (by decide)]
      unfold crns
      rw [a, Bool.true_or, if_pos rfl]
    · rw [if_neg a, if_pos rfl]
      have a2 : crn1 μ (μ 54 i) e m = false := by revert a; cases crn1 μ (μ 54 i) e m <;> simp
      unfold crns
      rw [a2, Bool.false_or]
      exact ih (i + 1) (by omega) (by omega)
theorem c_122 (hq : mm_P w) (hf : cf_r μ) (hr : cr_r μ) (he : 0 ≤ e ∧ e < 3) (hm : 0 ≤ m ∧ m < 6) : am_C (d + 3) 122 [.ref 53, .int (Int32.ofInt (e)), .int (Int32.ofInt (m))] (mm_hp w μ X n) Q ↔ Q (.inl (some (.int (Int32.ofInt (if crns μ e m (μ 53 1).toNat 0 = true then 1 else 0))))) (mm_hp w μ X n) := by
  have h53 := hr.1
  rw [en_122 (d := d + 2), b_122_0 hq]
  exact c_122_2 hq hf hr he hm _ 0 (by decide) (by omega)
theorem crot_0 : crot μ r r = μ := by
  funext x j
  unfold crot
  rw [if_neg (by omega)]
theorem crot_s {k : Int} (h : r ≤ k) : mm_u (crot μ r k) 54 k (μ 54 (k + 1)) = crot μ r (k + 1) := by
  funext x j
  rw [mm_ux]
  unfold crot
  by_cases q : x = 54 ∧ j = k
  · rw [if_pos q, if_pos ⟨q.1, by omega, by omega⟩, q.2]
  · rw [if_neg q]
    by_cases p : x = 54 ∧ r ≤ j ∧ j < k
    · rw [if_pos p, if_pos ⟨p.1, p.2.1, by omega⟩]
    · rw [if_neg p, if_neg (fun z => by
        by_cases y : j = k
        · exact q ⟨z.1, y⟩
        · exact p ⟨z.1, z.2.1, by omega⟩)]
theorem c_123_9 (hq : mm_P w) (hr : cr_r μ) (r0 : 0 ≤ r) {x1 z : Int} (hz : 0 ≤ z ∧ z < 8) : ∀ (k : Nat) (i : Int), r ≤ i → i + k = 7 → (am_E d 123 Q (9, [some (.ref 53), some (.int (Int32.ofInt (x1))), some (.ref (mm_rl z)), some (.int (Int32.ofInt (i)))], [], mm_hp w (crot μ r i) X n) ↔ Q (.inl none) (mm_hp w (mm_u (mm_u (crot μ r 7) 54 7 z) 53 1 (μ 53 1 - 1)) X n)) := by
  have c53 : ∀ i : Int, crot μ r i 53 1 = μ 53 1 := fun i => by unfold crot; rw [if_neg (by omega)]
  intro k
  induction k with
  | zero =>
    intro i i0 hi
    have : i = 7 := by omega
    subst this
    rw [b_123_9 hq, if_pos (by decide)]
    simp (disch := omega) only [and_self, true_and, mm_ltx, mm_lex, mm_eqx, mm_wv, mm_gd, ↓reduceIte, Int.reduceAdd, Int.reduceSub, Int.reduceNeg, Int.reduceLE, Int.reduceLT, Int.reduceMul, Int.reduceEq, mm_uu (show (53 : Nat) ≠ 54 by decide), c53]
  | succ k ih =>
    intro i i0 hi
    have v1 : crot μ r i 54 (i + 1) = μ 54 (i + 1) := by unfold crot; rw [if_neg (by omega)]
    rw [b_123_9 hq, if_neg (by rw [mm_lex, mm_wv (by omega) (by omega), mm_wv (by omega) (by omega)]; omega)]
    simp (disch := omega) only [and_self, true_and, mm_ltx, mm_lex, mm_eqx, mm_wv, mm_gd, ↓reduceIte, Int.reduceAdd, Int.reduceSub, Int.reduceNeg, Int.reduceLE, Int.reduceLT, Int.reduceMul, Int.reduceEq, v1]
    rw [crot_s i0]
    exact ih (i + 1) (by omega) (by omega)
theorem c_123 (hq : mm_P w) (hr : cr_r μ) (r0 : 0 ≤ r ∧ r < 8) : am_C (d + 1) 123 [.ref 53, .int (Int32.ofInt (r))] (mm_hp w μ X n) Q ↔ Q (.inl none) (mm_hp w (mm_u (mm_u (crot μ r 7) 54 7 (μ 54 r)) 53 1 (μ 53 1 - 1)) X n) := by
  have hz := hr.2.1 r r0.1 r0.2
  rw [en_123, b_123_0 hq]
  simp (disch := omega) only [and_self, true_and, mm_ltx, mm_lex, mm_eqx, mm_wv, mm_gd, ↓reduceIte, Int.reduceAdd, Int.reduceSub, Int.reduceNeg, Int.reduceLE, Int.reduceLT, Int.reduceMul, Int.reduceEq]
  have := c_123_9 (d := d) (Q := Q) (X := X) (n := n) (x1 := r) hq hr r0.1 hz (7 - r).toNat r (Int.le_refl _) (by omega)
  rw [crot_0] at this
  exact this
theorem c_32 (hq : mm_P w) (hr : cr_r μ) (h1 : -2147483648 ≤ r) (h2 : r ≤ 2147483647) : am_C (d + 2) 32 [.ref 32, .int (Int32.ofInt (r))] (mm_hp w μ X n) Q ↔ if ¬ (0 ≤ r ∧ r < μ 53 1) then mm_thr Q w μ X n 0 else Q (.inl (some (.int (Int32.ofInt (μ 53 1 - 1))))) (mm_hp w (mm_u (mm_u (crot (chf μ) r 7) 54 7 (μ 54 r)) 53 1 (μ 53 1 - 1)) X n) := by
  have h53 := hr.1
  have hr2 : cr_r (chf μ) := by
    refine ⟨by rw [chf_o (by decide)]; exact h53, by rw [chf_o (by decide)]; exact hr.2.1, fun v e v0 v1 e0 e1 => ?_⟩
    have hv : 55 ≤ mm_rl v ∧ mm_rl v ≤ 90 := by
      unfold mm_rl
      split; decide
      split; decide
      split; decide
      split; decide
      split; decide
      split; decide
      split <;> decide
    rw [chf_o (by omega), chf_o (by omega)]
    exact hr.2.2 v e v0 v1 e0 e1
  rw [en_32 (d := d + 1), b_32_0 hq]
  by_cases a : r < 0
  · rw [if_pos (by rw [mm_ltx, mm_wv (by omega) (by omega), mm_wv (by omega) (by omega)]; exact a), if_pos (show ¬ (0 ≤ r ∧ r < μ 53 1) by omega), b_32_15 hq]
    rfl
  · rw [if_neg (by rw [mm_ltx, mm_wv (by omega) (by omega), mm_wv (by omega) (by omega)]; exact a)]
    by_cases b : r < μ 53 1
    · rw [if_pos (by rw [mm_ltx, mm_wv (by omega) (by omega), mm_wv (by omega) (by omega)]; exact b), if_neg (show ¬ ¬ (0 ≤ r ∧ r < μ 53 1) by omega), c_86 (d := d) hq, bk_n, b_32_30 hq]
      have := c_123 (d := d) (μ := chf μ) (X := X) (n := n) (r := r) (Q := am_bk 32 35 [some (.ref 32), some (.int (Int32.ofInt (r)))] [] (am_E (d + 1) 32 Q) Q) hq hr2 (by omega)
      rw [chf_o (b := 54) (by decide), chf_o (b := 53) (by decide)] at this
      refine Iff.trans this ?_
      rw [bk_n, b_32_38 hq, mm_us]
    · rw [if_neg (by rw [mm_ltx, mm_wv (by omega) (by omega), mm_wv (by omega) (by omega)]; exact b), if_pos (show ¬ (0 ≤ r ∧ r < μ 53 1) by omega), b_32_15 hq]
      rfl
end RB
