/-! The class's inputs and their history. -/
def cn (P : Int → Bool) : Nat → Int
  | 0 => 0
  | k + 1 => cn P k + if P k = true then 1 else 0
/-- a cell of this row has an input -/
def cgot (v : Int → Int) : Int → Bool := fun j => decide (v j ≠ -2147483648)
def cgall (μ : mm_M) : Nat → Int
  | 0 => 0
  | l + 1 => cgall μ l + cn (cgot (μ (mm_inr l))) 216
def csee (μ : mm_M) (c : Int) : Nat → Int
  | 0 => -2147483648
  | k + 1 => if μ (mm_inr k) c = -2147483648 then csee μ c k else μ (mm_inr k) c
/-- row b's inputs come into row a -/
def mm_mg (μ : mm_M) (a b : Nat) (N : Int) : mm_M := fun x j => if x = a ∧ 0 ≤ j ∧ j < N ∧ μ b j ≠ -2147483648 then μ b j else μ x j
/-- rows a and b change places -/
def mm_sw (μ : mm_M) (a b : Nat) (N : Int) : mm_M := fun x j => if 0 ≤ j ∧ j < N then (if x = a then μ b j else if x = b then μ a j else μ x j) else μ x j
/-- inputs of cells with a member go -/
def mm_wp (μ : mm_M) (e m : Int) (l : Int) (N : Int) : mm_M := fun x j => if (0 ≤ j ∧ j < 216 ∧ cpart j e = m) ∧ ((97 ≤ x ∧ (x : Int) < 97 + l) ∨ ((x : Int) = 97 + l ∧ j < N)) then -2147483648 else μ x j
def cwiped (v : Int → Int) (e m : Int) : Int → Bool := fun j => decide (cpart j e = m ∧ v j ≠ -2147483648)
def cwall (μ : mm_M) (e m : Int) : Nat → Int
  | 0 => 0
  | l + 1 => cwall μ e m l + cn (cwiped (μ (mm_inr l)) e m) 216
/-- the inputs are in range -/
def cg_r (μ : mm_M) : Prop := (1 ≤ μ 95 1 ∧ μ 95 1 ≤ 3) ∧ ∀ l j, 0 ≤ l → l < 3 → 0 ≤ j → j < 216 → -2147483648 ≤ μ (mm_inr l) j ∧ μ (mm_inr l) j ≤ 2147483647
section CG
variable {d : Nat} {Q : am_Ou → am_G → Prop} {w : mm_Z} {μ : mm_M} {X : mm_X} {n : mm_N} {e m c l : Int}
theorem cn_b {P : Int → Bool} : ∀ (k : Nat), 0 ≤ cn P k ∧ cn P k ≤ k := by
  intro k
  induction k with
  | zero => exact ⟨Int.le_refl 0, Int.le_refl 0⟩
  | succ k ih =>
    unfold cn
    split <;> omega
theorem mm_inr_e (h0 : 0 ≤ l) (h1 : l < 3) : (mm_inr l : Int) = 97 + l := by
  rcases (by omega : l = 0 ∨ l = 1 ∨ l = 2) with rfl | rfl | rfl <;> rfl
theorem c_79 (hq : mm_P w) (h1 : -2147483648 ≤ l) (h2 : l ≤ 2147483647) (hg : cg_r μ) : am_C (d + 1) 79 [.ref 95, .int (Int32.ofInt (l))] (mm_hp w μ X n) Q ↔ Q (.inl (some (.int (Int32.ofInt (if 0 ≤ l ∧ l < μ 95 1 then 1 else 0))))) (mm_hp w μ X n) := by
  have := hg.1
  simp only [en_79, b_79_0 hq]
  by_cases e1 : l < 0
  · simp (disch := omega) only [and_self, true_and, mm_ltx, mm_lex, mm_eqx, mm_wv, mm_gd, ↓reduceIte, Int.reduceAdd, Int.reduceSub, Int.reduceNeg, Int.reduceLE, Int.reduceLT, Int.reduceMul, Int.reduceEq, if_pos, if_neg]
  · by_cases e2 : l < μ 95 1
    · simp (disch := omega) only [and_self, true_and, mm_ltx, mm_lex, mm_eqx, mm_wv, mm_gd, ↓reduceIte, Int.reduceAdd, Int.reduceSub, Int.reduceNeg, Int.reduceLE, Int.reduceLT, Int.reduceMul, Int.reduceEq, if_pos, if_neg]
    · simp (disch := omega) only [and_self, true_and, mm_ltx, mm_lex, mm_eqx, mm_wv, mm_gd, ↓reduceIte, Int.reduceAdd, Int.reduceSub, Int.reduceNeg, Int.reduceLE, Int.reduceLT, Int.reduceMul, Int.reduceEq, if_pos, if_neg]
theorem c_82_2 (hq : mm_P w) (hg : cg_r μ) (h0 : 0 ≤ c) (h1 : c < 216) {l0 : Int} : ∀ (k : Nat), k ≤ 3 → (am_E d 82 Q (2, [some (.ref 95), some (.int (Int32.ofInt (l0))), some (.int (Int32.ofInt (c))), some (.int (Int32.ofInt ((k : Int) - 1)))], [], mm_hp w μ X n) ↔ Q (.inl (some (.int (Int32.ofInt (csee μ c k))))) (mm_hp w μ X n)) := by
  intro k
  induction k with
  | zero =>
    intro _
    rw [b_82_2 hq]
    simp (disch := omega) only [and_self, true_and, mm_ltx, mm_lex, mm_eqx, mm_wv, mm_gd, ↓reduceIte, Int.reduceAdd, Int.reduceSub, Int.reduceNeg, Int.reduceLE, Int.reduceLT, Int.reduceMul, Int.reduceEq, if_pos, if_neg]
    rfl
  | succ k ih =>
    intro hk
    have hr := hg.2 (k : Int) c (by omega) (by omega) h0 h1
    rw [b_82_2 hq, show ((k + 1 : Nat) : Int) - 1 = (k : Int) by omega]
    unfold csee
    by_cases a : μ (mm_inr k) c = -2147483648
    · simp (disch := omega) only [and_self, true_and, mm_ltx, mm_lex, mm_eqx, mm_wv, mm_gd, ↓reduceIte, Int.reduceAdd, Int.reduceSub, Int.reduceNeg, Int.reduceLE, Int.reduceLT, Int.reduceMul, Int.reduceEq, if_pos, if_neg]
      rw [show (k : Int) + (-1) = (k : Int) - 1 by omega]
      exact ih (by omega)
    · simp (disch := omega) only [and_self, true_and, mm_ltx, mm_lex, mm_eqx, mm_wv, mm_gd, ↓reduceIte, Int.reduceAdd, Int.reduceSub, Int.reduceNeg, Int.reduceLE, Int.reduceLT, Int.reduceMul, Int.reduceEq, if_pos, if_neg]
theorem c_82 (hq : mm_P w) (hg : cg_r μ) (h0 : 0 ≤ c) (h1 : c < 216) (l0 : -1 ≤ l) (l1 : l < 3) : am_C (d + 1) 82 [.ref 95, .int (Int32.ofInt (l)), .int (Int32.ofInt (c))] (mm_hp w μ X n) Q ↔ Q (.inl (some (.int (Int32.ofInt (csee μ c (l + 1).toNat))))) (mm_hp w μ X n) := by
  simp only [en_82, b_82_0 hq]
  have := c_82_2 (d := d) (Q := Q) (X := X) (n := n) (l0 := l) hq hg h0 h1 (l + 1).toNat (by omega)
  rw [show (((l + 1).toNat : Nat) : Int) - 1 = l by omega] at this
  exact this
theorem c_80 (hq : mm_P w) (hg : cg_r μ) (hl : μ 95 1 < 3) : am_C (d + 2) 80 [.ref 95] (mm_hp w μ X n) Q ↔ Q (.inl (some (.int (Int32.ofInt (μ 95 1))))) (mm_hp w (mm_u (mm_fi μ (mm_inr (μ 95 1)) 216 (-2147483648)) 95 1 (μ 95 1 + 1)) X n) := by
  have h := hg.1
  have hb := mm_inr_b (z := μ 95 1)
  simp only [en_80 (d := d + 1), b_80_0 hq]
  simp (disch := omega) only [and_self, true_and, mm_ltx, mm_lex, mm_eqx, mm_wv, mm_gd, ↓reduceIte, Int.reduceAdd, Int.reduceSub, Int.reduceNeg, Int.reduceLE, Int.reduceLT, Int.reduceMul, Int.reduceEq, if_pos, if_neg]
  rw [c_311 (d := d) (N := 216) (by omega) (hq _ (by omega) (by omega)) mm_inr_sh (by decide), bk_n, b_80_14 hq, mm_us]
  have e : mm_fi μ (mm_inr (μ 95 1)) ((216 : Nat) : Int) (-2147483648) 95 1 = μ 95 1 := if_neg (by omega)
  rw [e, Int.add_sub_cancel]
  rfl
theorem c_78_14 (hq : mm_P w) (hg : cg_r μ) (h0 : 0 ≤ l) (h1 : l < 3) : ∀ (k i : Nat) (s : Int), i + k = 216 → 0 ≤ s → s ≤ 1000 → (am_E d 78 Q (14, [some (.ref 95), some (.int (Int32.ofInt (s + cn (cgot (μ (mm_inr l))) i))), some (.int (Int32.ofInt (l))), some (.int (Int32.ofInt ((i : Int))))], [], mm_hp w μ X n) ↔ am_E d 78 Q (4, [some (.ref 95), some (.int (Int32.ofInt (s + cn (cgot (μ (mm_inr l))) 216))), some (.int (Int32.ofInt (l + 1))), some (.int (Int32.ofInt (216)))], [], mm_hp w μ X n)) := by
  intro k
  induction k with
  | zero =>
    intro i s hi _ _
    have : i = 216 := by omega
    subst this
    rw [b_78_14 hq]
    simp (disch := omega) only [and_self, true_and, mm_ltx, mm_lex, mm_eqx, mm_wv, mm_gd, ↓reduceIte, Int.reduceAdd, Int.reduceSub, Int.reduceNeg, Int.reduceLE, Int.reduceLT, Int.reduceMul, Int.reduceEq, if_pos, if_neg]
    rfl
  | succ k ih =>
    intro i s hi hs0 hs1
    have hr := hg.2 l (i : Int) h0 h1 (by omega) (by omega)
    rw [b_78_14 hq]
    have hi2 := ih (i + 1) s (by omega) hs0 hs1
    have hc : cn (cgot (μ (mm_inr l))) (i + 1) = cn (cgot (μ (mm_inr l))) i + if μ (mm_inr l) i ≠ -2147483648 then 1 else 0 := by
      show cn _ i + (if decide _ = true then 1 else 0) = _
      simp only [decide_eq_true_iff]
    rw [hc] at hi2
    by_cases a : μ (mm_inr l) i = -2147483648
    · rw [if_neg (by omega), Int.add_zero] at hi2
      simp (disch := omega) only [and_self, true_and, mm_ltx, mm_lex, mm_eqx, mm_wv, mm_gd, ↓reduceIte, Int.reduceAdd, Int.reduceSub, Int.reduceNeg, Int.reduceLE, Int.reduceLT, Int.reduceMul, Int.reduceEq, if_pos, if_neg, b_78_40 hq, Int.add_zero]
      rw [show (i : Int) + 1 = ((i + 1 : Nat) : Int) by omega]
      exact hi2
    · rw [if_pos a, ← Int.add_assoc] at hi2
      simp (disch := omega) only [and_self, true_and, mm_ltx, mm_lex, mm_eqx, mm_wv, mm_gd, ↓reduceIte, Int.reduceAdd, Int.reduceSub, Int.reduceNeg, Int.reduceLE, Int.reduceLT, Int.reduceMul, Int.reduceEq, if_pos, if_neg, b_78_40 hq]
      rw [show (i : Int) + 1 = ((i + 1 : Nat) : Int) by omega]
      exact hi2
theorem cgall_b : ∀ (k : Nat), 0 ≤ cgall μ k ∧ cgall μ k ≤ 216 * k := by
  intro k
  induction k with
  | zero => exact ⟨Int.le_refl 0, by unfold cgall; omega⟩
  | succ k ih =>
    have := cn_b (P := cgot (μ (mm_inr k))) 216
    unfold cgall
    omega
theorem c_78_4 (hq : mm_P w) (hg : cg_r μ) : ∀ (k i : Nat) (e3 : Option Value), am_n2 e3 = true → (i : Int) + k = μ 95 1 → (am_E d 78 Q (4, [some (.ref 95), some (.int (Int32.ofInt (cgall μ i))), some (.int (Int32.ofInt ((i : Int)))), e3], [], mm_hp w μ X n) ↔ Q (.inl (some (.int (Int32.ofInt (cgall μ (i + k)))))) (mm_hp w μ X n)) := by
  have hl := hg.1
  intro k
  induction k with
  | zero =>
    intro i e3 h3 hi
    rw [b_78_4 hq h3]
    simp (disch := omega) only [and_self, true_and, mm_ltx, mm_lex, mm_eqx, mm_wv, mm_gd, ↓reduceIte, Int.reduceAdd, Int.reduceSub, Int.reduceNeg, Int.reduceLE, Int.reduceLT, Int.reduceMul, Int.reduceEq, if_pos, if_neg]
    rfl
  | succ k ih =>
    intro i e3 h3 hi
    have hb := cgall_b (μ := μ) i
    rw [b_78_4 hq h3]
    simp (disch := omega) only [and_self, true_and, mm_ltx, mm_lex, mm_eqx, mm_wv, mm_gd, ↓reduceIte, Int.reduceAdd, Int.reduceSub, Int.reduceNeg, Int.reduceLE, Int.reduceLT, Int.reduceMul, Int.reduceEq, if_pos, if_neg]
    have h := c_78_14 (d := d) (Q := Q) (X := X) (n := n) hq hg (show 0 ≤ (i : Int) by omega) (by omega) 216 0 (cgall μ i) (by omega) hb.1 (by omega)
    rw [show cn (cgot (μ (mm_inr (i : Int)))) 0 = 0 from rfl, Int.add_zero] at h
    refine h.trans ?_
    have := ih (i + 1) (some (.int (Int32.ofInt (216)))) rfl (by omega)
    rw [show i + 1 + k = i + (k + 1) by omega] at this
    exact this
theorem c_78 (hq : mm_P w) (hg : cg_r μ) : am_C (d + 1) 78 [.ref 95] (mm_hp w μ X n) Q ↔ Q (.inl (some (.int (Int32.ofInt (cgall μ (μ 95 1).toNat))))) (mm_hp w μ X n) := by
  have := hg.1
  simp only [en_78, b_78_0 hq]
  have := c_78_4 (d := d) (Q := Q) (X := X) (n := n) hq hg (μ 95 1).toNat 0 none rfl (by omega)
  rw [Nat.zero_add] at this
  exact this
theorem mm_mg0 {a b : Nat} : mm_mg μ a b 0 = μ := by
  funext x j
  exact if_neg (by omega)
theorem c_81_14 (hq : mm_P w) (hg : cg_r μ) {b : Int} (hb : b = 0 ∨ b = 1) (h0 : 1 ≤ l) (h1 : l < 3) : ∀ (k i : Nat) (e4 : Option Value), am_n2 e4 = true → i + k = 216 → (am_E d 81 Q (14, [some (.ref 95), some (.int (Int32.ofInt (b))), some (.int (Int32.ofInt (cn (cgot (μ (mm_inr l))) i))), some (.int (Int32.ofInt ((i : Int)))), e4], [], mm_hp w (mm_u (if b = 0 then μ else mm_mg μ (mm_inr (l - 1)) (mm_inr l) i) 95 1 l) X n) ↔ Q (.inl (some (.int (Int32.ofInt (cn (cgot (μ (mm_inr l))) 216))))) (mm_hp w (mm_u (if b = 0 then μ else mm_mg μ (mm_inr (l - 1)) (mm_inr l) 216) 95 1 l) X n)) := by
  have n1 := mm_inr_e (l := l) (by omega) h1
  have n2 := mm_inr_e (l := l - 1) (by omega) (by omega)
  intro k
  induction k with
  | zero =>
    intro i e4 h4 hi
    have : i = 216 := by omega
    subst this
    rw [b_81_14 hq h4]
    simp (disch := omega) only [and_self, true_and, mm_ltx, mm_lex, mm_eqx, mm_wv, mm_gd, ↓reduceIte, Int.reduceAdd, Int.reduceSub, Int.reduceNeg, Int.reduceLE, Int.reduceLT, Int.reduceMul, Int.reduceEq, if_pos, if_neg]
    rfl
  | succ k ih =>
    intro i e4 h4 hi
    have hr := hg.2 l (i : Int) (by omega) h1 (by omega) (by omega)
    have hcb := cn_b (P := cgot (μ (mm_inr l))) i
    have hc : cn (cgot (μ (mm_inr l))) (i + 1) = cn (cgot (μ (mm_inr l))) i + if μ (mm_inr l) i ≠ -2147483648 then 1 else 0 := by
      show cn _ i + (if decide _ = true then 1 else 0) = _
      simp only [decide_eq_true_iff]
    have hrow : mm_u (if b = 0 then μ else mm_mg μ (mm_inr (l - 1)) (mm_inr l) i) 95 1 l (mm_inr l) = μ (mm_inr l) := by
      rw [mm_uu (by omega)]
      by_cases hb0 : b = 0
      · rw [if_pos hb0]
      · rw [if_neg hb0]
        funext j
        exact if_neg (by omega)
    have hi2 := ih (i + 1) (some (.int (Int32.ofInt (μ (mm_inr l) i)))) rfl (by omega)
    rw [hc] at hi2
    rw [b_81_14 hq h4]
    rw [mm_us]
    simp (disch := omega) only [mm_wv, if_neg, mm_lex, mm_eqx, hrow]
    by_cases a : μ (mm_inr l) i = -2147483648
    · have hm : mm_mg μ (mm_inr (l - 1)) (mm_inr l) (i : Int) = mm_mg μ (mm_inr (l - 1)) (mm_inr l) ((i + 1 : Nat) : Int) := by
        funext x j
        unfold mm_mg
        by_cases q : x = mm_inr (l - 1) ∧ 0 ≤ j ∧ j < (i : Int) ∧ μ (mm_inr l) j ≠ -2147483648
        · rw [if_pos q, if_pos ⟨q.1, q.2.1, by omega, q.2.2.2⟩]
        · rw [if_neg q, if_neg]
          rintro ⟨q1, q2, q3, q4⟩
          refine q ⟨q1, q2, ?_, q4⟩
          have : j ≠ i := fun h => q4 (by rw [h]; exact a)
          omega
      rw [if_neg (by omega), Int.add_zero] at hi2
      rw [← hm] at hi2
      simp (disch := omega) only [and_self, true_and, mm_ltx, mm_lex, mm_eqx, mm_wv, mm_gd, ↓reduceIte, Int.reduceAdd, Int.reduceSub, Int.reduceNeg, Int.reduceLE, Int.reduceLT, Int.reduceMul, Int.reduceEq, if_pos, if_neg, b_81_63 hq]
      rw [show (i : Int) + 1 = ((i + 1 : Nat) : Int) by omega]
      exact hi2
    · rw [if_pos a] at hi2
      rcases hb with rfl | rfl
      · simp (disch := omega) only [and_self, true_and, mm_ltx, mm_lex, mm_eqx, mm_wv, mm_gd, ↓reduceIte, Int.reduceAdd, Int.reduceSub, Int.reduceNeg, Int.reduceLE, Int.reduceLT, Int.reduceMul, Int.reduceEq, if_pos, if_neg, b_81_63 hq]
        rw [show (i : Int) + 1 = ((i + 1 : Nat) : Int) by omega]
        exact hi2
      · have hm : mm_u (mm_u (mm_mg μ (mm_inr (l - 1)) (mm_inr l) (i : Int)) 95 1 l) (mm_inr (l - 1)) i (μ (mm_inr l) i) = mm_u (mm_mg μ (mm_inr (l - 1)) (mm_inr l) ((i + 1 : Nat) : Int)) 95 1 l := by
          funext x j
          unfold mm_u mm_mg
          by_cases q : x = mm_inr (l - 1) ∧ j = i
          · obtain ⟨rfl, rfl⟩ := q
            rw [if_pos ⟨rfl, rfl⟩, if_neg (by omega), if_pos ⟨rfl, by omega, by omega, a⟩]
          · rw [if_neg q]
            by_cases q2 : x = 95 ∧ j = 1
            · rw [if_pos q2, if_pos q2]
            · rw [if_neg q2, if_neg q2]
              by_cases q3 : x = mm_inr (l - 1) ∧ 0 ≤ j ∧ j < (i : Int) ∧ μ (mm_inr l) j ≠ -2147483648
              · rw [if_pos q3, if_pos ⟨q3.1, q3.2.1, by omega, q3.2.2.2⟩]
              · rw [if_neg q3, if_neg]
                rintro ⟨g1, g2, g3, g4⟩
                refine q3 ⟨g1, g2, ?_, g4⟩
                have : j ≠ i := fun h => q ⟨g1, h⟩
                omega
        simp (disch := omega) only [and_self, true_and, mm_ltx, mm_lex, mm_eqx, mm_wv, mm_gd, ↓reduceIte, Int.reduceAdd, Int.reduceSub, Int.reduceNeg, Int.reduceLE, Int.reduceLT, Int.reduceMul, Int.reduceEq, if_pos, if_neg, b_81_63 hq]
        simp (disch := omega) only [and_self, true_and, mm_ltx, mm_lex, mm_eqx, mm_wv, mm_gd, ↓reduceIte, Int.reduceAdd, Int.reduceSub, Int.reduceNeg, Int.reduceLE, Int.reduceLT, Int.reduceMul, Int.reduceEq, if_pos, if_neg] at hi2
        rw [if_neg (by decide)] at hrow
        rw [hrow, hm, show (i : Int) + 1 = ((i + 1 : Nat) : Int) by omega]
        exact hi2
theorem c_81 (hq : mm_P w) (hg : cg_r μ) {b : Int} (hb : b = 0 ∨ b = 1) (hl : 1 < μ 95 1) : am_C (d + 1) 81 [.ref 95, .int (Int32.ofInt (b))] (mm_hp w μ X n) Q ↔ Q (.inl (some (.int (Int32.ofInt (cn (cgot (μ (mm_inr (μ 95 1 - 1)))) 216))))) (mm_hp w (mm_u (if b = 0 then μ else mm_mg μ (mm_inr (μ 95 1 - 1 - 1)) (mm_inr (μ 95 1 - 1)) 216) 95 1 (μ 95 1 - 1)) X n) := by
  have := hg.1
  simp only [en_81, b_81_0 hq]
  have h := c_81_14 (d := d) (Q := Q) (X := X) (n := n) hq hg hb (l := μ 95 1 - 1) (by omega) (by omega) 216 0 none rfl (by omega)
  rw [show mm_mg μ (mm_inr (μ 95 1 - 1 - 1)) (mm_inr (μ 95 1 - 1)) ((0 : Nat) : Int) = μ from mm_mg0] at h
  rw [show (if b = 0 then μ else μ) = μ by split <;> rfl] at h
  exact h
theorem mm_sw0 {a b : Nat} : mm_sw μ a b 0 = μ := by
  funext x j
  exact if_neg (by omega)
theorem mm_sw_s {a b : Nat} (hab : a ≠ b) {i : Int} (h0 : 0 ≤ i) : mm_u (mm_u (mm_sw μ a b i) a i (mm_sw μ a b i b i)) b i (mm_sw μ a b i a i) = mm_sw μ a b (i + 1) := by
  have e1 : ∀ x, mm_sw μ a b i x i = μ x i := fun x => if_neg (by omega)
  rw [e1, e1]
  funext x j
  unfold mm_u mm_sw
  by_cases q : j = i
  · subst q
    by_cases qb : x = b
    · rw [if_pos ⟨qb, rfl⟩, if_pos (by omega), if_neg (by omega), if_pos qb]
    · rw [if_neg (fun h => qb h.1)]
      by_cases qa : x = a
      · rw [if_pos ⟨qa, rfl⟩, if_pos (by omega), if_pos qa]
      · rw [if_neg (fun h => qa h.1), if_neg (by omega), if_pos (by omega), if_neg qa, if_neg qb]
  · rw [if_neg (fun h => q h.2), if_neg (fun h => q h.2)]
    by_cases q2 : 0 ≤ j ∧ j < i
    · rw [if_pos q2, if_pos (show 0 ≤ j ∧ j < i + 1 by omega)]
    · rw [if_neg q2, if_neg (show ¬ (0 ≤ j ∧ j < i + 1) by omega)]
theorem c_85_25 (hq : mm_P w) {z2 z3 x1 : Int} : ∀ (k i : Nat) (e5 : Option Value), am_n2 e5 = true → i + k = 216 → (am_E d 85 Q (25, [some (.ref 107), some (.int (Int32.ofInt (x1))), some (.ref (mm_inr z2)), some (.ref (mm_row z3)), some (.int (Int32.ofInt ((i : Int)))), e5], [], mm_hp w (mm_sw μ (mm_inr z2) (mm_row z3) i) X n) ↔ Q (.inl none) (mm_hp w (mm_sw μ (mm_inr z2) (mm_row z3) 216) X n)) := by
  have b2 := mm_inr_b (z := z2)
  have b3 := mm_row_b (z := z3)
  intro k
  induction k with
  | zero =>
    intro i e5 h5 hi
    have : i = 216 := by omega
    subst this
    rw [b_85_25 hq h5]
    simp (disch := omega) only [and_self, true_and, mm_ltx, mm_lex, mm_eqx, mm_wv, mm_gd, ↓reduceIte, Int.reduceAdd, Int.reduceSub, Int.reduceNeg, Int.reduceLE, Int.reduceLT, Int.reduceMul, Int.reduceEq, if_pos, if_neg]
    rfl
  | succ k ih =>
    intro i e5 h5 hi
    rw [b_85_25 hq h5]
    simp (disch := omega) only [and_self, true_and, mm_ltx, mm_lex, mm_eqx, mm_wv, mm_gd, ↓reduceIte, Int.reduceAdd, Int.reduceSub, Int.reduceNeg, Int.reduceLE, Int.reduceLT, Int.reduceMul, Int.reduceEq]
    rw [if_neg (by omega), mm_sw_s (by omega) (by omega), show (i : Int) + 1 = ((i + 1 : Nat) : Int) by omega]
    exact ih (i + 1) _ rfl (by omega)
theorem c_85 (hq : mm_P w) {s : Int} (h0 : 0 ≤ s) (h1 : s < 12) (hl : 0 ≤ μ 121 s ∧ μ 121 s < 3) : am_C (d + 1) 85 [.ref 107, .int (Int32.ofInt (s))] (mm_hp w μ X n) Q ↔ Q (.inl none) (mm_hp w (mm_sw μ (mm_inr (μ 121 s)) (mm_row s) 216) X n) := by
  simp only [en_85, b_85_0 hq]
  simp (disch := omega) only [and_self, true_and, mm_ltx, mm_lex, mm_eqx, mm_wv, mm_gd, ↓reduceIte, Int.reduceAdd, Int.reduceSub, Int.reduceNeg, Int.reduceLE, Int.reduceLT, Int.reduceMul, Int.reduceEq, if_pos, if_neg]
  have := c_85_25 (d := d) (Q := Q) (X := X) (n := n) (μ := μ) hq (z2 := μ 121 s) (z3 := s) (x1 := s) 216 0 none rfl (by omega)
  rw [show mm_sw μ (mm_inr (μ 121 s)) (mm_row s) ((0 : Nat) : Int) = μ from mm_sw0] at this
  exact this
theorem c_86 (hq : mm_P w) : am_C (d + 1) 86 [.ref 107] (mm_hp w μ X n) Q ↔ Q (.inl none) (mm_hp w (mm_u (mm_u μ 107 4 0) 107 5 0) X n) := by
  simp only [en_86, b_86_0 hq]
/-- the history's numbers are in range -/
def ch_r (μ : mm_M) : Prop := (0 ≤ μ 107 3 ∧ μ 107 3 < 12) ∧ 0 ≤ μ 107 4 ∧ 0 ≤ μ 107 5 ∧ μ 107 4 + μ 107 5 ≤ 12 ∧ ∀ s, 0 ≤ s → s < 12 → 0 ≤ μ 121 s ∧ μ 121 s < 3
def ch_keep (μ : mm_M) (l : Int) (f dn : Int) : mm_M := mm_u (mm_u (mm_u (mm_cp (mm_u (mm_u μ 107 3 f) 107 4 dn) (mm_inr l) (mm_row ((f + dn) % 12)) 216) 121 ((f + dn) % 12) l) 107 4 (dn + 1)) 107 5 0
theorem mm_remx {a b : Int} : a - a / b * b = a % b := by
  have := Int.mul_ediv_add_emod a b
  rw [Int.mul_comm] at this
  omega
theorem c_87 (hq : mm_P w) (h0 : 0 ≤ l) (h1 : l < 3) (hr : ch_r μ) : am_C (d + 1) 87 [.ref 107, .int (Int32.ofInt (l))] (mm_hp w μ X n) Q ↔ Q (.inl none) (mm_hp w (if μ 107 4 = 12 then ch_keep μ l ((μ 107 3 + 1) % 12) 11 else ch_keep μ l (μ 107 3) (μ 107 4)) X n) := by
  obtain ⟨r1, r2, r3, r4, r5⟩ := hr
  have key : ∀ (f dn : Int), 0 ≤ f → f < 12 → 0 ≤ dn → dn < 12 → (am_E d 87 Q (32, [some (.ref 107), some (.int (Int32.ofInt (l))), none], [], mm_hp w (mm_u (mm_u μ 107 3 f) 107 4 dn) X n) ↔ Q (.inl none) (mm_hp w (ch_keep μ l f dn) X n)) := by
    intro f dn f0 f1 d0 d1
    rw [b_87_32 hq]
    have e1 : mm_u (mm_u μ 107 3 f) 107 4 dn 107 3 = f := by rw [mm_un (by decide), mm_us]
    have e2 : mm_u (mm_u μ 107 3 f) 107 4 dn 107 4 = dn := mm_us
    rw [e1, e2, mm_dvp (by omega) (by omega) (by decide) (by decide), mm_remx]
    have b := mm_row_b (z := (f + dn) % 12)
    simp (disch := omega) only [and_self, true_and, mm_ltx, mm_lex, mm_eqx, mm_wv, mm_gd, ↓reduceIte, Int.reduceAdd, Int.reduceSub, Int.reduceNeg, Int.reduceLE, Int.reduceLT, Int.reduceMul, Int.reduceEq, mm_uu]
    have e3 : mm_cp (mm_u (mm_u μ 107 3 f) 107 4 dn) (mm_inr l) (mm_row ((f + dn) % 12)) 216 107 4 = dn := by
      unfold mm_cp
      rw [if_neg (by omega)]
      exact e2
    rw [e3]
    rfl
  simp only [en_87, b_87_0 hq]
  by_cases a : μ 107 4 = 12
  · rw [a]
    have e1 : mm_u μ 107 3 ((μ 107 3 + 1) % 12) 107 4 = 12 := by rw [mm_un (by decide)]; exact a
    rw [mm_dvp (by omega) (by omega) (by decide) (by decide), mm_remx]
    rw [if_pos rfl, e1, if_pos rfl]
    exact key _ 11 (by omega) (by omega) (by decide) (by decide)
  · have := key (μ 107 3) (μ 107 4) (by omega) (by omega) (by omega) (by omega)
    rw [show mm_u (mm_u μ 107 3 (μ 107 3)) 107 4 (μ 107 4) = μ from by
      funext x j
      unfold mm_u
      by_cases q : x = 107 ∧ j = 4
      · rw [if_pos q, q.1, q.2]
      · rw [if_neg q]
        by_cases q : x = 107 ∧ j = 3
        · rw [if_pos q, q.1, q.2]
        · rw [if_neg q]] at this
    simp (disch := omega) only [and_self, true_and, mm_ltx, mm_lex, mm_eqx, mm_wv, mm_gd, ↓reduceIte, Int.reduceAdd, Int.reduceSub, Int.reduceNeg, Int.reduceLE, Int.reduceLT, Int.reduceMul, Int.reduceEq, if_pos, if_neg]
    exact this
theorem c_88 (hq : mm_P w) (hr : ch_r μ) (h : 0 < μ 107 4) : am_C (d + 2) 88 [.ref 107] (mm_hp w μ X n) Q ↔ Q (.inl none) (mm_hp w (mm_sw (mm_u (mm_u μ 107 4 (μ 107 4 - 1)) 107 5 (μ 107 5 + 1)) (mm_inr (μ 121 ((μ 107 3 + (μ 107 4 - 1)) % 12))) (mm_row ((μ 107 3 + (μ 107 4 - 1)) % 12)) 216) X n) := by
  obtain ⟨r1, r2, r3, r4, r5⟩ := hr
  have e1 : ∀ v v', mm_u (mm_u μ 107 4 v) 107 5 v' 107 3 = μ 107 3 := fun v v' => by rw [mm_un (by decide), mm_un (by decide)]
  have e2 : ∀ v v', mm_u (mm_u μ 107 4 v) 107 5 v' 107 4 = v := fun v v' => by rw [mm_un (by decide), mm_us]
  have e3 : ∀ v, mm_u μ 107 4 v 107 5 = μ 107 5 := fun v => mm_un (by decide)
  have e4 : ∀ v v', mm_u (mm_u μ 107 4 v) 107 5 v' 121 = μ 121 := fun v v' => by rw [mm_uu (by decide), mm_uu (by decide)]
  simp only [en_88 (d := d + 1), b_88_0 hq, e1, e2, e3]
  rw [mm_dvp (by omega) (by omega) (by decide) (by decide), mm_remx]
  have h5 := r5 ((μ 107 3 + (μ 107 4 - 1)) % 12) (by omega) (by omega)
  rw [c_85 (d := d) hq (by omega) (by omega) (by rw [e4]; exact h5), bk_n, b_88_36 hq, e4]
theorem c_89 (hq : mm_P w) (hr : ch_r μ) (h : 0 < μ 107 5) : am_C (d + 2) 89 [.ref 107] (mm_hp w μ X n) Q ↔ Q (.inl none) (mm_hp w (mm_u (mm_u (mm_sw μ (mm_inr (μ 121 ((μ 107 3 + μ 107 4) % 12))) (mm_row ((μ 107 3 + μ 107 4) % 12)) 216) 107 4 (μ 107 4 + 1)) 107 5 (μ 107 5 - 1)) X n) := by
  obtain ⟨r1, r2, r3, r4, r5⟩ := hr
  have h5 := r5 ((μ 107 3 + μ 107 4) % 12) (by omega) (by omega)
  have b1 := mm_inr_b (z := μ 121 ((μ 107 3 + μ 107 4) % 12))
  have b2 := mm_row_b (z := (μ 107 3 + μ 107 4) % 12)
  simp only [en_89 (d := d + 1), b_89_0 hq]
  rw [mm_dvp (by omega) (by omega) (by decide) (by decide), mm_remx, c_85 (d := d) hq (by omega) (by omega) h5, bk_n, b_89_16 hq]
  have e1 : ∀ k, mm_sw μ (mm_inr (μ 121 ((μ 107 3 + μ 107 4) % 12))) (mm_row ((μ 107 3 + μ 107 4) % 12)) 216 107 k = μ 107 k := by
    intro k
    unfold mm_sw
    split
    · rw [if_neg (by omega), if_neg (by omega)]
    · rfl
  rw [e1, mm_un (show (5 : Int) ≠ 4 by decide), e1]
theorem c_83_17 (hq : mm_P w) (hg : cg_r μ) (he : 0 ≤ e ∧ e < 3) (hm : 0 ≤ m ∧ m < 6) (h0 : 0 ≤ l) (h1 : l < 3) : ∀ (k i : Nat) (s : Int) (e6 : Option Value), am_n2 e6 = true → i + k = 216 → 0 ≤ s → s ≤ 1000 → ∃ e6' : Option Value, am_n2 e6' = true ∧ (am_E (d + 1) 83 Q (17, [some (.ref 95), some (.int (Int32.ofInt (e))), some (.int (Int32.ofInt (m))), some (.int (Int32.ofInt (s + cn (cwiped (μ (mm_inr l)) e m) i))), some (.int (Int32.ofInt (l))), some (.int (Int32.ofInt ((i : Int)))), e6], [], mm_hp w (mm_wp μ e m l i) X n) ↔ am_E (d + 1) 83 Q (5, [some (.ref 95), some (.int (Int32.ofInt (e))), some (.int (Int32.ofInt (m))), some (.int (Int32.ofInt (s + cn (cwiped (μ (mm_inr l)) e m) 216))), some (.int (Int32.ofInt (l + 1))), some (.int (Int32.ofInt (216))), e6'], [], mm_hp w (mm_wp μ e m l 216) X n)) := by
  have n1 := mm_inr_e (l := l) h0 h1
  intro k
  induction k with
  | zero =>
    intro i s e6 h6 hi _ _
    have : i = 216 := by omega
    subst this
    refine ⟨e6, h6, ?_⟩
    rw [b_83_17 hq h6]
    simp (disch := omega) only [and_self, true_and, mm_ltx, mm_lex, mm_eqx, mm_wv, mm_gd, ↓reduceIte, Int.reduceAdd, Int.reduceSub, Int.reduceNeg, Int.reduceLE, Int.reduceLT, Int.reduceMul, Int.reduceEq, if_pos, if_neg]
    rfl
  | succ k ih =>
    intro i s e6 h6 hi hs0 hs1
    have hr := hg.2 l (i : Int) h0 h1 (by omega) (by omega)
    have hcb := cn_b (P := cwiped (μ (mm_inr l)) e m) i
    have hp := cpart_b (e := e) (c := i) (by omega) (by omega)
    have hc : cn (cwiped (μ (mm_inr l)) e m) (i + 1) = cn (cwiped (μ (mm_inr l)) e m) i + if cpart i e = m ∧ μ (mm_inr l) i ≠ -2147483648 then 1 else 0 := by
      show cn _ i + (if decide _ = true then 1 else 0) = _
      simp only [decide_eq_true_iff]
    have hrow : mm_wp μ e m l i (mm_inr l) i = μ (mm_inr l) i := if_neg (by omega)
    -- the memory behind one cell
    have hm1 : (cpart i e = m → μ (mm_inr l) i = -2147483648) → mm_wp μ e m l i = mm_wp μ e m l ((i + 1 : Nat) : Int) := by
      intro ha
      funext x j
      unfold mm_wp
      by_cases q : (0 ≤ j ∧ j < 216 ∧ cpart j e = m) ∧ ((97 ≤ x ∧ (x : Int) < 97 + l) ∨ ((x : Int) = 97 + l ∧ j < i))
      · rw [if_pos q, if_pos ⟨q.1, by omega⟩]
      · rw [if_neg q]
        by_cases q2 : (0 ≤ j ∧ j < 216 ∧ cpart j e = m) ∧ ((97 ≤ x ∧ (x : Int) < 97 + l) ∨ ((x : Int) = 97 + l ∧ j < ((i + 1 : Nat) : Int)))
        · rw [if_pos q2]
          have hj : j = i := by
            rcases q2.2 with q3 | q3
            · exact absurd ⟨q2.1, Or.inl q3⟩ q
            · have : ¬ j < i := fun h => q ⟨q2.1, Or.inr ⟨q3.1, h⟩⟩
              omega
          have hx : x = mm_inr l := by
            rcases q2.2 with q3 | q3
            · exact absurd ⟨q2.1, Or.inl q3⟩ q
            · omega
          rw [hx, hj]
          exact ha (by rw [← hj]; exact q2.1.2.2)
        · rw [if_neg q2]
    have hm2 : cpart i e = m → mm_u (mm_wp μ e m l i) (mm_inr l) i (-2147483648) = mm_wp μ e m l ((i + 1 : Nat) : Int) := by
      intro ha
      funext x j
      unfold mm_u mm_wp
      by_cases q0 : x = mm_inr l ∧ j = i
      · rw [if_pos q0, if_pos]
        refine ⟨⟨by omega, by omega, by rw [q0.2]; exact ha⟩, Or.inr ⟨by rw [q0.1]; exact n1, by omega⟩⟩
      · rw [if_neg q0]
        by_cases q : (0 ≤ j ∧ j < 216 ∧ cpart j e = m) ∧ ((97 ≤ x ∧ (x : Int) < 97 + l) ∨ ((x : Int) = 97 + l ∧ j < i))
        · rw [if_pos q, if_pos ⟨q.1, by omega⟩]
        · rw [if_neg q, if_neg]
          rintro ⟨g1, g2⟩
          refine q ⟨g1, ?_⟩
          rcases g2 with g2 | g2
          · exact Or.inl g2
          · refine Or.inr ⟨g2.1, ?_⟩
            have : j ≠ i := fun h => q0 ⟨by omega, h⟩
            omega
    rw [b_83_17 hq h6]
    simp (disch := omega) only [and_self, true_and, mm_ltx, mm_lex, mm_eqx, mm_wv, mm_gd, ↓reduceIte, Int.reduceAdd, Int.reduceSub, Int.reduceNeg, Int.reduceLE, Int.reduceLT, Int.reduceMul, Int.reduceEq, if_pos, if_neg]
    rw [c_131 (d := d) hq (by omega) (by omega) he, bk_v, b_83_31 hq h6]
    by_cases a : cpart i e = m
    · by_cases b : μ (mm_inr l) i = -2147483648
      · obtain ⟨e6', g1, g2⟩ := ih (i + 1) s (some (.int (Int32.ofInt (1)))) rfl (by omega) hs0 hs1
        refine ⟨e6', g1, ?_⟩
        rw [hc, if_neg (by omega), Int.add_zero, ← hm1 (fun _ => b)] at g2
        simp (disch := omega) only [and_self, true_and, mm_ltx, mm_lex, mm_eqx, mm_wv, mm_gd, ↓reduceIte, Int.reduceAdd, Int.reduceSub, Int.reduceNeg, Int.reduceLE, Int.reduceLT, Int.reduceMul, Int.reduceEq, if_pos, if_neg, b_83_40 hq h6, b_83_77 hq]
        rw [show (i : Int) + 1 = ((i + 1 : Nat) : Int) by omega]
        exact g2
      · obtain ⟨e6', g1, g2⟩ := ih (i + 1) s (some (.int (Int32.ofInt (1)))) rfl (by omega) hs0 hs1
        refine ⟨e6', g1, ?_⟩
        rw [hc, if_pos ⟨a, b⟩, ← hm2 a, ← Int.add_assoc] at g2
        simp (disch := omega) only [and_self, true_and, mm_ltx, mm_lex, mm_eqx, mm_wv, mm_gd, ↓reduceIte, Int.reduceAdd, Int.reduceSub, Int.reduceNeg, Int.reduceLE, Int.reduceLT, Int.reduceMul, Int.reduceEq, if_pos, if_neg, b_83_40 hq h6, b_83_77 hq]
        rw [show (i : Int) + 1 = ((i + 1 : Nat) : Int) by omega]
        exact g2
    · obtain ⟨e6', g1, g2⟩ := ih (i + 1) s (some (.int (Int32.ofInt (0)))) rfl (by omega) hs0 hs1
      refine ⟨e6', g1, ?_⟩
      rw [hc, if_neg (fun q => a q.1), Int.add_zero, ← hm1 (fun q => absurd q a)] at g2
      simp (disch := omega) only [and_self, true_and, mm_ltx, mm_lex, mm_eqx, mm_wv, mm_gd, ↓reduceIte, Int.reduceAdd, Int.reduceSub, Int.reduceNeg, Int.reduceLE, Int.reduceLT, Int.reduceMul, Int.reduceEq, if_pos, if_neg, b_83_40 hq h6, b_83_77 hq]
      rw [show (i : Int) + 1 = ((i + 1 : Nat) : Int) by omega]
      exact g2
theorem cwall_b : ∀ (k : Nat), 0 ≤ cwall μ e m k ∧ cwall μ e m k ≤ 216 * k := by
  intro k
  induction k with
  | zero => exact ⟨Int.le_refl 0, by unfold cwall; omega⟩
  | succ k ih =>
    have := cn_b (P := cwiped (μ (mm_inr k)) e m) 216
    unfold cwall
    omega
theorem mm_wpn {N : Int} (h0 : 0 ≤ l) (h : 216 ≤ N) : mm_wp μ e m l N = mm_wp μ e m (l + 1) 0 := by
  funext x j
  unfold mm_wp
  by_cases q : (0 ≤ j ∧ j < 216 ∧ cpart j e = m) ∧ ((97 ≤ x ∧ (x : Int) < 97 + l) ∨ ((x : Int) = 97 + l ∧ j < N))
  · rw [if_pos q, if_pos ⟨q.1, Or.inl (by omega)⟩]
  · rw [if_neg q, if_neg]
    rintro ⟨g1, g2⟩
    refine q ⟨g1, ?_⟩
    omega
theorem c_83_5 (hq : mm_P w) (hg : cg_r μ) (he : 0 ≤ e ∧ e < 3) (hm : 0 ≤ m ∧ m < 6) : ∀ (k i : Nat) (e5 e6 : Option Value), am_n2 e5 = true → am_n2 e6 = true → (i : Int) + k = μ 95 1 → (am_E (d + 1) 83 Q (5, [some (.ref 95), some (.int (Int32.ofInt (e))), some (.int (Int32.ofInt (m))), some (.int (Int32.ofInt (cwall μ e m i))), some (.int (Int32.ofInt ((i : Int)))), e5, e6], [], mm_hp w (mm_wp μ e m i 0) X n) ↔ Q (.inl (some (.int (Int32.ofInt (cwall μ e m (i + k)))))) (mm_hp w (mm_wp μ e m (μ 95 1) 0) X n)) := by
  have hl := hg.1
  intro k
  induction k with
  | zero =>
    intro i e5 e6 h5 h6 hi
    have e1 : mm_wp μ e m i 0 95 1 = μ 95 1 := if_neg (by omega)
    rw [b_83_5 hq h5 h6, e1]
    simp (disch := omega) only [and_self, true_and, mm_ltx, mm_lex, mm_eqx, mm_wv, mm_gd, ↓reduceIte, Int.reduceAdd, Int.reduceSub, Int.reduceNeg, Int.reduceLE, Int.reduceLT, Int.reduceMul, Int.reduceEq, if_pos, if_neg]
    rw [show μ 95 1 = (i : Int) by omega]
    rfl
  | succ k ih =>
    intro i e5 e6 h5 h6 hi
    have e1 : mm_wp μ e m i 0 95 1 = μ 95 1 := if_neg (by omega)
    have hb := cwall_b (μ := μ) (e := e) (m := m) i
    rw [b_83_5 hq h5 h6, e1]
    simp (disch := omega) only [and_self, true_and, mm_ltx, mm_lex, mm_eqx, mm_wv, mm_gd, ↓reduceIte, Int.reduceAdd, Int.reduceSub, Int.reduceNeg, Int.reduceLE, Int.reduceLT, Int.reduceMul, Int.reduceEq, if_pos, if_neg]
    obtain ⟨e6', g1, g2⟩ := c_83_17 (d := d) (Q := Q) (X := X) (n := n) hq hg he hm (show 0 ≤ (i : Int) by omega) (by omega) 216 0 (cwall μ e m i) e6 h6 (by omega) hb.1 (by omega)
    rw [show cn (cwiped (μ (mm_inr (i : Int))) e m) 0 = 0 from rfl, Int.add_zero, mm_wpn (N := 216) (by omega) (by decide)] at g2
    refine g2.trans ?_
    have := ih (i + 1) (some (.int (Int32.ofInt (216)))) e6' rfl g1 (by omega)
    rw [show i + 1 + k = i + (k + 1) by omega] at this
    exact this
theorem c_83 (hq : mm_P w) (hg : cg_r μ) (he : 0 ≤ e ∧ e < 3) (hm : 0 ≤ m ∧ m < 6) : am_C (d + 2) 83 [.ref 95, .int (Int32.ofInt (e)), .int (Int32.ofInt (m))] (mm_hp w μ X n) Q ↔ Q (.inl (some (.int (Int32.ofInt (cwall μ e m (μ 95 1).toNat))))) (mm_hp w (mm_wp μ e m (μ 95 1) 0) X n) := by
  have := hg.1
  simp only [en_83 (d := d + 1), b_83_0 hq]
  have h := c_83_5 (d := d) (Q := Q) (X := X) (n := n) hq hg he hm (μ 95 1).toNat 0 none none rfl rfl (by omega)
  rw [Nat.zero_add, show mm_wp μ e m ((0 : Nat) : Int) 0 = μ from funext fun x => funext fun j => if_neg (by omega)] at h
  exact h
end CG
