/-! The reference's dropLayer. -/
/-- the cells of the layer from t on that have an input -/
def rtop (μ : mm_M) (t : Int) : Int → Bool := fun j => decide (μ 137 (t + j) ≠ 0)
section RD
variable {d : Nat} {Q : am_Ou → am_G → Prop} {w : mm_Z} {μ : mm_M} {X : mm_X} {n : mm_N} {t b i : Int}
theorem drl_0 : rdrl μ t b 0 = μ := by
  funext x j
  unfold rdrl
  rw [if_neg (by omega), if_neg (by omega), if_neg (by omega)]
theorem drl_z (hi : 0 ≤ i) (h : μ 137 (t + i) = 0) : rdrl μ t b (i + 1) = rdrl μ t b i := by
  funext x j
  unfold rdrl
  by_cases j1 : j = t + i
  · subst j1
    by_cases x1 : x = 137
    · subst x1
      rw [if_pos ⟨rfl, by omega, by omega⟩, if_neg (by omega), if_neg (by omega), if_neg (by omega), h]
    · rw [if_neg (fun q => x1 q.1), if_neg (fun q => x1 q.2.1), if_neg (by omega), if_neg (fun q => x1 q.1), if_neg (fun q => x1 q.2.1), if_neg (by omega)]
  · by_cases j2 : j = t - 216 + i
    · have h2 : μ 137 (j + 216) = 0 := by rw [j2, show t - 216 + i + 216 = t + i by omega]; exact h
      have e1 : (x = 137 ∧ t ≤ j ∧ j < t + (i + 1)) = (x = 137 ∧ t ≤ j ∧ j < t + i) := propext ⟨fun q => ⟨q.1, q.2.1, by omega⟩, fun q => ⟨q.1, q.2.1, by omega⟩⟩
      simp only [e1]
      by_cases q : x = 137 ∧ t ≤ j ∧ j < t + i
      · rw [if_pos q, if_pos q]
      · rw [if_neg q, if_neg q, if_neg (fun z => z.2.2.2.2 h2), if_neg (fun z => z.2.2.2.2 h2), if_neg (fun z => z.2.2.2.2 h2), if_neg (fun z => z.2.2.2.2 h2)]
    · have e1 : (j < t + (i + 1)) = (j < t + i) := propext (by omega)
      have e2 : (j < t - 216 + (i + 1)) = (j < t - 216 + i) := propext (by omega)
      simp only [e1, e2]
theorem drl_n (hi : 0 ≤ i) (hb : b = 0) : mm_u (rdrl μ t b i) 137 (t + i) 0 = rdrl μ t b (i + 1) := by
  subst hb
  funext x j
  unfold mm_u rdrl
  have f : ∀ P : Prop, ¬ ((0 : Int) ≠ 0 ∧ P) := fun P q => q.1 rfl
  rw [if_neg (f _), if_neg (f _), if_neg (f _), if_neg (f _)]
  by_cases j1 : x = 137 ∧ j = t + i
  · rw [if_pos j1, if_pos ⟨j1.1, by omega, by omega⟩]
  · rw [if_neg j1]
    by_cases q : x = 137 ∧ t ≤ j ∧ j < t + i
    · rw [if_pos q, if_pos ⟨q.1, q.2.1, by omega⟩]
    · rw [if_neg q, if_neg (fun z => q ⟨z.1, z.2.1, by have := z.2.2; have := z.1; by_cases y : j = t + i; exact absurd ⟨z.1, y⟩ j1; omega⟩)]
theorem drl_m (hi : 0 ≤ i ∧ i < 216) (hb : b ≠ 0) (h : μ 137 (t + i) ≠ 0) : mm_u (mm_u (mm_u (rdrl μ t b i) 137 (t + i - 216) 1) 138 (t + i - 216) (μ 138 (t + i))) 137 (t + i) 0 = rdrl μ t b (i + 1) := by
  funext x j
  rw [mm_ux, mm_ux, mm_ux]
  unfold rdrl
  by_cases x7 : x = 137
  · subst x7
    by_cases j1 : j = t + i
    · rw [if_pos ⟨rfl, j1⟩, if_pos ⟨rfl, by omega, by omega⟩]
    · rw [if_neg (fun q => j1 q.2), if_neg (by omega)]
      by_cases j2 : j = t + i - 216
      · have h2 : μ 137 (j + 216) ≠ 0 := by rw [j2, show t + i - 216 + 216 = t + i by omega]; exact h
        rw [if_pos ⟨rfl, j2⟩, if_neg (by omega), if_pos ⟨hb, rfl, by omega, by omega, h2⟩]
      · have e1 : (j < t + (i + 1)) = (j < t + i) := propext (by omega)
        have e2 : (j < t - 216 + (i + 1)) = (j < t - 216 + i) := propext (by omega)
        rw [if_neg (fun q => j2 q.2)]
        simp only [e1, e2]
  · rw [if_neg (fun q => x7 q.1)]
    by_cases x8 : x = 138
    · subst x8
      by_cases j2 : j = t + i - 216
      · have h2 : μ 137 (j + 216) ≠ 0 := by rw [j2, show t + i - 216 + 216 = t + i by omega]; exact h
        rw [if_pos ⟨rfl, j2⟩, if_neg (fun q => x7 q.1), if_neg (fun q => x7 q.2.1), if_pos ⟨hb, rfl, by omega, by omega, h2⟩, j2, show t + i - 216 + 216 = t + i by omega]
      · have e2 : (j < t - 216 + (i + 1)) = (j < t - 216 + i) := propext (by omega)
        rw [if_neg (fun q => j2 q.2)]
        simp only [x7, false_and, and_false, ↓reduceIte, e2]
    · rw [if_neg (fun q => x8 q.1), if_neg (fun q => x7 q.1), if_neg (fun q => x7 q.1), if_neg (fun q => x7 q.2.1), if_neg (fun q => x8 q.2.1), if_neg (fun q => x7 q.1), if_neg (fun q => x7 q.2.1), if_neg (fun q => x8 q.2.1)]
theorem c_170_38 (hq : mm_P w) (ht : 216 * μ 129 8 = t) (t0 : 216 ≤ t ∧ t ≤ 432) (hb : b = 0 ∨ b = 1) (hg : ∀ j, 0 ≤ j → j < 648 → (μ 137 j = 0 ∨ μ 137 j = 1) ∧ (-2147483648 ≤ μ 138 j ∧ μ 138 j ≤ 2147483647)) : ∀ (k i : Nat) (e4 : Option Value), am_n2 e4 = true → i + k = 216 → (am_E (d + 1) 170 Q (38, [some (.ref 129), some (.int (Int32.ofInt (b))), some (.int (Int32.ofInt (cn (rtop μ t) i))), some (.int (Int32.ofInt ((i : Int)))), e4], [], mm_hp w (rdrl μ t b i) X n) ↔ Q (.inl (some (.int (Int32.ofInt (cn (rtop μ t) 216))))) (mm_hp w (mm_u (mm_u (rdrl μ t b 216) 129 37 0) 129 38 0) X n)) := by
  have h8 : ∀ i : Int, rdrl μ t b i 129 8 = μ 129 8 := fun i => by unfold rdrl; rw [if_neg (by omega), if_neg (by omega), if_neg (by omega)]
  intro k
  induction k with
  | zero =>
    intro i e4 h4 hi
    have hi2 : i = 216 := by omega
    subst hi2
    rw [b_170_38 hq h4, if_pos (by rw [mm_lex, mm_wv (by omega) (by omega), mm_wv (by omega) (by omega)]; omega), c_182 (d := d) hq, bk_n, b_170_122 hq h4]
    rfl
  | succ k ih =>
    intro i e4 h4 hi
    have hcn := cn_b (P := rtop μ t) i
    have hj := hg (t + i) (by omega) (by omega)
    have v7 : rdrl μ t b i 137 (t + i) = μ 137 (t + i) := by
      unfold rdrl
      rw [if_neg (by omega), if_neg (by omega), if_neg (by omega)]
    have nxt : ∀ (x2 : Int) (μ2 : mm_M), x2 = cn (rtop μ t) (i + 1) → μ2 = rdrl μ t b ((i : Int) + 1) → ∀ x4 : Int, (am_E (d + 1) 170 Q (112, [some (.ref 129), some (.int (Int32.ofInt (b))), some (.int (Int32.ofInt (x2))), some (.int (Int32.ofInt ((i : Int)))), some (.int (Int32.ofInt (x4)))], [], mm_hp w μ2 X n) ↔ Q (.inl (some (.int (Int32.ofInt (cn (rtop μ t) 216))))) (mm_hp w (mm_u (mm_u (rdrl μ t b 216) 129 37 0) 129 38 0) X n)) := by
      rintro _ _ rfl rfl x4
      rw [b_170_112 hq]
      have := ih (i + 1) (some (.int (Int32.ofInt (x4)))) rfl (by omega)
      rw [show ((i + 1 : Nat) : Int) = (i : Int) + 1 by omega] at this
      exact this
    rw [b_170_38 hq h4, if_neg (by rw [mm_lex, mm_wv (by omega) (by omega), mm_wv (by omega) (by omega)]; omega), h8, ht]
    simp (disch := omega) only [and_self, true_and, mm_ltx, mm_lex, mm_eqx, mm_wv, mm_gd, ↓reduceIte, Int.reduceAdd, Int.reduceSub, Int.reduceNeg, Int.reduceLE, Int.reduceLT, Int.reduceMul, Int.reduceEq, v7]
    have hcnS : cn (rtop μ t) (i + 1) = cn (rtop μ t) i + if μ 137 (t + i) ≠ 0 then 1 else 0 := by
      show cn (rtop μ t) i + (if decide (μ 137 (t + (i : Int)) ≠ 0) = true then 1 else 0) = _
      by_cases q : μ 137 (t + i) ≠ 0
      · rw [if_pos (decide_eq_true q), if_pos q]
      · rw [if_neg (by rw [decide_eq_true_iff]; exact q), if_neg q]
    by_cases z : μ 137 (t + i) = 0
    · rw [if_pos z]
      exact nxt _ _ (by rw [hcnS, if_neg (fun q => q z)]; omega) (drl_z (by omega) z).symm _
    · rw [if_neg z]
      rcases hb with rfl | rfl
      · rw [if_pos rfl, b_170_104 hq]
        simp (disch := omega) only [and_self, true_and, mm_ltx, mm_lex, mm_eqx, mm_wv, mm_gd, ↓reduceIte, Int.reduceAdd, Int.reduceSub, Int.reduceNeg, Int.reduceLE, Int.reduceLT, Int.reduceMul, Int.reduceEq, mm_b10]
        exact nxt _ _ (by rw [hcnS, if_pos z]) (drl_n (by omega) rfl) _
      · have v8 : rdrl μ t 1 i 138 (t + i) = μ 138 (t + i) := by
          unfold rdrl
          rw [if_neg (by omega), if_neg (by omega), if_neg (by omega)]
        rw [if_neg (by decide), b_170_104 hq, mm_uu (show (138 : Nat) ≠ 137 by decide), v8]
        simp (disch := omega) only [and_self, true_and, mm_ltx, mm_lex, mm_eqx, mm_wv, mm_gd, ↓reduceIte, Int.reduceAdd, Int.reduceSub, Int.reduceNeg, Int.reduceLE, Int.reduceLT, Int.reduceMul, Int.reduceEq, mm_b10, mm_b11]
        exact nxt _ _ (by rw [hcnS, if_pos z]) (drl_m (by omega) (by decide) z) _
theorem c_170 (hq : mm_P w) (hg : rg_r μ) (hb : b = 0 ∨ b = 1) : am_C (d + 2) 170 [.ref 129, .int (Int32.ofInt (b))] (mm_hp w μ X n) Q ↔ if ¬ 1 < μ 129 8 then Q (.inl (some (.int (Int32.ofInt (0))))) (mm_hp w (mm_u μ 129 0 1) X n) else Q (.inl (some (.int (Int32.ofInt (cn (rtop μ (216 * (μ 129 8 - 1))) 216))))) (mm_hp w (mm_u (mm_u (rdrl (mm_u (mm_u μ 129 0 0) 129 8 (μ 129 8 - 1)) (216 * (μ 129 8 - 1)) b 216) 129 37 0) 129 38 0) X n) := by
  have hl := hg.1
  have w1 : rwhy 0 1 1 = 1 := by decide
  have w2 : rwhy 1 1 1 = 0 := by decide
  rw [en_170 (d := d + 1), b_170_0 hq]
  by_cases a : 1 < μ 129 8
  · rw [if_neg (by rw [mm_lex, mm_wv (by omega) (by omega), mm_wv (by omega) (by omega)]; omega), if_neg (show ¬ ¬ 1 < μ 129 8 from fun q => q a), b_170_14 hq, d_185 (d := d) hq (Or.inr rfl) (Or.inr rfl) (Or.inr rfl), bk_v, b_170_19 hq, w2, if_neg (by decide), mm_un (by decide)]
    have hg2 : ∀ j, 0 ≤ j → j < 648 → (mm_u (mm_u μ 129 0 0) 129 8 (μ 129 8 - 1) 137 j = 0 ∨ mm_u (mm_u μ 129 0 0) 129 8 (μ 129 8 - 1) 137 j = 1) ∧ (-2147483648 ≤ mm_u (mm_u μ 129 0 0) 129 8 (μ 129 8 - 1) 138 j ∧ mm_u (mm_u μ 129 0 0) 129 8 (μ 129 8 - 1) 138 j ≤ 2147483647) := fun j j0 j1 => by
      rw [mm_uu (by decide), mm_uu (by decide), mm_uu (by decide), mm_uu (by decide)]
      exact hg.2 j j0 j1
    have := c_170_38 (d := d) (Q := Q) (X := X) (n := n) (μ := mm_u (mm_u μ 129 0 0) 129 8 (μ 129 8 - 1)) (t := 216 * (μ 129 8 - 1)) hq (by rw [mm_us]) (by omega) hb hg2 216 0 none rfl rfl
    rw [show ((0 : Nat) : Int) = 0 from rfl, drl_0] at this
    exact this
  · rw [if_pos (by rw [mm_lex, mm_wv (by omega) (by omega), mm_wv (by omega) (by omega)]; omega), if_pos (show ¬ 1 < μ 129 8 from a), b_170_14 hq, d_185 (d := d) hq (Or.inl rfl) (Or.inr rfl) (Or.inr rfl), bk_v, b_170_19 hq, w1, if_pos (by decide)]
end RD
