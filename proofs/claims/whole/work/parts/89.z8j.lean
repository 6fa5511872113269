/-! Spread: all is summed; the class's weights. -/
def cpl2 (μ : mm_M) (e m : Int) : Bool := !(decide (sp_in (μ (mm_tr e + 1)) (μ 128 e) 6 m = true ∧ μ (mm_tr e + 4) m = -1 ∧ μ (mm_tr e + 2) m ≠ 1))
def cpln (μ : mm_M) : Bool := bl (cpl2 μ 0) 6 0 && bl (cpl2 μ 1) 6 0 && bl (cpl2 μ 2) 6 0
def cwt (μ : mm_M) (l c : Int) : Int := if csee μ c (l + 1).toNat = -2147483648 then 0 else csee μ c (l + 1).toNat
/-- sums -/
def tot (W : Int → Int) : Nat → Int → Int
  | 0, _ => 0
  | k + 1, i => W i + tot W k (i + 1)
section SC
variable {d : Nat} {Q : am_Ou → am_G → Prop} {w : mm_Z} {μ : mm_M} {X : mm_X} {n : mm_N} {e m c v i l : Int} {W V : Int → Int}
theorem tot_s : ∀ (k : Nat) (i : Int), tot W (k + 1) i = tot W k i + W (i + k) := by
  intro k
  induction k with
  | zero => intro i; show W i + 0 = 0 + W (i + ((0 : Nat) : Int)); rw [show i + ((0 : Nat) : Int) = i by omega]; omega
  | succ k ih =>
    intro i
    show W i + tot W (k + 1) (i + 1) = (W i + tot W k (i + 1)) + _
    rw [ih, show i + 1 + (k : Int) = i + ((k + 1 : Nat) : Int) by omega]
    omega
theorem tot_c : ∀ (k : Nat) (i : Int), (∀ j, i ≤ j → j < i + k → W j = V j) → tot W k i = tot V k i := by
  intro k
  induction k with
  | zero => intro i _; rfl
  | succ k ih =>
    intro i h
    unfold tot
    rw [h i (by omega) (by omega), ih (i + 1) (fun j j0 j1 => h j (by omega) (by omega))]
theorem tot_b (B : Int) (hB : 0 ≤ B) : ∀ (k : Nat) (i : Int), (∀ j, i ≤ j → j < i + k → -B ≤ W j ∧ W j ≤ B) → -(B * k) ≤ tot W k i ∧ tot W k i ≤ B * k := by
  intro k
  induction k with
  | zero => intro i _; unfold tot; omega
  | succ k ih =>
    intro i h
    have h1 := h i (by omega) (by omega)
    have h2 := ih (i + 1) (fun j j0 j1 => h j (by omega) (by omega))
    have e : B * ((k + 1 : Nat) : Int) = B * k + B := by rw [show ((k + 1 : Nat) : Int) = (k : Int) + 1 by omega, Int.mul_add, Int.mul_one]
    unfold tot
    rw [e]
    generalize B * (k : Int) = z at *
    omega
theorem c_138 (hq : mm_P w) (ht : ct_a μ) (hc : cc_r μ) : am_C (d + 2) 138 [.ref 125, .ref 128] (mm_hp w μ X n) Q ↔ Q (.inl (some (.int (Int32.ofInt (if cpln μ = true then 1 else 0))))) (mm_hp w μ X n) := by
  have inner : ∀ (e : Int), 0 ≤ e → e < 3 → ∀ (k : Nat) (i : Int) (e5 : Option Value), am_n2 e5 = true → 0 ≤ i → i + k = 6 → ∃ e5' : Option Value, am_n2 e5' = true ∧ (am_E (d + 1) 138 Q (20, [some (.ref 125), some (.ref 128), some (.int (Int32.ofInt (e))), some (.ref (mm_tr e)), some (.int (Int32.ofInt (i))), e5], [], mm_hp w μ X n) ↔ if bl (cpl2 μ e) k i = true then am_E (d + 1) 138 Q (2, [some (.ref 125), some (.ref 128), some (.int (Int32.ofInt (e + 1))), some (.ref (mm_tr e)), some (.int (Int32.ofInt (6))), e5'], [], mm_hp w μ X n) else Q (.inl (some (.int (Int32.ofInt (0))))) (mm_hp w μ X n)) := by
    intro e e0 e3 k
    have hte := ht e e0 e3
    have hce := hc e e0 e3
    induction k with
    | zero =>
      intro i e5 he i0 i1
      obtain rfl : i = 6 := by omega
      refine ⟨e5, he, ?_⟩
      rw [b_138_20 hq he, if_pos (by decide), show bl (cpl2 μ e) 0 6 = true from rfl, if_pos rfl]
    | succ k ih =>
      intro i e5 he i0 i1
      have hk := (hte.1 i i0 (by omega)).2.1
      have hpl : bl (cpl2 μ e) (k + 1) i = (cpl2 μ e i && bl (cpl2 μ e) k (i + 1)) := rfl
      have h53 : ∀ s : Int, (s = 0 ∨ s = 1) → (s = 1 ↔ (sp_in (μ (mm_tr e + 1)) (μ 128 e) 6 i = true ∧ μ (mm_tr e + 4) i = -1)) → ∃ e5' : Option Value, am_n2 e5' = true ∧ (am_E (d + 1) 138 Q (53, [some (.ref 125), some (.ref 128), some (.int (Int32.ofInt (e))), some (.ref (mm_tr e)), some (.int (Int32.ofInt (i))), e5], [.int (Int32.ofInt (s))], mm_hp w μ X n) ↔ if bl (cpl2 μ e) (k + 1) i = true then am_E (d + 1) 138 Q (2, [some (.ref 125), some (.ref 128), some (.int (Int32.ofInt (e + 1))), some (.ref (mm_tr e)), some (.int (Int32.ofInt (6))), e5'], [], mm_hp w μ X n) else Q (.inl (some (.int (Int32.ofInt (0))))) (mm_hp w μ X n)) := by
        intro s hs hiff
        obtain ⟨e5', f1, f2⟩ := ih (i + 1) (some (.int (Int32.ofInt (s)))) rfl (by omega) (by omega)
        refine ⟨e5', f1, ?_⟩
        rw [b_138_53 hq he, hpl]
        by_cases z : s = 0
        · have : cpl2 μ e i = true := by
            unfold cpl2
            rw [decide_eq_false (fun q => by have := hiff.mpr ⟨q.1, q.2.1⟩; omega)]
            rfl
          rw [if_pos (by rw [z]), b_138_73 hq, f2, this, Bool.true_and]
        · have hs1 : s = 1 := by omega
          have hp := hiff.mp hs1
          rw [if_neg (by rw [hs1]; decide)]
          simp (disch := omega) only [and_self, true_and, mm_ltx, mm_lex, mm_eqx, mm_wv, mm_gd, ↓reduceIte, Int.reduceAdd, Int.reduceSub, Int.reduceNeg, Int.reduceLE, Int.reduceLT, Int.reduceMul, Int.reduceEq]
          by_cases t : μ (mm_tr e + 2) i = 1
          · have : cpl2 μ e i = true := by
              unfold cpl2
              rw [decide_eq_false (fun q => q.2.2 t)]
              rfl
            rw [if_pos t, b_138_73 hq, f2, this, Bool.true_and]
          · have : cpl2 μ e i = false := by
              unfold cpl2
              rw [decide_eq_true ⟨hp.1, hp.2, t⟩]
              rfl
            rw [if_neg t, this, Bool.false_and, if_neg (by decide)]
      by_cases p : sp_in (μ (mm_tr e + 1)) (μ 128 e) 6 i = true
      · by_cases q : μ (mm_tr e + 4) i = -1
        · obtain ⟨e5', f1, f2⟩ := h53 1 (Or.inr rfl) ⟨fun _ => ⟨p, q⟩, fun _ => rfl⟩
          refine ⟨e5', f1, ?_⟩
          rw [b_138_20 hq he, if_neg (by rw [mm_lex, mm_wv (by omega) (by omega), mm_wv (by omega) (by omega)]; omega)]
          simp (disch := omega) only [and_self, true_and, mm_ltx, mm_lex, mm_eqx, mm_wv, mm_gd, ↓reduceIte, Int.reduceAdd, Int.reduceSub, Int.reduceNeg, Int.reduceLE, Int.reduceLT, Int.reduceMul, Int.reduceEq]
          rw [c_151 (d := d) (mm_PT (e := e) hq) (by omega) (by omega) (by omega) (by omega) (mm_twp hte), bk_v, b_138_36 hq he, if_pos p, if_neg (by decide), c_150 (d := d) (mm_PT (e := e) hq) i0 (by omega) hte, bk_v, b_138_45 hq he, if_pos q, if_pos (by decide)]
          exact f2
        · obtain ⟨e5', f1, f2⟩ := h53 0 (Or.inl rfl) ⟨fun z => absurd z (by decide), fun z => absurd z.2 q⟩
          refine ⟨e5', f1, ?_⟩
          rw [b_138_20 hq he, if_neg (by rw [mm_lex, mm_wv (by omega) (by omega), mm_wv (by omega) (by omega)]; omega)]
          simp (disch := omega) only [and_self, true_and, mm_ltx, mm_lex, mm_eqx, mm_wv, mm_gd, ↓reduceIte, Int.reduceAdd, Int.reduceSub, Int.reduceNeg, Int.reduceLE, Int.reduceLT, Int.reduceMul, Int.reduceEq]
          rw [c_151 (d := d) (mm_PT (e := e) hq) (by omega) (by omega) (by omega) (by omega) (mm_twp hte), bk_v, b_138_36 hq he, if_pos p, if_neg (by decide), c_150 (d := d) (mm_PT (e := e) hq) i0 (by omega) hte, bk_v, b_138_45 hq he, if_neg q, if_neg (by decide), b_138_52 hq he]
          exact f2
      · obtain ⟨e5', f1, f2⟩ := h53 0 (Or.inl rfl) ⟨fun z => absurd z (by decide), fun z => absurd z.1 p⟩
        refine ⟨e5', f1, ?_⟩
        rw [b_138_20 hq he, if_neg (by rw [mm_lex, mm_wv (by omega) (by omega), mm_wv (by omega) (by omega)]; omega)]
        simp (disch := omega) only [and_self, true_and, mm_ltx, mm_lex, mm_eqx, mm_wv, mm_gd, ↓reduceIte, Int.reduceAdd, Int.reduceSub, Int.reduceNeg, Int.reduceLE, Int.reduceLT, Int.reduceMul, Int.reduceEq]
        rw [c_151 (d := d) (mm_PT (e := e) hq) (by omega) (by omega) (by omega) (by omega) (mm_twp hte), bk_v, b_138_36 hq he, if_neg p, if_pos (by decide), b_138_52 hq he]
        exact f2
  have outer : ∀ (e : Int) (e3 e4 e5 : Option Value), am_n2 e3 = true → am_n2 e4 = true → am_n2 e5 = true → 0 ≤ e → e < 3 → ∃ e5' : Option Value, am_n2 e5' = true ∧ (am_E (d + 1) 138 Q (2, [some (.ref 125), some (.ref 128), some (.int (Int32.ofInt (e))), e3, e4, e5], [], mm_hp w μ X n) ↔ if bl (cpl2 μ e) 6 0 = true then am_E (d + 1) 138 Q (2, [some (.ref 125), some (.ref 128), some (.int (Int32.ofInt (e + 1))), some (.ref (mm_tr e)), some (.int (Int32.ofInt (6))), e5'], [], mm_hp w μ X n) else Q (.inl (some (.int (Int32.ofInt (0))))) (mm_hp w μ X n)) := by
    intro e e3 e4 e5 h3 h4 h5 e0 e1
    obtain ⟨e5', f1, f2⟩ := inner e e0 e1 6 0 e5 h5 (by decide) (by decide)
    refine ⟨e5', f1, ?_⟩
    rw [b_138_2 hq h3 h4 h5, if_neg (by rw [mm_lex, mm_wv (by omega) (by omega), mm_wv (by omega) (by omega)]; omega)]
    simp (disch := omega) only [and_self, true_and, mm_ltx, mm_lex, mm_eqx, mm_wv, mm_gd, ↓reduceIte, Int.reduceAdd, Int.reduceSub, Int.reduceNeg, Int.reduceLE, Int.reduceLT, Int.reduceMul, Int.reduceEq]
    exact f2
  obtain ⟨a5, a1, a2⟩ := outer 0 none none none rfl rfl rfl (by decide) (by decide)
  obtain ⟨b5, b1, b2⟩ := outer (0 + 1) (some (.ref (mm_tr 0))) (some (.int (Int32.ofInt (6)))) a5 rfl rfl a1 (by decide) (by decide)
  obtain ⟨c5, c1, c2⟩ := outer (0 + 1 + 1) (some (.ref (mm_tr (0 + 1)))) (some (.int (Int32.ofInt (6)))) b5 rfl rfl b1 (by decide) (by decide)
  rw [en_138 (d := d + 1), b_138_0 hq, a2, b2, c2, b_138_2 hq rfl rfl c1, if_pos (c := Int32.ofInt 3 ≤ Int32.ofInt (0 + 1 + 1 + 1)) (by decide)]
  unfold cpln
  rw [show (0 : Int) + 1 = 1 from rfl, show (1 : Int) + 1 = 2 from rfl]
  generalize bl (cpl2 μ 0) 6 0 = x
  generalize bl (cpl2 μ 1) 6 0 = y
  generalize bl (cpl2 μ 2) 6 0 = z
  cases x <;> cases y <;> cases z <;> rfl
theorem c_141 (hq : mm_P w) (hg : cg_r μ) (hc : 0 ≤ c ∧ c < 216) (hl : 0 ≤ l ∧ l < 3) : am_C (d + 2) 141 [.ref 125, .int (Int32.ofInt (l)), .int (Int32.ofInt (c))] (mm_hp w μ X n) Q ↔ Q (.inl (some (.long (Int64.ofInt (cwt μ l c))))) (mm_hp w μ X n) := by
  have hb := csee_b hg hc (l + 1).toNat (by omega)
  rw [en_141 (d := d + 1), b_141_0 hq, c_82 (d := d) hq hg hc.1 hc.2 (by omega) hl.2, bk_v, b_141_9 hq]
  unfold cwt
  simp (disch := omega) only [and_self, true_and, mm_ltx, mm_lex, mm_eqx, mm_wv, mm_gd, ↓reduceIte, Int.reduceAdd, Int.reduceSub, Int.reduceNeg, Int.reduceLE, Int.reduceLT, Int.reduceMul, Int.reduceEq]
  by_cases z : csee μ c (l + 1).toNat = -2147483648
  · rw [if_pos z, if_pos z]
  · rw [if_neg z, if_neg z]
end SC
