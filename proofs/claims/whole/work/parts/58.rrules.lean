/-! The reference's rules: which fits, which wins. -/
def rr_r (μ : mm_M) : Prop := (0 ≤ μ 129 11 ∧ μ 129 11 ≤ 8) ∧ ∀ j, 0 ≤ j → j < 24 → (0 ≤ μ 139 j ∧ μ 139 j ≤ 2) ∧ (-2147483648 ≤ μ 140 j ∧ μ 140 j ≤ 2147483647) ∧ (μ 139 j ≠ 0 → 0 ≤ μ 140 j ∧ μ 140 j ≤ 5)
def rfit (μ : mm_M) (r e m : Int) : Bool := decide (μ 139 (3 * r + e) = 0 ∨ (μ 139 (3 * r + e) = 1 ∧ m = μ 140 (3 * r + e)) ∨ (μ 139 (3 * r + e) = 2 ∧ sp_fc (rp μ e) m = -1 ∧ rt_u (rq μ e) (μ 140 (3 * r + e)) 6 m = μ 140 (3 * r + e)))
def rspc1 (μ : mm_M) (r e : Int) : Int := if μ 139 (3 * r + e) ≤ 0 then 0 else 100 + fo_dp (rq μ e) 6 (μ 140 (3 * r + e))
def rspc (μ : mm_M) (r : Int) : Int := rspc1 μ r 0 + rspc1 μ r 1 + rspc1 μ r 2
def rfits (μ : mm_M) (r c : Int) : Bool := rfit μ r 0 (rpart c 0) && rfit μ r 1 (rpart c 1) && rfit μ r 2 (rpart c 2)
def rwin (μ : mm_M) (c : Int) : Nat → Int
  | 0 => -1
  | r + 1 => if rfits μ r c = true ∧ (rwin μ c r < 0 ∨ rspc μ (rwin μ c r) ≤ rspc μ r) then (r : Int) else rwin μ c r
def ramg1 (μ : mm_M) (c o e : Int) : Bool := decide (μ 130 (6 * e + rpart c e) ≠ 0 ∧ rt_u (rq μ e) (rpart o e) 6 (rpart c e) = rpart o e)
def ramg (μ : mm_M) (c o : Int) : Bool := ramg1 μ c o 0 && ramg1 μ c o 1 && ramg1 μ c o 2
section RR
theorem mm_01 {c : Prop} {_ : Decidable c} : (if c then (1 : Int) else 0) = 0 ∨ (if c then (1 : Int) else 0) = 1 := by
  by_cases h : c
  · exact Or.inr (if_pos h)
  · exact Or.inl (if_neg h)
variable {d : Nat} {Q : am_Ou → am_G → Prop} {w : mm_Z} {μ : mm_M} {X : mm_X} {n : mm_N} {e m c r : Int}
theorem c_180 (hq : mm_P w) (ht : rt_a μ) (hr : rr_r μ) (r0 : 0 ≤ r ∧ r < 8) (he : 0 ≤ e ∧ e < 3) (hm : 0 ≤ m ∧ m < 6) : am_C (d + 3) 180 [.ref 129, .int (Int32.ofInt (r)), .int (Int32.ofInt (e)), .int (Int32.ofInt (m))] (mm_hp w μ X n) Q ↔ Q (.inl (some (.int (Int32.ofInt (if rfit μ r e m = true then 1 else 0))))) (mm_hp w μ X n) := by
  have h1 := hr.2 (3 * r + e) (by omega) (by omega)
  have hte := ht e he.1 he.2
  have hf : rfit μ r e m = true ↔ (μ 139 (3 * r + e) = 0 ∨ (μ 139 (3 * r + e) = 1 ∧ m = μ 140 (3 * r + e)) ∨ (μ 139 (3 * r + e) = 2 ∧ sp_fc (rp μ e) m = -1 ∧ rt_u (rq μ e) (μ 140 (3 * r + e)) 6 m = μ 140 (3 * r + e))) := decide_eq_true_iff
  simp only [en_180 (d := d + 2), b_180_0 hq]
  by_cases a0 : μ 139 (3 * r + e) = 0
  · simp (disch := omega) only [and_self, true_and, mm_ltx, mm_lex, mm_eqx, mm_wv, mm_gd, ↓reduceIte, Int.reduceAdd, Int.reduceSub, Int.reduceNeg, Int.reduceLE, Int.reduceLT, Int.reduceMul, Int.reduceEq, if_pos, if_neg]
    rw [if_pos (hf.mpr (Or.inl a0))]
  · by_cases a1 : μ 139 (3 * r + e) = 1
    · by_cases b : m = μ 140 (3 * r + e)
      · simp (disch := omega) only [and_self, true_and, mm_ltx, mm_lex, mm_eqx, mm_wv, mm_gd, ↓reduceIte, Int.reduceAdd, Int.reduceSub, Int.reduceNeg, Int.reduceLE, Int.reduceLT, Int.reduceMul, Int.reduceEq, if_pos, if_neg]
        rw [if_pos (hf.mpr (Or.inr (Or.inl ⟨a1, b⟩)))]
      · simp (disch := omega) only [and_self, true_and, mm_ltx, mm_lex, mm_eqx, mm_wv, mm_gd, ↓reduceIte, Int.reduceAdd, Int.reduceSub, Int.reduceNeg, Int.reduceLE, Int.reduceLT, Int.reduceMul, Int.reduceEq, if_pos, if_neg, b_180_41 hq]
        rw [if_neg (fun q => by rcases hf.mp q with q | q | q <;> omega)]
    · have a2 : μ 139 (3 * r + e) = 2 := by omega
      simp (disch := omega) only [and_self, true_and, mm_ltx, mm_lex, mm_eqx, mm_wv, mm_gd, ↓reduceIte, Int.reduceAdd, Int.reduceSub, Int.reduceNeg, Int.reduceLE, Int.reduceLT, Int.reduceMul, Int.reduceEq, if_pos, if_neg, b_180_41 hq]
      rw [c_194 (d := d) hq he (by omega) (by omega) hte, bk_v, b_180_53 hq]
      by_cases g : sp_fc (rp μ e) m = -1
      · rw [if_pos g, if_neg (by decide), show d + 2 = (d + 1) + 1 from rfl, d_238 (d := d + 1) hq he (by omega) (by omega) (by omega) hte, bk_v, b_180_64 hq]
        by_cases b : rt_u (rq μ e) (μ 140 (3 * r + e)) 6 m = μ 140 (3 * r + e)
        · rw [if_pos b, if_neg (by decide), if_pos (hf.mpr (Or.inr (Or.inr ⟨a2, g, b⟩)))]
        · rw [if_neg b, if_pos (by decide), if_neg (fun q => by rcases hf.mp q with q | q | q; omega; omega; exact b q.2.2)]
      · rw [if_neg g, if_pos (by decide), if_neg (fun q => by rcases hf.mp q with q | q | q; omega; omega; exact g q.2.1)]
theorem rspc1_b : 0 ≤ rspc1 μ r e ∧ rspc1 μ r e ≤ 106 := by
  have := fo_dp_le (p := rq μ e) 6 (μ 140 (3 * r + e))
  unfold rspc1
  split <;> omega
theorem c_228 (hq : mm_P w) (ht : rt_a μ) (hr : rr_r μ) (r0 : 0 ≤ r ∧ r < 8) : am_C (d + 2) 228 [.ref 129, .int (Int32.ofInt (r))] (mm_hp w μ X n) Q ↔ Q (.inl (some (.int (Int32.ofInt (rspc μ r))))) (mm_hp w μ X n) := by
  have step : ∀ (e v : Int), 0 ≤ e → e < 3 → -1000 ≤ v → v ≤ 1000 → (am_E (d + 1) 228 Q (4, [some (.ref 129), some (.int (Int32.ofInt (r))), some (.int (Int32.ofInt (v))), some (.int (Int32.ofInt (e)))], [], mm_hp w μ X n) ↔ am_E (d + 1) 228 Q (4, [some (.ref 129), some (.int (Int32.ofInt (r))), some (.int (Int32.ofInt (v + rspc1 μ r e))), some (.int (Int32.ofInt (e + 1)))], [], mm_hp w μ X n)) := by
    intro e v e0 e3 v0 v1
    have h1 := hr.2 (3 * r + e) (by omega) (by omega)
    rw [b_228_4 hq]
    unfold rspc1
    by_cases a : μ 139 (3 * r + e) ≤ 0
    · simp (disch := omega) only [and_self, true_and, mm_ltx, mm_lex, mm_eqx, mm_wv, mm_gd, ↓reduceIte, Int.reduceAdd, Int.reduceSub, Int.reduceNeg, Int.reduceLE, Int.reduceLT, Int.reduceMul, Int.reduceEq, if_pos, if_neg, b_228_46 hq, Int.add_zero]
    · simp (disch := omega) only [and_self, true_and, mm_ltx, mm_lex, mm_eqx, mm_wv, mm_gd, ↓reduceIte, Int.reduceAdd, Int.reduceSub, Int.reduceNeg, Int.reduceLE, Int.reduceLT, Int.reduceMul, Int.reduceEq, if_pos, if_neg]
      rw [c_168 (d := d) hq ⟨e0, e3⟩ (by omega) (by omega) (ht e e0 e3), bk_v, b_228_41 hq, b_228_46 hq, Int.add_assoc]
  have b0 := rspc1_b (μ := μ) (r := r) (e := 0)
  have b1 := rspc1_b (μ := μ) (r := r) (e := 1)
  have b2 := rspc1_b (μ := μ) (r := r) (e := 2)
  simp only [en_228 (d := d + 1), b_228_0 hq]
  rw [step 0 0 (by decide) (by decide) (by decide) (by decide), show (0 : Int) + 1 = 1 from rfl, Int.zero_add, step 1 _ (by decide) (by decide) (by omega) (by omega), show (1 : Int) + 1 = 2 from rfl, step 2 _ (by decide) (by decide) (by omega) (by omega), show (2 : Int) + 1 = 3 from rfl, b_228_4 hq]
  unfold rspc
  simp (disch := omega) only [and_self, true_and, mm_ltx, mm_lex, mm_eqx, mm_wv, mm_gd, ↓reduceIte, Int.reduceAdd, Int.reduceSub, Int.reduceNeg, Int.reduceLE, Int.reduceLT, Int.reduceMul, Int.reduceEq, if_pos, if_neg]
theorem rwin_b : ∀ (k : Nat), -1 ≤ rwin μ c k ∧ rwin μ c k < k ∨ (k = 0 ∧ rwin μ c k = -1) := by
  intro k
  induction k with
  | zero => exact Or.inr ⟨rfl, rfl⟩
  | succ k ih =>
    unfold rwin
    split <;> omega
theorem c_243_4 (hq : mm_P w) (ht : rt_a μ) (hr : rr_r μ) (h0 : 0 ≤ c) (h1 : c < 216) : ∀ (k i : Nat) (e4 : Option Value), am_n2 e4 = true → (i : Int) + k = μ 129 11 → (am_E (d + 3) 243 Q (4, [some (.ref 129), some (.int (Int32.ofInt (c))), some (.int (Int32.ofInt (rwin μ c i))), some (.int (Int32.ofInt ((i : Int)))), e4], [], mm_hp w μ X n) ↔ Q (.inl (some (.int (Int32.ofInt (rwin μ c (i + k)))))) (mm_hp w μ X n)) := by
  have p0 := rpart_b (e := 0) h0 h1
  have p1 := rpart_b (e := 1) h0 h1
  have p2 := rpart_b (e := 2) h0 h1
  have hr1 := hr.1
  intro k
  induction k with
  | zero =>
    intro i e4 h4 hi
    have := rwin_b (μ := μ) (c := c) i
    rw [b_243_4 hq h4]
    simp (disch := omega) only [and_self, true_and, mm_ltx, mm_lex, mm_eqx, mm_wv, mm_gd, ↓reduceIte, Int.reduceAdd, Int.reduceSub, Int.reduceNeg, Int.reduceLE, Int.reduceLT, Int.reduceMul, Int.reduceEq, if_pos, if_neg]
    rfl
  | succ k ih =>
    intro i e4 h4 hi
    have hwb := rwin_b (μ := μ) (c := c) i
    have fin : ∀ v : Int, am_E (d + 3) 243 Q (88, [some (.ref 129), some (.int (Int32.ofInt (c))), some (.int (Int32.ofInt (rwin μ c i))), some (.int (Int32.ofInt ((i : Int)))), some (.int (Int32.ofInt (v)))], [.int (Int32.ofInt (rwin μ c (i + 1)))], mm_hp w μ X n) ↔ Q (.inl (some (.int (Int32.ofInt (rwin μ c (i + (k + 1))))))) (mm_hp w μ X n) := by
      intro v
      rw [b_243_88 hq, show (i : Int) + 1 = ((i + 1 : Nat) : Int) by omega, ih (i + 1) _ rfl (by omega), show i + 1 + k = i + (k + 1) by omega]
    have no : rfits μ i c = false → ∀ s : Int, s = 0 → (am_E (d + 3) 243 Q (59, [some (.ref 129), some (.int (Int32.ofInt (c))), some (.int (Int32.ofInt (rwin μ c i))), some (.int (Int32.ofInt ((i : Int)))), e4], [.int (Int32.ofInt (s))], mm_hp w μ X n) ↔ Q (.inl (some (.int (Int32.ofInt (rwin μ c (i + (k + 1))))))) (mm_hp w μ X n)) := by
      intro hf s hs
      subst hs
      have hx := fin 0
      rw [show rwin μ c (i + 1) = rwin μ c i from if_neg (fun q => by rw [hf] at q; exact absurd q.1 (by decide))] at hx
      rw [b_243_59 hq h4, if_pos rfl, b_243_87 hq]
      exact hx
    rw [b_243_4 hq h4]
    simp (disch := omega) only [and_self, true_and, mm_ltx, mm_lex, mm_eqx, mm_wv, mm_gd, ↓reduceIte, Int.reduceAdd, Int.reduceSub, Int.reduceNeg, Int.reduceLE, Int.reduceLT, Int.reduceMul, Int.reduceEq, if_pos, if_neg]
    rw [show d + 3 = (d + 2) + 1 from rfl, d_213 (d := d + 2) hq h0 h1 (by decide), bk_v, b_243_20 hq h4, show d + 2 + 1 = d + 3 from rfl, c_180 (d := d) hq ht hr (by omega) (by decide) p0, bk_v, b_243_23 hq h4]
    by_cases f0 : rfit μ i 0 (rpart c 0) = true
    · rw [if_pos f0, if_neg (by decide), show d + 3 = (d + 2) + 1 from rfl, d_213 (d := d + 2) hq h0 h1 (by decide), bk_v, b_243_34 hq h4, show d + 2 + 1 = d + 3 from rfl, c_180 (d := d) hq ht hr (by omega) (by decide) p1, bk_v, b_243_37 hq h4]
      by_cases f1 : rfit μ i 1 (rpart c 1) = true
      · rw [if_pos f1, if_neg (by decide), show d + 3 = (d + 2) + 1 from rfl, d_213 (d := d + 2) hq h0 h1 (by decide), bk_v, b_243_48 hq h4, show d + 2 + 1 = d + 3 from rfl, c_180 (d := d) hq ht hr (by omega) (by decide) p2, bk_v, b_243_51 hq h4]
        by_cases f2 : rfit μ i 2 (rpart c 2) = true
        · have hf : rfits μ i c = true := by unfold rfits; rw [f0, f1, f2]; rfl
          rw [if_pos f2, if_neg (by decide), b_243_59 hq h4, if_neg (by decide)]
          by_cases g : rwin μ c i < 0
          · have hx := fin 1
            rw [show rwin μ c (i + 1) = (i : Int) from if_pos ⟨hf, Or.inl g⟩] at hx
            simp (disch := omega) only [and_self, true_and, mm_ltx, mm_lex, mm_eqx, mm_wv, mm_gd, ↓reduceIte, Int.reduceAdd, Int.reduceSub, Int.reduceNeg, Int.reduceLE, Int.reduceLT, Int.reduceMul, Int.reduceEq, if_pos, if_neg]
            rw [b_243_83 hq]
            exact hx
          · have x0 := rspc1_b (μ := μ) (r := i) (e := 0)
            have x1 := rspc1_b (μ := μ) (r := i) (e := 1)
            have x2 := rspc1_b (μ := μ) (r := i) (e := 2)
            have y0 := rspc1_b (μ := μ) (r := rwin μ c i) (e := 0)
            have y1 := rspc1_b (μ := μ) (r := rwin μ c i) (e := 1)
            have y2 := rspc1_b (μ := μ) (r := rwin μ c i) (e := 2)
            have z1 : 0 ≤ rspc μ i ∧ rspc μ i ≤ 318 := by unfold rspc; omega
            have z2 : 0 ≤ rspc μ (rwin μ c i) ∧ rspc μ (rwin μ c i) ≤ 318 := by unfold rspc; omega
            simp (disch := omega) only [and_self, true_and, mm_ltx, mm_lex, mm_eqx, mm_wv, mm_gd, ↓reduceIte, Int.reduceAdd, Int.reduceSub, Int.reduceNeg, Int.reduceLE, Int.reduceLT, Int.reduceMul, Int.reduceEq, if_pos, if_neg]
            rw [show d + 3 = (d + 1) + 2 from rfl, c_228 (d := d + 1) hq ht hr (by omega), bk_v, b_243_75 hq, c_228 (d := d + 1) hq ht hr (by omega), bk_v, b_243_80 hq, show d + 1 + 2 = d + 3 from rfl]
            by_cases v : rspc μ i < rspc μ (rwin μ c i)
            · have hx := fin 1
              rw [show rwin μ c (i + 1) = rwin μ c i from if_neg (fun q => by rcases q.2 with q | q <;> omega)] at hx
              simp (disch := omega) only [and_self, true_and, mm_ltx, mm_lex, mm_eqx, mm_wv, mm_gd, ↓reduceIte, Int.reduceAdd, Int.reduceSub, Int.reduceNeg, Int.reduceLE, Int.reduceLT, Int.reduceMul, Int.reduceEq, if_pos, if_neg]
              rw [b_243_87 hq]
              exact hx
            · have hx := fin 1
              rw [show rwin μ c (i + 1) = (i : Int) from if_pos ⟨hf, Or.inr (by omega)⟩] at hx
              simp (disch := omega) only [and_self, true_and, mm_ltx, mm_lex, mm_eqx, mm_wv, mm_gd, ↓reduceIte, Int.reduceAdd, Int.reduceSub, Int.reduceNeg, Int.reduceLE, Int.reduceLT, Int.reduceMul, Int.reduceEq, if_pos, if_neg]
              rw [b_243_83 hq]
              exact hx
        · have hf : rfits μ i c = false := by unfold rfits; rw [Bool.eq_false_iff.mpr f2, Bool.and_false]
          rw [if_neg f2, if_pos (by decide), b_243_58 hq h4]
          exact no hf 0 rfl
      · have hf : rfits μ i c = false := by unfold rfits; rw [Bool.eq_false_iff.mpr f1, Bool.and_false, Bool.false_and]
        rw [if_neg f1, if_pos (by decide), b_243_58 hq h4]
        exact no hf 0 rfl
    · have hf : rfits μ i c = false := by unfold rfits; rw [Bool.eq_false_iff.mpr f0, Bool.false_and, Bool.false_and]
      rw [if_neg f0, if_pos (by decide), b_243_58 hq h4]
      exact no hf 0 rfl
theorem c_243 (hq : mm_P w) (ht : rt_a μ) (hr : rr_r μ) (h0 : 0 ≤ c) (h1 : c < 216) : am_C (d + 4) 243 [.ref 129, .int (Int32.ofInt (c))] (mm_hp w μ X n) Q ↔ Q (.inl (some (.int (Int32.ofInt (rwin μ c (μ 129 11).toNat))))) (mm_hp w μ X n) := by
  have hr1 := hr.1
  simp only [en_243 (d := d + 3), b_243_0 hq]
  have := c_243_4 (d := d) (Q := Q) (X := X) (n := n) hq ht hr h0 h1 (μ 129 11).toNat 0 none rfl (by omega)
  rw [Nat.zero_add] at this
  exact this
theorem c_158 (hq : mm_P w) (ht : rt_a μ) (h0 : 0 ≤ c) (h1 : c < 216) {o : Int} (o0 : 0 ≤ o) (o1 : o < 216) : am_C (d + 2) 158 [.ref 129, .int (Int32.ofInt (c)), .int (Int32.ofInt (o))] (mm_hp w μ X n) Q ↔ Q (.inl (some (.int (Int32.ofInt (if ramg μ c o = true then 1 else 0))))) (mm_hp w μ X n) := by
  have step : ∀ (e v : Int) (e5 : Option Value), am_n2 e5 = true → 0 ≤ e → e < 3 → v = 0 ∨ v = 1 → (am_E (d + 1) 158 Q (5, [some (.ref 129), some (.int (Int32.ofInt (c))), some (.int (Int32.ofInt (o))), some (.int (Int32.ofInt (v))), some (.int (Int32.ofInt (e))), e5], [], mm_hp w μ X n) ↔ am_E (d + 1) 158 Q (5, [some (.ref 129), some (.int (Int32.ofInt (c))), some (.int (Int32.ofInt (o))), some (.int (Int32.ofInt (if v = 1 ∧ ramg1 μ c o e = true then 1 else 0))), some (.int (Int32.ofInt (e + 1))), some (.int (Int32.ofInt (rpart c e)))], [], mm_hp w μ X n)) := by
    intro e v e5 h5 e0 e3 hv
    have pc := rpart_b (e := e) h0 h1
    have po := rpart_b (e := e) o0 o1
    have hre := (ht e e0 e3 _ pc.1 pc.2).1
    have hg : ramg1 μ c o e = true ↔ (μ 130 (6 * e + rpart c e) ≠ 0 ∧ rt_u (rq μ e) (rpart o e) 6 (rpart c e) = rpart o e) := decide_eq_true_iff
    rw [b_158_5 hq h5]
    simp (disch := omega) only [and_self, true_and, mm_ltx, mm_lex, mm_eqx, mm_wv, mm_gd, ↓reduceIte, Int.reduceAdd, Int.reduceSub, Int.reduceNeg, Int.reduceLE, Int.reduceLT, Int.reduceMul, Int.reduceEq, if_pos, if_neg]
    rw [d_213 (d := d) hq h0 h1 ⟨e0, e3⟩, bk_v, b_158_17 hq h5]
    by_cases a : v = 0
    · simp (disch := omega) only [and_self, true_and, mm_ltx, mm_lex, mm_eqx, mm_wv, mm_gd, ↓reduceIte, Int.reduceAdd, Int.reduceSub, Int.reduceNeg, Int.reduceLE, Int.reduceLT, Int.reduceMul, Int.reduceEq, if_pos, if_neg, b_158_60 hq, b_158_61 hq]
    · by_cases b : μ 130 (6 * e + rpart c e) = 0
      · simp (disch := omega) only [and_self, true_and, mm_ltx, mm_lex, mm_eqx, mm_wv, mm_gd, ↓reduceIte, Int.reduceAdd, Int.reduceSub, Int.reduceNeg, Int.reduceLE, Int.reduceLT, Int.reduceMul, Int.reduceEq, if_pos, if_neg, b_158_60 hq, b_158_61 hq]
        rw [if_neg (fun q => (hg.mp q).1 b)]
      · simp (disch := omega) only [and_self, true_and, mm_ltx, mm_lex, mm_eqx, mm_wv, mm_gd, ↓reduceIte, Int.reduceAdd, Int.reduceSub, Int.reduceNeg, Int.reduceLE, Int.reduceLT, Int.reduceMul, Int.reduceEq, if_pos, if_neg]
        rw [d_213 (d := d) hq o0 o1 ⟨e0, e3⟩, bk_v, b_158_50 hq, d_238 (d := d) hq ⟨e0, e3⟩ (by omega) (by omega) (by omega) (ht e e0 e3), bk_v, b_158_53 hq]
        by_cases g : rt_u (rq μ e) (rpart o e) 6 (rpart c e) = rpart o e
        · rw [if_pos g, if_neg (by decide), b_158_61 hq, if_pos (hg.mpr ⟨b, g⟩)]
        · rw [if_neg g, if_pos (by decide), b_158_60 hq, b_158_61 hq, if_neg (fun q => g (hg.mp q).2)]
  simp only [en_158 (d := d + 1), b_158_0 hq]
  rw [step 0 1 none rfl (by decide) (by decide) (by decide), show (0 : Int) + 1 = 1 from rfl, step 1 _ _ rfl (by decide) (by decide) mm_01, show (1 : Int) + 1 = 2 from rfl, step 2 _ _ rfl (by decide) (by decide) mm_01, show (2 : Int) + 1 = 3 from rfl, b_158_5 hq rfl, if_pos (by decide), if_pos (of_eq_true mm_okc)]
  unfold ramg
  cases ramg1 μ c o 0 <;> cases ramg1 μ c o 1 <;> cases ramg1 μ c o 2 <;> exact Iff.rfl
end RR
