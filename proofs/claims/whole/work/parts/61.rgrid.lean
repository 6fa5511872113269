/-! The reference's inputs and edits. -/
def rhas (μ : mm_M) : Int → Bool := fun j => decide (μ 137 j ≠ 0)
/-- the reference's inputs are in range -/
def rg_r (μ : mm_M) : Prop := (1 ≤ μ 129 8 ∧ μ 129 8 ≤ 3) ∧ ∀ j, 0 ≤ j → j < 648 → (μ 137 j = 0 ∨ μ 137 j = 1) ∧ (-2147483648 ≤ μ 138 j ∧ μ 138 j ≤ 2147483647)
/-- the reference's edits are in range -/
def rh_r (μ : mm_M) : Prop := (0 ≤ μ 129 38 ∧ μ 129 38 ≤ μ 129 37 ∧ μ 129 37 ≤ 12) ∧ (∀ e, 0 ≤ e → e < 12 → (0 ≤ μ 157 e ∧ μ 157 e < 3) ∧ (0 ≤ μ 158 e ∧ μ 158 e ≤ 216)) ∧ ∀ k, 0 ≤ k → k < 2592 → (0 ≤ μ 159 k ∧ μ 159 k < 216) ∧ (μ 160 k = 0 ∨ μ 160 k = 1) ∧ (μ 162 k = 0 ∨ μ 162 k = 1)
def rshf (μ : mm_M) (a b : Int) : mm_M := fun x j => if (157 ≤ x ∧ x ≤ 158) ∧ 0 ≤ j ∧ j < a then μ x (j + 1) else if (159 ≤ x ∧ x ≤ 163) ∧ 0 ≤ j ∧ j < b then μ x (j + 216) else μ x j
/-- a new edit is begun -/
def rnew (μ : mm_M) (l : Int) : mm_M := mm_u (mm_u (mm_u (mm_u μ 157 (μ 129 38) l) 158 (μ 129 38) 0) 129 38 (μ 129 38 + 1)) 129 37 (μ 129 38 + 1)
def rnewE (μ : mm_M) (l : Int) : mm_M := if μ 129 38 = 12 then rnew (mm_u (rshf μ 11 2376) 129 38 11) l else rnew μ l
/-- an input changes, as part of the edit begun last -/
def rchg (μ : mm_M) (c b v : Int) : mm_M :=
  let u := μ 129 38 - 1
  let k := 216 * u + μ 158 u
  let a := 216 * μ 157 u + c
  mm_u (mm_u (mm_u (mm_u (mm_u (mm_u (mm_u (mm_u μ 159 k c) 160 k (μ 137 a)) 161 k (μ 138 a)) 162 k b) 163 k v) 158 u (μ 158 u + 1)) 137 a b) 138 a v
/-- the changes of an edit taken back: the first k of them -/
def rund (μ : mm_M) (e : Int) : Nat → mm_M
  | 0 => μ
  | k + 1 => mm_u (mm_u (rund μ e k) 137 (216 * μ 157 e + μ 159 (216 * e + k)) (μ 160 (216 * e + k))) 138 (216 * μ 157 e + μ 159 (216 * e + k)) (μ 161 (216 * e + k))
def rred (μ : mm_M) (e : Int) : Nat → mm_M
  | 0 => μ
  | k + 1 => mm_u (mm_u (rred μ e k) 137 (216 * μ 157 e + μ 159 (216 * e + k)) (μ 162 (216 * e + k))) 138 (216 * μ 157 e + μ 159 (216 * e + k)) (μ 163 (216 * e + k))
/-- inputs are forgotten -/
def rclr (μ : mm_M) (a N : Int) : mm_M := fun x j => if x = 137 ∧ a ≤ j ∧ j < a + N then 0 else μ x j
section RG
variable {d : Nat} {Q : am_Ou → am_G → Prop} {w : mm_Z} {μ : mm_M} {X : mm_X} {n : mm_N} {e m c l : Int}
theorem mm_b1v {y : Int} (h : y = 0 ∨ y = 1) : mm_b1 y = y := by
  rcases h with rfl | rfl
  · exact mm_b10
  · exact mm_b11
theorem cn_s {P : Int → Bool} {k : Nat} : cn P (k + 1) = cn P k + if P k = true then 1 else 0 := rfl
theorem c_190_4 (hq : mm_P w) (hg : rg_r μ) : ∀ (k i : Nat), (i : Int) + k = 216 * μ 129 8 → (am_E d 190 Q (4, [some (.ref 129), some (.int (Int32.ofInt (cn (rhas μ) i))), some (.int (Int32.ofInt ((i : Int))))], [], mm_hp w μ X n) ↔ Q (.inl (some (.int (Int32.ofInt (cn (rhas μ) (i + k)))))) (mm_hp w μ X n)) := by
  have h := hg.1
  intro k
  induction k with
  | zero =>
    intro i hi
    rw [b_190_4 hq]
    simp (disch := omega) only [and_self, true_and, mm_ltx, mm_lex, mm_eqx, mm_wv, mm_gd, ↓reduceIte, Int.reduceAdd, Int.reduceSub, Int.reduceNeg, Int.reduceLE, Int.reduceLT, Int.reduceMul, Int.reduceEq, if_pos, if_neg]
    rfl
  | succ k ih =>
    intro i hi
    have hb := cn_b (P := rhas μ) i
    have hr := hg.2 (i : Int) (by omega) (by omega)
    have hi2 := ih (i + 1) (by omega)
    have hc : cn (rhas μ) (i + 1) = cn (rhas μ) i + if μ 137 i ≠ 0 then 1 else 0 := by
      show cn _ i + (if decide _ = true then 1 else 0) = _
      simp only [decide_eq_true_iff]
    rw [hc, show i + 1 + k = i + (k + 1) by omega] at hi2
    rw [b_190_4 hq]
    by_cases a : μ 137 i = 0
    · rw [if_neg (by omega), Int.add_zero] at hi2
      simp (disch := omega) only [and_self, true_and, mm_ltx, mm_lex, mm_eqx, mm_wv, mm_gd, ↓reduceIte, Int.reduceAdd, Int.reduceSub, Int.reduceNeg, Int.reduceLE, Int.reduceLT, Int.reduceMul, Int.reduceEq, if_pos, if_neg, b_190_32 hq]
      rw [show (i : Int) + 1 = ((i + 1 : Nat) : Int) by omega]
      exact hi2
    · rw [if_pos a] at hi2
      simp (disch := omega) only [and_self, true_and, mm_ltx, mm_lex, mm_eqx, mm_wv, mm_gd, ↓reduceIte, Int.reduceAdd, Int.reduceSub, Int.reduceNeg, Int.reduceLE, Int.reduceLT, Int.reduceMul, Int.reduceEq, if_pos, if_neg, b_190_32 hq]
      rw [show (i : Int) + 1 = ((i + 1 : Nat) : Int) by omega]
      exact hi2
theorem c_190 (hq : mm_P w) (hg : rg_r μ) : am_C (d + 1) 190 [.ref 129] (mm_hp w μ X n) Q ↔ Q (.inl (some (.int (Int32.ofInt (cn (rhas μ) (216 * μ 129 8).toNat))))) (mm_hp w μ X n) := by
  have h := hg.1
  simp only [en_190, b_190_0 hq]
  have := c_190_4 (d := d) (Q := Q) (X := X) (n := n) hq hg (216 * μ 129 8).toNat 0 (by omega)
  rw [Nat.zero_add] at this
  exact this
theorem c_182 (hq : mm_P w) : am_C (d + 1) 182 [.ref 129] (mm_hp w μ X n) Q ↔ Q (.inl none) (mm_hp w (mm_u (mm_u μ 129 37 0) 129 38 0) X n) := by
  simp only [en_182, b_182_0 hq]
theorem c_199_26 (hq : mm_P w) (h0 : 0 ≤ μ 129 8) (h1 : μ 129 8 < 3) : ∀ (k i : Nat), i + k = 216 → (am_E (d + 1) 199 Q (26, [some (.ref 129), some (.int (Int32.ofInt ((i : Int))))], [], mm_hp w (rclr μ (216 * μ 129 8) i) X n) ↔ Q (.inl (some (.int (Int32.ofInt (μ 129 8))))) (mm_hp w (mm_u (mm_u (mm_u (rclr μ (216 * μ 129 8) 216) 129 8 (μ 129 8 + 1)) 129 37 0) 129 38 0) X n)) := by
  intro k
  induction k with
  | zero =>
    intro i hi
    have : i = 216 := by omega
    subst this
    rw [b_199_26 hq]
    have e0 : rclr μ (216 * μ 129 8) ((216 : Nat) : Int) 129 8 = μ 129 8 := if_neg (by omega)
    simp (disch := omega) only [and_self, true_and, mm_ltx, mm_lex, mm_eqx, mm_wv, mm_gd, ↓reduceIte, Int.reduceAdd, Int.reduceSub, Int.reduceNeg, Int.reduceLE, Int.reduceLT, Int.reduceMul, Int.reduceEq, if_pos, if_neg]
    rw [c_182 (d := d) hq, bk_n, b_199_69 hq]
    have e1 : rclr μ (216 * μ 129 8) ((216 : Nat) : Int) 129 8 = μ 129 8 := if_neg (by omega)
    rw [mm_un (show (8 : Int) ≠ 38 by decide), mm_un (show (8 : Int) ≠ 37 by decide), mm_us, e1, Int.add_sub_cancel]
    rfl
  | succ k ih =>
    intro i hi
    have e1 : rclr μ (216 * μ 129 8) (i : Int) 129 8 = μ 129 8 := if_neg (by omega)
    rw [b_199_26 hq, e1, mm_b10]
    simp (disch := omega) only [mm_wv, if_neg, mm_lex, mm_gd]
    rw [show mm_u (rclr μ (216 * μ 129 8) i) 137 (216 * μ 129 8 + i) 0 = rclr μ (216 * μ 129 8) ((i + 1 : Nat) : Int) from by
      funext x j
      unfold mm_u rclr
      by_cases q : x = 137 ∧ j = 216 * μ 129 8 + i
      · rw [if_pos q, if_pos (by omega)]
      · rw [if_neg q]
        by_cases q2 : x = 137 ∧ 216 * μ 129 8 ≤ j ∧ j < 216 * μ 129 8 + i
        · rw [if_pos q2, if_pos (by omega)]
        · rw [if_neg q2, if_neg (by omega)], show (i : Int) + 1 = ((i + 1 : Nat) : Int) by omega]
    exact ih (i + 1) (by omega)
theorem c_199 (hq : mm_P w) (hg : rg_r μ) : am_C (d + 2) 199 [.ref 129] (mm_hp w μ X n) Q ↔ if 3 ≤ μ 129 8 then Q (.inl (some (.int (Int32.ofInt (0))))) (mm_hp w (mm_u μ 129 0 1) X n) else Q (.inl (some (.int (Int32.ofInt (μ 129 8))))) (mm_hp w (mm_u (mm_u (mm_u (rclr (mm_u μ 129 0 0) (216 * μ 129 8) 216) 129 8 (μ 129 8 + 1)) 129 37 0) 129 38 0) X n) := by
  have h := hg.1
  simp only [en_199 (d := d + 1), b_199_0 hq]
  by_cases a : 3 ≤ μ 129 8
  · simp (disch := omega) only [and_self, true_and, mm_ltx, mm_lex, mm_eqx, mm_wv, mm_gd, ↓reduceIte, Int.reduceAdd, Int.reduceSub, Int.reduceNeg, Int.reduceLE, Int.reduceLT, Int.reduceMul, Int.reduceEq, if_pos, if_neg]
    rw [b_199_14 hq, d_185 (d := d) hq (by decide) (by decide) (by decide), bk_v, b_199_19 hq, show rwhy 0 1 1 = 1 from rfl]
    exact Iff.rfl
  · simp (disch := omega) only [and_self, true_and, mm_ltx, mm_lex, mm_eqx, mm_wv, mm_gd, ↓reduceIte, Int.reduceAdd, Int.reduceSub, Int.reduceNeg, Int.reduceLE, Int.reduceLT, Int.reduceMul, Int.reduceEq, if_pos, if_neg]
    rw [b_199_14 hq, d_185 (d := d) hq (by decide) (by decide) (by decide), bk_v, b_199_19 hq, show rwhy 1 1 1 = 0 from rfl, if_pos rfl, if_neg (by decide)]
    have e8 : mm_u μ 129 0 0 129 8 = μ 129 8 := mm_un (by decide)
    have hx := c_199_26 (d := d) (Q := Q) (X := X) (n := n) (μ := mm_u μ 129 0 0) hq (by rw [e8]; omega) (by rw [e8]; omega) 216 0 (by omega)
    rw [e8] at hx
    rw [show rclr (mm_u μ 129 0 0) (216 * μ 129 8) ((0 : Nat) : Int) = mm_u μ 129 0 0 from funext fun x => funext fun j => if_neg (by omega)] at hx
    exact hx
theorem rshf_s (hr : rh_r μ) {a : Int} {i : Int} (h0 : 0 ≤ i) (h1 : i < 2376) : (mm_u (mm_u (mm_u (mm_u (mm_u (rshf μ a i) 159 i (rshf μ a i 159 (i + 216))) 160 i (mm_b1 (rshf μ a i 160 (i + 216)))) 161 i (rshf μ a i 161 (i + 216))) 162 i (mm_b1 (rshf μ a i 162 (i + 216)))) 163 i (rshf μ a i 163 (i + 216))) = rshf μ a (i + 1) := by
  have hk := hr.2.2 (i + 216) (by omega) (by omega)
  have e : ∀ x, 159 ≤ x → x ≤ 163 → rshf μ a i x (i + 216) = μ x (i + 216) := by
    intro x h2 h3
    unfold rshf
    rw [if_neg (by omega), if_neg (by omega)]
  rw [e 159 (by decide) (by decide), e 160 (by decide) (by decide), e 161 (by decide) (by decide), e 162 (by decide) (by decide), e 163 (by decide) (by decide), mm_b1v hk.2.1, mm_b1v hk.2.2]
  funext x j
  simp only [mm_ux]
  by_cases q : (159 ≤ x ∧ x ≤ 163) ∧ j = i
  · obtain ⟨q1, rfl⟩ := q
    unfold rshf
    rw [if_neg (show ¬ ((157 ≤ x ∧ x ≤ 158) ∧ 0 ≤ j ∧ j < a) by omega), if_pos (show (159 ≤ x ∧ x ≤ 163) ∧ 0 ≤ j ∧ j < j + 1 by omega)]
    rcases (by omega : x = 159 ∨ x = 160 ∨ x = 161 ∨ x = 162 ∨ x = 163) with rfl | rfl | rfl | rfl | rfl <;> simp
  · rw [if_neg (by omega), if_neg (by omega), if_neg (by omega), if_neg (by omega), if_neg (by omega)]
    unfold rshf
    by_cases q1 : (157 ≤ x ∧ x ≤ 158) ∧ 0 ≤ j ∧ j < a
    · rw [if_pos q1, if_pos q1]
    · rw [if_neg q1, if_neg q1]
      by_cases q2 : (159 ≤ x ∧ x ≤ 163) ∧ 0 ≤ j ∧ j < i
      · rw [if_pos q2, if_pos (by omega)]
      · rw [if_neg q2, if_neg (by omega)]
theorem c_209_162 (hq : mm_P w) (e2 e3 : Option Value) (h2 : am_n2 e2 = true) (h3 : am_n2 e3 = true) (hu : 0 ≤ μ 129 38 ∧ μ 129 38 < 12) : am_E d 209 Q (162, [some (.ref 129), some (.int (Int32.ofInt (l))), e2, e3], [], mm_hp w μ X n) ↔ Q (.inl none) (mm_hp w (rnew μ l) X n) := by
  rw [b_209_162 hq h2 h3]
  simp (disch := omega) only [and_self, true_and, mm_ltx, mm_lex, mm_eqx, mm_wv, mm_gd, ↓reduceIte, Int.reduceAdd, Int.reduceSub, Int.reduceNeg, Int.reduceLE, Int.reduceLT, Int.reduceMul, Int.reduceEq, if_pos, if_neg, mm_uu, mm_us, mm_un]
  rfl
theorem rshf_t {a b : Int} (h0 : 0 ≤ a) : mm_u (mm_u (rshf μ a b) 157 a (rshf μ a b 157 (a + 1))) 158 a (rshf μ a b 158 (a + 1)) = rshf μ (a + 1) b := by
  have e : ∀ x, 157 ≤ x → x ≤ 158 → rshf μ a b x (a + 1) = μ x (a + 1) := by
    intro x h2 h3
    unfold rshf
    rw [if_neg (by omega), if_neg (by omega)]
  rw [e 157 (by decide) (by decide), e 158 (by decide) (by decide)]
  funext x j
  simp only [mm_ux]
  by_cases q : (157 ≤ x ∧ x ≤ 158) ∧ j = a
  · obtain ⟨q1, rfl⟩ := q
    unfold rshf
    rw [if_pos (show (157 ≤ x ∧ x ≤ 158) ∧ 0 ≤ j ∧ j < j + 1 by omega)]
    rcases (by omega : x = 157 ∨ x = 158) with rfl | rfl <;> simp
  · rw [if_neg (by omega), if_neg (by omega)]
    unfold rshf
    by_cases q1 : (157 ≤ x ∧ x ≤ 158) ∧ 0 ≤ j ∧ j < a
    · rw [if_pos q1, if_pos (by omega)]
    · rw [if_neg q1, if_neg (show ¬ ((157 ≤ x ∧ x ≤ 158) ∧ 0 ≤ j ∧ j < a + 1) by omega)]
theorem c_209_51 (hq : mm_P w) (hr : rh_r μ) : ∀ (k i e : Nat), i + k = 216 → e < 11 → (am_E d 209 Q (51, [some (.ref 129), some (.int (Int32.ofInt (l))), some (.int (Int32.ofInt ((e : Int)))), some (.int (Int32.ofInt (216 * (e : Int) + i)))], [], mm_hp w (rshf μ ((e : Int) + 1) (216 * (e : Int) + i)) X n) ↔ am_E d 209 Q (11, [some (.ref 129), some (.int (Int32.ofInt (l))), some (.int (Int32.ofInt ((e : Int) + 1))), some (.int (Int32.ofInt (216 * ((e : Int) + 1))))], [], mm_hp w (rshf μ ((e : Int) + 1) (216 * ((e : Int) + 1))) X n)) := by
  intro k
  induction k with
  | zero =>
    intro i e hi he
    have : i = 216 := by omega
    subst this
    rw [b_209_51 hq]
    simp (disch := omega) only [and_self, true_and, mm_ltx, mm_lex, mm_eqx, mm_wv, mm_gd, ↓reduceIte, Int.reduceAdd, Int.reduceSub, Int.reduceNeg, Int.reduceLE, Int.reduceLT, Int.reduceMul, Int.reduceEq, if_pos, if_neg]
    rw [show 216 * (e : Int) + ((216 : Nat) : Int) = 216 * ((e : Int) + 1) by omega]
  | succ k ih =>
    intro i e hi he
    rw [b_209_51 hq]
    simp (disch := omega) only [mm_uu, mm_lex, mm_wv, if_neg, mm_gd]
    rw [rshf_s hr (by omega) (by omega), show 216 * (e : Int) + i + 1 = 216 * (e : Int) + ((i + 1 : Nat) : Int) by omega]
    exact ih (i + 1) e (by omega) he
theorem c_209_11 (hq : mm_P w) (hr : rh_r μ) : ∀ (k e : Nat) (e3 : Option Value), am_n2 e3 = true → e + k = 11 → (am_E d 209 Q (11, [some (.ref 129), some (.int (Int32.ofInt (l))), some (.int (Int32.ofInt ((e : Int)))), e3], [], mm_hp w (rshf μ e (216 * e)) X n) ↔ Q (.inl none) (mm_hp w (rnew (mm_u (rshf μ 11 2376) 129 38 11) l) X n)) := by
  intro k
  induction k with
  | zero =>
    intro e e3 h3 he
    have : e = 11 := by omega
    subst this
    rw [b_209_11 hq h3]
    simp (disch := omega) only [and_self, true_and, mm_ltx, mm_lex, mm_eqx, mm_wv, mm_gd, ↓reduceIte, Int.reduceAdd, Int.reduceSub, Int.reduceNeg, Int.reduceLE, Int.reduceLT, Int.reduceMul, Int.reduceEq, if_pos, if_neg]
    exact c_209_162 hq _ _ rfl h3 (by rw [mm_us]; decide)
  | succ k ih =>
    intro e e3 h3 he
    rw [b_209_11 hq h3]
    simp (disch := omega) only [mm_uu, mm_lex, mm_wv, if_neg, mm_gd]
    rw [rshf_t (by omega)]
    have h := c_209_51 (d := d) (Q := Q) (X := X) (n := n) (l := l) hq hr 216 0 e (by omega) (by omega)
    rw [show 216 * (e : Int) + ((0 : Nat) : Int) = 216 * (e : Int) by omega] at h
    refine h.trans ?_
    have := ih (e + 1) (some (.int (Int32.ofInt (216 * ((e : Int) + 1))))) rfl (by omega)
    rw [show ((e + 1 : Nat) : Int) = (e : Int) + 1 by omega] at this
    exact this
theorem c_209 (hq : mm_P w) (hr : rh_r μ) : am_C (d + 1) 209 [.ref 129, .int (Int32.ofInt (l))] (mm_hp w μ X n) Q ↔ Q (.inl none) (mm_hp w (rnewE μ l) X n) := by
  have h := hr.1
  simp only [en_209, b_209_0 hq]
  unfold rnewE
  by_cases a : μ 129 38 = 12
  · simp (disch := omega) only [and_self, true_and, mm_ltx, mm_lex, mm_eqx, mm_wv, mm_gd, ↓reduceIte, Int.reduceAdd, Int.reduceSub, Int.reduceNeg, Int.reduceLE, Int.reduceLT, Int.reduceMul, Int.reduceEq, if_pos, if_neg]
    have := c_209_11 (d := d) (Q := Q) (X := X) (n := n) (l := l) hq hr 11 0 none rfl (by omega)
    rw [show rshf μ ((0 : Nat) : Int) (216 * ((0 : Nat) : Int)) = μ from funext fun x => funext fun j => by unfold rshf; rw [if_neg (by omega), if_neg (by omega)]] at this
    exact this
  · simp (disch := omega) only [and_self, true_and, mm_ltx, mm_lex, mm_eqx, mm_wv, mm_gd, ↓reduceIte, Int.reduceAdd, Int.reduceSub, Int.reduceNeg, Int.reduceLE, Int.reduceLT, Int.reduceMul, Int.reduceEq, if_pos, if_neg]
    exact c_209_162 hq _ _ rfl rfl (by omega)
theorem c_163 (hq : mm_P w) (hr : rh_r μ) (hg : rg_r μ) (h0 : 0 ≤ c ∧ c < 216) {b v : Int} (hb : b = 0 ∨ b = 1) (hu : 1 ≤ μ 129 38) (hn : μ 158 (μ 129 38 - 1) < 216) : am_C (d + 1) 163 [.ref 129, .int (Int32.ofInt (c)), .int (Int32.ofInt (b)), .int (Int32.ofInt (v))] (mm_hp w μ X n) Q ↔ Q (.inl none) (mm_hp w (rchg μ c b v) X n) := by
  have h := hr.1
  have he := hr.2.1 (μ 129 38 - 1) (by omega) (by omega)
  have hh := (hg.2 (216 * μ 157 (μ 129 38 - 1) + c) (by omega) (by omega)).1
  simp only [en_163, b_163_0 hq, mm_b1v hb]
  simp (disch := omega) only [and_self, true_and, mm_ltx, mm_lex, mm_eqx, mm_wv, mm_gd, ↓reduceIte, Int.reduceAdd, Int.reduceSub, Int.reduceNeg, Int.reduceLE, Int.reduceLT, Int.reduceMul, Int.reduceEq, if_pos, if_neg, mm_uu, mm_us, mm_un]
  rw [mm_b1v hh]
  rfl
theorem rund_row : ∀ (k : Nat) (x : Nat), x ≠ 137 → x ≠ 138 → rund μ e k x = μ x := by
  intro k
  induction k with
  | zero => intro x _ _; rfl
  | succ k ih => intro x h1 h2; unfold rund; rw [mm_uu h2, mm_uu h1, ih x h1 h2]
theorem rred_row : ∀ (k : Nat) (x : Nat), x ≠ 137 → x ≠ 138 → rred μ e k x = μ x := by
  intro k
  induction k with
  | zero => intro x _ _; rfl
  | succ k ih => intro x h1 h2; unfold rred; rw [mm_uu h2, mm_uu h1, ih x h1 h2]
theorem c_239_42 (hq : mm_P w) (hr : rh_r μ) (hu : μ 129 38 < 12) : ∀ (k i : Nat) (e2 : Option Value), am_n2 e2 = true → (i : Int) + k = μ 158 (μ 129 38) → (am_E d 239 Q (42, [some (.ref 129), some (.int (Int32.ofInt (216 * μ 129 38 + i))), e2], [], mm_hp w (rund μ (μ 129 38) i) X n) ↔ Q (.inl (some (.int (Int32.ofInt (μ 129 38))))) (mm_hp w (rund μ (μ 129 38) (i + k)) X n)) := by
  have h := hr.1
  have he := hr.2.1 (μ 129 38) h.1 hu
  intro k
  induction k with
  | zero =>
    intro i e2 h2 hi
    rw [b_239_42 hq h2]
    rw [rund_row i 129 (by decide) (by decide), rund_row i 158 (by decide) (by decide)]
    simp (disch := omega) only [and_self, true_and, mm_ltx, mm_lex, mm_eqx, mm_wv, mm_gd, ↓reduceIte, Int.reduceAdd, Int.reduceSub, Int.reduceNeg, Int.reduceLE, Int.reduceLT, Int.reduceMul, Int.reduceEq, if_pos, if_neg]
    rfl
  | succ k ih =>
    intro i e2 h2 hi
    have hk := hr.2.2 (216 * μ 129 38 + i) (by omega) (by omega)
    rw [b_239_42 hq h2]
    simp only [rund_row i 129 (by decide) (by decide), rund_row i 158 (by decide) (by decide), rund_row i 157 (by decide) (by decide), rund_row i 159 (by decide) (by decide), rund_row i 160 (by decide) (by decide), mm_uu (show (161 : Nat) ≠ 137 by decide), rund_row i 161 (by decide) (by decide)]
    simp (disch := omega) only [mm_lex, mm_wv, if_neg, mm_gd]
    rw [mm_b1v hk.2.1, show 216 * μ 129 38 + (i : Int) + 1 = 216 * μ 129 38 + ((i + 1 : Nat) : Int) by omega]
    have := ih (i + 1) (some (.int (Int32.ofInt (216 * μ 157 (μ 129 38) + μ 159 (216 * μ 129 38 + i))))) rfl (by omega)
    rw [show i + 1 + k = i + (k + 1) by omega] at this
    exact this
theorem rh_r_c {μ' : mm_M} (hr : rh_r μ) (h : ∀ x, 157 ≤ x → x ≤ 162 → μ' x = μ x) (h1 : 0 ≤ μ' 129 38 ∧ μ' 129 38 ≤ μ' 129 37 ∧ μ' 129 37 ≤ 12) : rh_r μ' := by
  refine ⟨h1, fun e h0 h6 => ?_, fun k h0 h6 => ?_⟩
  · rw [h 157 (by decide) (by decide), h 158 (by decide) (by decide)]; exact hr.2.1 e h0 h6
  · rw [h 159 (by decide) (by decide), h 160 (by decide) (by decide), h 162 (by decide) (by decide)]; exact hr.2.2 k h0 h6
theorem c_239 (hq : mm_P w) (hr : rh_r μ) : am_C (d + 2) 239 [.ref 129] (mm_hp w μ X n) Q ↔ if μ 129 38 ≤ 0 then Q (.inl (some (.int (Int32.ofInt (0))))) (mm_hp w (mm_u μ 129 0 1) X n) else Q (.inl (some (.int (Int32.ofInt (μ 129 38 - 1))))) (mm_hp w (rund (mm_u (mm_u μ 129 0 0) 129 38 (μ 129 38 - 1)) (μ 129 38 - 1) (μ 158 (μ 129 38 - 1)).toNat) X n) := by
  have h := hr.1
  simp only [en_239 (d := d + 1), b_239_0 hq]
  by_cases a : μ 129 38 ≤ 0
  · simp (disch := omega) only [and_self, true_and, mm_ltx, mm_lex, mm_eqx, mm_wv, mm_gd, ↓reduceIte, Int.reduceAdd, Int.reduceSub, Int.reduceNeg, Int.reduceLE, Int.reduceLT, Int.reduceMul, Int.reduceEq, if_pos, if_neg]
    rw [b_239_13 hq, d_185 (d := d) hq (by decide) (by decide) (by decide), bk_v, b_239_18 hq, show rwhy 0 1 1 = 1 from rfl]
    exact Iff.rfl
  · simp (disch := omega) only [and_self, true_and, mm_ltx, mm_lex, mm_eqx, mm_wv, mm_gd, ↓reduceIte, Int.reduceAdd, Int.reduceSub, Int.reduceNeg, Int.reduceLE, Int.reduceLT, Int.reduceMul, Int.reduceEq, if_pos, if_neg]
    rw [b_239_13 hq, d_185 (d := d) hq (by decide) (by decide) (by decide), bk_v, b_239_18 hq, show rwhy 1 1 1 = 0 from rfl, if_pos rfl, if_neg (by decide)]
    rw [mm_us, mm_un (show (38 : Int) ≠ 0 by decide)]
    have e38 : mm_u (mm_u μ 129 0 0) 129 38 (μ 129 38 - 1) 129 38 = μ 129 38 - 1 := mm_us
    have e37 : mm_u (mm_u μ 129 0 0) 129 38 (μ 129 38 - 1) 129 37 = μ 129 37 := by rw [mm_un (by decide), mm_un (by decide)]
    have he := hr.2.1 (μ 129 38 - 1) (by omega) (by omega)
    have hx := c_239_42 (d := d + 1) (Q := Q) (X := X) (n := n) (μ := mm_u (mm_u μ 129 0 0) 129 38 (μ 129 38 - 1)) hq (rh_r_c hr (fun x h1 h2 => by rw [mm_uu (by omega), mm_uu (by omega)]) (by rw [e38, e37]; omega)) (by rw [e38]; omega) (μ 158 (μ 129 38 - 1)).toNat 0 none rfl (by rw [e38, mm_uu (by decide), mm_uu (by decide)]; omega)
    rw [e38, Nat.zero_add, show 216 * (μ 129 38 - 1) + ((0 : Nat) : Int) = 216 * (μ 129 38 - 1) by omega] at hx
    exact hx
theorem c_221_36 (hq : mm_P w) (hr : rh_r μ) (hu : μ 129 38 < 12) : ∀ (k i : Nat) (e2 : Option Value), am_n2 e2 = true → (i : Int) + k = μ 158 (μ 129 38) → (am_E d 221 Q (36, [some (.ref 129), some (.int (Int32.ofInt (216 * μ 129 38 + i))), e2], [], mm_hp w (rred μ (μ 129 38) i) X n) ↔ Q (.inl (some (.int (Int32.ofInt (μ 129 37 - (μ 129 38 + 1)))))) (mm_hp w (mm_u (rred μ (μ 129 38) (i + k)) 129 38 (μ 129 38 + 1)) X n)) := by
  have h := hr.1
  have he := hr.2.1 (μ 129 38) h.1 hu
  intro k
  induction k with
  | zero =>
    intro i e2 h2 hi
    rw [b_221_36 hq h2]
    rw [mm_us, mm_un (show (37 : Int) ≠ 38 by decide), rred_row i 129 (by decide) (by decide), rred_row i 158 (by decide) (by decide)]
    simp (disch := omega) only [and_self, true_and, mm_ltx, mm_lex, mm_eqx, mm_wv, mm_gd, ↓reduceIte, Int.reduceAdd, Int.reduceSub, Int.reduceNeg, Int.reduceLE, Int.reduceLT, Int.reduceMul, Int.reduceEq, if_pos, if_neg]
    rfl
  | succ k ih =>
    intro i e2 h2 hi
    have hk := hr.2.2 (216 * μ 129 38 + i) (by omega) (by omega)
    rw [b_221_36 hq h2]
    simp only [rred_row i 129 (by decide) (by decide), rred_row i 158 (by decide) (by decide), rred_row i 157 (by decide) (by decide), rred_row i 159 (by decide) (by decide), rred_row i 162 (by decide) (by decide), mm_uu (show (163 : Nat) ≠ 137 by decide), rred_row i 163 (by decide) (by decide)]
    simp (disch := omega) only [mm_lex, mm_wv, if_neg, mm_gd]
    rw [mm_b1v hk.2.2, show 216 * μ 129 38 + (i : Int) + 1 = 216 * μ 129 38 + ((i + 1 : Nat) : Int) by omega]
    have := ih (i + 1) (some (.int (Int32.ofInt (216 * μ 157 (μ 129 38) + μ 159 (216 * μ 129 38 + i))))) rfl (by omega)
    rw [show i + 1 + k = i + (k + 1) by omega] at this
    exact this
theorem c_221 (hq : mm_P w) (hr : rh_r μ) : am_C (d + 2) 221 [.ref 129] (mm_hp w μ X n) Q ↔ if μ 129 37 ≤ μ 129 38 then Q (.inl (some (.int (Int32.ofInt (0))))) (mm_hp w (mm_u μ 129 0 1) X n) else Q (.inl (some (.int (Int32.ofInt (μ 129 37 - (μ 129 38 + 1)))))) (mm_hp w (mm_u (rred (mm_u μ 129 0 0) (μ 129 38) (μ 158 (μ 129 38)).toNat) 129 38 (μ 129 38 + 1)) X n) := by
  have h := hr.1
  simp only [en_221 (d := d + 1), b_221_0 hq]
  by_cases a : μ 129 37 ≤ μ 129 38
  · simp (disch := omega) only [and_self, true_and, mm_ltx, mm_lex, mm_eqx, mm_wv, mm_gd, ↓reduceIte, Int.reduceAdd, Int.reduceSub, Int.reduceNeg, Int.reduceLE, Int.reduceLT, Int.reduceMul, Int.reduceEq, if_pos, if_neg]
    rw [b_221_17 hq, d_185 (d := d) hq (by decide) (by decide) (by decide), bk_v, b_221_22 hq, show rwhy 0 1 1 = 1 from rfl]
    exact Iff.rfl
  · simp (disch := omega) only [and_self, true_and, mm_ltx, mm_lex, mm_eqx, mm_wv, mm_gd, ↓reduceIte, Int.reduceAdd, Int.reduceSub, Int.reduceNeg, Int.reduceLE, Int.reduceLT, Int.reduceMul, Int.reduceEq, if_pos, if_neg]
    rw [b_221_17 hq, d_185 (d := d) hq (by decide) (by decide) (by decide), bk_v, b_221_22 hq, show rwhy 1 1 1 = 0 from rfl, if_pos rfl, if_neg (by decide)]
    have e38 : mm_u μ 129 0 0 129 38 = μ 129 38 := mm_un (by decide)
    have e37 : mm_u μ 129 0 0 129 37 = μ 129 37 := mm_un (by decide)
    have he := hr.2.1 (μ 129 38) (by omega) (by omega)
    have hx := c_221_36 (d := d + 1) (Q := Q) (X := X) (n := n) (μ := mm_u μ 129 0 0) hq (rh_r_c hr (fun x h1 h2 => by rw [mm_uu (by omega)]) (by rw [e38, e37]; exact h)) (by rw [e38]; omega) (μ 158 (μ 129 38)).toNat 0 none rfl (by rw [e38, mm_uu (by decide)]; omega)
    rw [e38, e37, Nat.zero_add, show 216 * μ 129 38 + ((0 : Nat) : Int) = 216 * μ 129 38 by omega] at hx
    rw [e38]
    exact hx
end RG
