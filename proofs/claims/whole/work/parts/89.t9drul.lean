/-! The reference drops a rule. -/
/-- rows lo to hi come down by s, from t on, k of them -/
def mm_sf (μ : mm_M) (lo hi : Nat) (t k s : Int) : mm_M := fun x j => if (lo ≤ x ∧ x ≤ hi) ∧ t ≤ j ∧ j < t + k then μ x (j + s) else μ x j
def rmvB (μ : mm_M) (i : Int) : mm_M := mm_u (mm_u (mm_sf μ 139 140 (3 * i) 3 3) 141 i (mm_sf μ 139 140 (3 * i) 3 3 141 (i + 1))) 145 i (mm_u (mm_sf μ 139 140 (3 * i) 3 3) 141 i (mm_sf μ 139 140 (3 * i) 3 3 141 (i + 1)) 145 (i + 1))
def rmv1 (μ : mm_M) (i : Int) : mm_M := mm_sf (mm_sf (rmvB μ i) 142 144 (64 * i) 64 64) 146 147 (24 * i) 24 24
def rmvs : Nat → Int → mm_M → mm_M
  | 0, _, μ => μ
  | k + 1, i, μ => rmvs k (i + 1) (rmv1 μ i)
section DL
variable {d : Nat} {Q : am_Ou → am_G → Prop} {w : mm_Z} {μ : mm_M} {X : mm_X} {n : mm_N} {r t k s : Int} {lo hi : Nat}
theorem sf_0 : mm_sf μ lo hi t 0 s = μ := by
  funext x j
  unfold mm_sf
  rw [if_neg (by omega)]
theorem sf_at {x : Nat} {j : Int} (h : ¬ ((lo ≤ x ∧ x ≤ hi) ∧ t ≤ j ∧ j < t + k)) : mm_sf μ lo hi t k s x j = μ x j := if_neg h
theorem sf_n {x : Nat} (hk : 0 ≤ k) (j : Int) (h : j ≠ t + k ∨ x < lo ∨ hi < x) : mm_sf μ lo hi t (k + 1) s x j = mm_sf μ lo hi t k s x j := by
  unfold mm_sf
  by_cases q : (lo ≤ x ∧ x ≤ hi) ∧ t ≤ j ∧ j < t + k
  · rw [if_pos q, if_pos ⟨q.1, q.2.1, by omega⟩]
  · rw [if_neg q, if_neg (by omega)]
theorem sf_e {x : Nat} (hk : 0 ≤ k) (h : lo ≤ x ∧ x ≤ hi) : mm_sf μ lo hi t (k + 1) s x (t + k) = μ x (t + k + s) := by
  unfold mm_sf
  rw [if_pos ⟨h, by omega, by omega⟩]
theorem sf_2 (hk : 0 ≤ k) (hs : 0 ≤ s) : mm_u (mm_u (mm_sf μ lo (lo + 1) t k s) lo (t + k) (μ lo (t + k + s))) (lo + 1) (t + k) (μ (lo + 1) (t + k + s)) = mm_sf μ lo (lo + 1) t (k + 1) s := by
  funext x j
  rw [mm_ux, mm_ux]
  by_cases a : x = lo + 1 ∧ j = t + k
  · rw [if_pos a, a.1, a.2, sf_e hk (by omega)]
  · rw [if_neg a]
    by_cases b : x = lo ∧ j = t + k
    · rw [if_pos b, b.1, b.2, sf_e hk (by omega)]
    · rw [if_neg b, sf_n hk j (by omega)]
theorem sf_3 (hk : 0 ≤ k) (hs : 0 ≤ s) : mm_u (mm_u (mm_u (mm_sf μ lo (lo + 2) t k s) lo (t + k) (μ lo (t + k + s))) (lo + 1) (t + k) (μ (lo + 1) (t + k + s))) (lo + 2) (t + k) (μ (lo + 2) (t + k + s)) = mm_sf μ lo (lo + 2) t (k + 1) s := by
  funext x j
  rw [mm_ux, mm_ux, mm_ux]
  by_cases a : x = lo + 2 ∧ j = t + k
  · rw [if_pos a, a.1, a.2, sf_e hk (by omega)]
  · rw [if_neg a]
    by_cases b : x = lo + 1 ∧ j = t + k
    · rw [if_pos b, b.1, b.2, sf_e hk (by omega)]
    · rw [if_neg b]
      by_cases c : x = lo ∧ j = t + k
      · rw [if_pos c, c.1, c.2, sf_e hk (by omega)]
      · rw [if_neg c, sf_n hk j (by omega)]
theorem c_171_216 (hq : mm_P w) {x1 x2 : Int} (h2 : 0 ≤ x2 ∧ x2 < 7) : ∀ (k : Nat) (i : Int), 0 ≤ i → i + k = 24 → (am_E (d + 1) 171 Q (216, [some (.ref 129), some (.int (Int32.ofInt (x1))), some (.int (Int32.ofInt (x2))), some (.int (Int32.ofInt (i)))], [], mm_hp w (mm_sf μ 146 147 (24 * x2) i 24) X n) ↔ am_E (d + 1) 171 Q (30, [some (.ref 129), some (.int (Int32.ofInt (x1))), some (.int (Int32.ofInt (x2 + 1))), some (.int (Int32.ofInt (24)))], [], mm_hp w (mm_sf μ 146 147 (24 * x2) 24 24) X n)) := by
  intro k
  induction k with
  | zero =>
    intro i i0 hi
    have : i = 24 := by omega
    subst this
    rw [b_171_216 hq, if_pos (by decide)]
  | succ k ih =>
    intro i i0 hi
    have v6 : mm_sf μ 146 147 (24 * x2) i 24 146 (24 * x2 + 24 + i) = μ 146 (24 * x2 + i + 24) := by rw [sf_at (by omega), show 24 * x2 + 24 + i = 24 * x2 + i + 24 by omega]
    have v7 : mm_sf μ 146 147 (24 * x2) i 24 147 (24 * x2 + 24 + i) = μ 147 (24 * x2 + i + 24) := by rw [sf_at (by omega), show 24 * x2 + 24 + i = 24 * x2 + i + 24 by omega]
    rw [b_171_216 hq, if_neg (by rw [mm_lex, mm_wv (by omega) (by omega), mm_wv (by omega) (by omega)]; omega)]
    simp (disch := omega) only [and_self, true_and, mm_ltx, mm_lex, mm_eqx, mm_wv, mm_gd, ↓reduceIte, Int.reduceAdd, Int.reduceSub, Int.reduceNeg, Int.reduceLE, Int.reduceLT, Int.reduceMul, Int.reduceEq, mm_uu (show (147 : Nat) ≠ 146 by decide), v6, v7]
    have := sf_2 (μ := μ) (lo := 146) (t := 24 * x2) (k := i) (s := 24) i0 (by decide)
    rw [this]
    exact ih (i + 1) (by omega) (by omega)
theorem c_171_127 (hq : mm_P w) {x1 x2 : Int} (h2 : 0 ≤ x2 ∧ x2 < 7) : ∀ (k : Nat) (i : Int), 0 ≤ i → i + k = 64 → (am_E (d + 1) 171 Q (127, [some (.ref 129), some (.int (Int32.ofInt (x1))), some (.int (Int32.ofInt (x2))), some (.int (Int32.ofInt (i)))], [], mm_hp w (mm_sf μ 142 144 (64 * x2) i 64) X n) ↔ am_E (d + 1) 171 Q (216, [some (.ref 129), some (.int (Int32.ofInt (x1))), some (.int (Int32.ofInt (x2))), some (.int (Int32.ofInt (0)))], [], mm_hp w (mm_sf μ 142 144 (64 * x2) 64 64) X n)) := by
  intro k
  induction k with
  | zero =>
    intro i i0 hi
    have : i = 64 := by omega
    subst this
    rw [b_171_127 hq, if_pos (by decide)]
  | succ k ih =>
    intro i i0 hi
    have v : ∀ x : Nat, mm_sf μ 142 144 (64 * x2) i 64 x (64 * x2 + 64 + i) = μ x (64 * x2 + i + 64) := fun x => by rw [sf_at (by omega), show 64 * x2 + 64 + i = 64 * x2 + i + 64 by omega]
    rw [b_171_127 hq, if_neg (by rw [mm_lex, mm_wv (by omega) (by omega), mm_wv (by omega) (by omega)]; omega)]
    simp (disch := omega) only [and_self, true_and, mm_ltx, mm_lex, mm_eqx, mm_wv, mm_gd, ↓reduceIte, Int.reduceAdd, Int.reduceSub, Int.reduceNeg, Int.reduceLE, Int.reduceLT, Int.reduceMul, Int.reduceEq, mm_uu (show (143 : Nat) ≠ 142 by decide), mm_uu (show (144 : Nat) ≠ 142 by decide), mm_uu (show (144 : Nat) ≠ 143 by decide), v]
    have := sf_3 (μ := μ) (lo := 142) (t := 64 * x2) (k := i) (s := 64) i0 (by decide)
    rw [this]
    exact ih (i + 1) (by omega) (by omega)
theorem c_171_42 (hq : mm_P w) {x1 x2 : Int} (h2 : 0 ≤ x2 ∧ x2 < 7) : ∀ (k : Nat) (i : Int), 0 ≤ i → i + k = 3 → (am_E (d + 1) 171 Q (42, [some (.ref 129), some (.int (Int32.ofInt (x1))), some (.int (Int32.ofInt (x2))), some (.int (Int32.ofInt (i)))], [], mm_hp w (mm_sf μ 139 140 (3 * x2) i 3) X n) ↔ am_E (d + 1) 171 Q (127, [some (.ref 129), some (.int (Int32.ofInt (x1))), some (.int (Int32.ofInt (x2))), some (.int (Int32.ofInt (0)))], [], mm_hp w (rmvB μ x2) X n)) := by
  intro k
  induction k with
  | zero =>
    intro i i0 hi
    have : i = 3 := by omega
    subst this
    rw [b_171_42 hq, if_pos (by decide)]
    simp (disch := omega) only [and_self, true_and, mm_ltx, mm_lex, mm_eqx, mm_wv, mm_gd, ↓reduceIte, Int.reduceAdd, Int.reduceSub, Int.reduceNeg, Int.reduceLE, Int.reduceLT, Int.reduceMul, Int.reduceEq]
    rfl
  | succ k ih =>
    intro i i0 hi
    have v : ∀ x : Nat, mm_sf μ 139 140 (3 * x2) i 3 x (3 * x2 + 3 + i) = μ x (3 * x2 + i + 3) := fun x => by rw [sf_at (by omega), show 3 * x2 + 3 + i = 3 * x2 + i + 3 by omega]
    rw [b_171_42 hq, if_neg (by rw [mm_lex, mm_wv (by omega) (by omega), mm_wv (by omega) (by omega)]; omega)]
    simp (disch := omega) only [and_self, true_and, mm_ltx, mm_lex, mm_eqx, mm_wv, mm_gd, ↓reduceIte, Int.reduceAdd, Int.reduceSub, Int.reduceNeg, Int.reduceLE, Int.reduceLT, Int.reduceMul, Int.reduceEq, mm_uu (show (140 : Nat) ≠ 139 by decide), v]
    have := sf_2 (μ := μ) (lo := 139) (t := 3 * x2) (k := i) (s := 3) i0 (by decide)
    rw [this]
    exact ih (i + 1) (by omega) (by omega)
theorem rmv1_129 {i : Int} : rmv1 μ i 129 = μ 129 := by
  funext j
  unfold rmv1
  rw [sf_at (by omega), sf_at (by omega)]
  unfold rmvB
  rw [mm_uu (by decide), mm_uu (by decide), sf_at (by omega)]
theorem rmvs_129 : ∀ (k : Nat) (i : Int) (μ : mm_M), rmvs k i μ 129 = μ 129 := by
  intro k
  induction k with
  | zero => intro i μ; rfl
  | succ k ih =>
    intro i μ
    unfold rmvs
    rw [ih, rmv1_129]
theorem c_171_30 (hq : mm_P w) {x1 : Int} : ∀ (k : Nat) (i : Int) (μ : mm_M) (e3 : Option Value), am_n2 e3 = true → 0 ≤ i → i + 1 + k = μ 129 11 → μ 129 11 ≤ 8 → (am_E (d + 1) 171 Q (30, [some (.ref 129), some (.int (Int32.ofInt (x1))), some (.int (Int32.ofInt (i))), e3], [], mm_hp w μ X n) ↔ Q (.inl (some (.int (Int32.ofInt (μ 129 11 - 1))))) (mm_hp w (mm_u (mm_u (mm_u (rmvs k i μ) 129 11 (μ 129 11 - 1)) 129 37 0) 129 38 0) X n)) := by
  intro k
  induction k with
  | zero =>
    intro i μ e3 h3 i0 hi h8
    rw [b_171_30 hq h3, if_pos (by rw [mm_lex, mm_wv (by omega) (by omega), mm_wv (by omega) (by omega)]; omega), c_182 (d := d) hq, bk_n, b_171_298 hq h3, mm_un (by decide), mm_un (by decide), mm_us]
    rfl
  | succ k ih =>
    intro i μ e3 h3 i0 hi h8
    have h1 := c_171_42 (d := d) (Q := Q) (X := X) (n := n) (μ := μ) (x1 := x1) (x2 := i) hq (by omega) 3 0 (by decide) (by decide)
    rw [sf_0] at h1
    have h2 := c_171_127 (d := d) (Q := Q) (X := X) (n := n) (μ := rmvB μ i) (x1 := x1) (x2 := i) hq (by omega) 64 0 (by decide) (by decide)
    rw [sf_0] at h2
    have h4 := c_171_216 (d := d) (Q := Q) (X := X) (n := n) (μ := mm_sf (rmvB μ i) 142 144 (64 * i) 64 64) (x1 := x1) (x2 := i) hq (by omega) 24 0 (by decide) (by decide)
    rw [sf_0] at h4
    rw [b_171_30 hq h3, if_neg (by rw [mm_lex, mm_wv (by omega) (by omega), mm_wv (by omega) (by omega)]; omega), h1, h2, h4]
    have e11 : rmv1 μ i 129 11 = μ 129 11 := by rw [rmv1_129]
    have := ih (i + 1) (rmv1 μ i) (some (.int (Int32.ofInt (24)))) rfl (by omega) (by rw [e11]; omega) (by rw [e11]; exact h8)
    rw [e11] at this
    exact this
theorem c_171 (hq : mm_P w) (hr : rr_r μ) (h1 : -2147483648 ≤ r) (h2 : r ≤ 2147483647) : am_C (d + 2) 171 [.ref 129, .int (Int32.ofInt (r))] (mm_hp w μ X n) Q ↔ if ¬ (0 ≤ r ∧ r < μ 129 11) then Q (.inl (some (.int (Int32.ofInt (0))))) (mm_hp w (mm_u μ 129 0 1) X n) else Q (.inl (some (.int (Int32.ofInt (μ 129 11 - 1))))) (mm_hp w (mm_u (mm_u (mm_u (rmvs (μ 129 11 - 1 - r).toNat r (mm_u μ 129 0 0)) 129 11 (μ 129 11 - 1)) 129 37 0) 129 38 0) X n) := by
  have h11 := hr.1
  have w1 : rwhy 0 1 1 = 1 := by decide
  have w2 : rwhy 1 1 1 = 0 := by decide
  rw [en_171 (d := d + 1), b_171_0 hq]
  have s0 : am_E (d + 1) 171 Q (18, [some (.ref 129), some (.int (Int32.ofInt (r))), none, none], [.int (Int32.ofInt (0)), .ref 129], mm_hp w μ X n) ↔ Q (.inl (some (.int (Int32.ofInt (0))))) (mm_hp w (mm_u μ 129 0 1) X n) := by
    rw [b_171_18 hq, d_185 (d := d) hq (Or.inl rfl) (Or.inr rfl) (Or.inr rfl), bk_v, b_171_23 hq, w1, if_pos (by decide)]
  by_cases a : r < 0
  · rw [if_pos (by rw [mm_ltx, mm_wv (by omega) (by omega), mm_wv (by omega) (by omega)]; exact a), b_171_17 hq, s0, if_pos (show ¬ (0 ≤ r ∧ r < μ 129 11) by omega)]
  · rw [if_neg (by rw [mm_ltx, mm_wv (by omega) (by omega), mm_wv (by omega) (by omega)]; exact a)]
    by_cases b : μ 129 11 ≤ r
    · rw [if_pos (by rw [mm_lex, mm_wv (by omega) (by omega), mm_wv (by omega) (by omega)]; exact b), b_171_17 hq, s0, if_pos (show ¬ (0 ≤ r ∧ r < μ 129 11) by omega)]
    · rw [if_neg (by rw [mm_lex, mm_wv (by omega) (by omega), mm_wv (by omega) (by omega)]; exact b), if_neg (show ¬ ¬ (0 ≤ r ∧ r < μ 129 11) by omega), b_171_18 hq, d_185 (d := d) hq (Or.inr rfl) (Or.inr rfl) (Or.inr rfl), bk_v, b_171_23 hq, w2, if_neg (by decide)]
      have e11 : mm_u μ 129 0 0 129 11 = μ 129 11 := by rw [mm_un (by decide)]
      have := c_171_30 (d := d) (Q := Q) (X := X) (n := n) (x1 := r) hq (μ 129 11 - 1 - r).toNat r (mm_u μ 129 0 0) none rfl (by omega) (by rw [e11]; omega) (by rw [e11]; omega)
      rw [e11] at this
      exact this
end DL
