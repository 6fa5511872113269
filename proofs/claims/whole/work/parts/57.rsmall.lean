/-! The reference's small methods. -/
def rpart (c e : Int) : Int := if e = 0 then c % 6 else if e = 1 then c / 6 % 6 else c / 36
def rhere (μ : mm_M) : Int := if μ 130 (μ 136 0) ≠ 0 ∧ μ 130 (6 + μ 136 1) ≠ 0 ∧ μ 130 (12 + μ 136 2) ≠ 0 then μ 136 0 + 6 * μ 136 1 + 36 * μ 136 2 else -1
def rlay (μ : mm_M) (c : Int) : Nat → Int
  | 0 => -1
  | k + 1 => if μ 137 (216 * k + c) = 0 then rlay μ c k else k
def rwhy (a b c : Int) : Int := if a = 0 then 1 else if b = 0 then 2 else if c = 0 then 3 else 0
/-- a member is a leaf, as the reference sees it -/
def rlf (μ : mm_M) (e m : Int) : Prop := sp_fc (rp μ e) m = -1
def rt_a (μ : mm_M) : Prop := ∀ e, 0 ≤ e → e < 3 → rt_r μ e
section RS
variable {d : Nat} {Q : am_Ou → am_G → Prop} {w : mm_Z} {μ : mm_M} {X : mm_X} {n : mm_N} {e m c : Int}
theorem rpart_b (h0 : 0 ≤ c) (h1 : c < 216) : 0 ≤ rpart c e ∧ rpart c e < 6 := by
  unfold rpart
  split
  · omega
  · split <;> omega
theorem d_185 (hq : mm_P w) {a b c : Int} (ha : a = 0 ∨ a = 1) (hb : b = 0 ∨ b = 1) (hc : c = 0 ∨ c = 1) : am_C (d + 1) 185 [.ref 129, .int (Int32.ofInt (a)), .int (Int32.ofInt (b)), .int (Int32.ofInt (c))] (mm_hp w μ X n) Q ↔ Q (.inl (some (.int (Int32.ofInt (if rwhy a b c = 0 then 1 else 0))))) (mm_hp w (mm_u μ 129 0 (rwhy a b c)) X n) := by
  have key : ∀ t, -5 ≤ t → t ≤ 5 → (am_E d 185 Q (26, [some (.ref 129), some (.int (Int32.ofInt (a))), some (.int (Int32.ofInt (b))), some (.int (Int32.ofInt (c)))], [.int (Int32.ofInt (t)), .ref 129], mm_hp w μ X n) ↔ Q (.inl (some (.int (Int32.ofInt (if t = 0 then 1 else 0))))) (mm_hp w (mm_u μ 129 0 t) X n)) := by
    intro t h1 h2
    rw [b_185_26 hq]
    by_cases e : t = 0
    · simp (disch := omega) only [mm_us, and_self, true_and, mm_ltx, mm_lex, mm_eqx, mm_wv, mm_gd, ↓reduceIte, Int.reduceAdd, Int.reduceSub, Int.reduceNeg, Int.reduceLE, Int.reduceLT, Int.reduceMul, Int.reduceEq, if_pos, if_neg]
    · simp (disch := omega) only [mm_us, and_self, true_and, mm_ltx, mm_lex, mm_eqx, mm_wv, mm_gd, ↓reduceIte, Int.reduceAdd, Int.reduceSub, Int.reduceNeg, Int.reduceLE, Int.reduceLT, Int.reduceMul, Int.reduceEq, if_pos, if_neg]
  simp only [en_185, b_185_0 hq]
  unfold rwhy
  by_cases e1 : a = 0
  · simp (disch := omega) only [and_self, true_and, mm_ltx, mm_lex, mm_eqx, mm_wv, mm_gd, ↓reduceIte, Int.reduceAdd, Int.reduceSub, Int.reduceNeg, Int.reduceLE, Int.reduceLT, Int.reduceMul, Int.reduceEq, if_pos, if_neg]
    exact key 1 (by decide) (by decide)
  · by_cases e2 : b = 0
    · simp (disch := omega) only [and_self, true_and, mm_ltx, mm_lex, mm_eqx, mm_wv, mm_gd, ↓reduceIte, Int.reduceAdd, Int.reduceSub, Int.reduceNeg, Int.reduceLE, Int.reduceLT, Int.reduceMul, Int.reduceEq, if_pos, if_neg]
      exact key 2 (by decide) (by decide)
    · by_cases e3 : c = 0
      · simp (disch := omega) only [and_self, true_and, mm_ltx, mm_lex, mm_eqx, mm_wv, mm_gd, ↓reduceIte, Int.reduceAdd, Int.reduceSub, Int.reduceNeg, Int.reduceLE, Int.reduceLT, Int.reduceMul, Int.reduceEq, if_pos, if_neg]
        exact key 3 (by decide) (by decide)
      · simp (disch := omega) only [and_self, true_and, mm_ltx, mm_lex, mm_eqx, mm_wv, mm_gd, ↓reduceIte, Int.reduceAdd, Int.reduceSub, Int.reduceNeg, Int.reduceLE, Int.reduceLT, Int.reduceMul, Int.reduceEq, if_pos, if_neg]
        exact key 0 (by decide) (by decide)
theorem d_192 (h1 : -2147483648 ≤ e) (h2 : e ≤ 2147483647) (hq : mm_P w) : am_C (d + 1) 192 [.int (Int32.ofInt (e))] (mm_hp w μ X n) Q ↔ Q (.inl (some (.int (Int32.ofInt (if 0 ≤ e ∧ e < 3 then 1 else 0))))) (mm_hp w μ X n) := by
  simp only [en_192, b_192_0 hq]
  by_cases e1 : e < 0
  · simp (disch := omega) only [and_self, true_and, mm_ltx, mm_lex, mm_eqx, mm_wv, mm_gd, ↓reduceIte, Int.reduceAdd, Int.reduceSub, Int.reduceNeg, Int.reduceLE, Int.reduceLT, Int.reduceMul, Int.reduceEq, if_pos, if_neg]
  · by_cases e2 : e < 3
    · simp (disch := omega) only [and_self, true_and, mm_ltx, mm_lex, mm_eqx, mm_wv, mm_gd, ↓reduceIte, Int.reduceAdd, Int.reduceSub, Int.reduceNeg, Int.reduceLE, Int.reduceLT, Int.reduceMul, Int.reduceEq, if_pos, if_neg]
    · simp (disch := omega) only [and_self, true_and, mm_ltx, mm_lex, mm_eqx, mm_wv, mm_gd, ↓reduceIte, Int.reduceAdd, Int.reduceSub, Int.reduceNeg, Int.reduceLE, Int.reduceLT, Int.reduceMul, Int.reduceEq, if_pos, if_neg]
theorem c_193 (h1 : -2147483648 ≤ e) (h2 : e ≤ 2147483647) (hq : mm_P w) (hl : 1 ≤ μ 129 8 ∧ μ 129 8 ≤ 3) : am_C (d + 1) 193 [.ref 129, .int (Int32.ofInt (e))] (mm_hp w μ X n) Q ↔ Q (.inl (some (.int (Int32.ofInt (if 0 ≤ e ∧ e < μ 129 8 then 1 else 0))))) (mm_hp w μ X n) := by
  simp only [en_193, b_193_0 hq]
  by_cases e1 : e < 0
  · simp (disch := omega) only [and_self, true_and, mm_ltx, mm_lex, mm_eqx, mm_wv, mm_gd, ↓reduceIte, Int.reduceAdd, Int.reduceSub, Int.reduceNeg, Int.reduceLE, Int.reduceLT, Int.reduceMul, Int.reduceEq, if_pos, if_neg]
  · by_cases e2 : e < μ 129 8
    · simp (disch := omega) only [and_self, true_and, mm_ltx, mm_lex, mm_eqx, mm_wv, mm_gd, ↓reduceIte, Int.reduceAdd, Int.reduceSub, Int.reduceNeg, Int.reduceLE, Int.reduceLT, Int.reduceMul, Int.reduceEq, if_pos, if_neg]
    · simp (disch := omega) only [and_self, true_and, mm_ltx, mm_lex, mm_eqx, mm_wv, mm_gd, ↓reduceIte, Int.reduceAdd, Int.reduceSub, Int.reduceNeg, Int.reduceLE, Int.reduceLT, Int.reduceMul, Int.reduceEq, if_pos, if_neg]
theorem d_196 (h1 : -2147483648 ≤ e) (h2 : e ≤ 2147483647) (g1 : -2147483648 ≤ m) (g2 : m ≤ 2147483647) (hq : mm_P w) (hr : rt_a μ) : am_C (d + 2) 196 [.ref 129, .int (Int32.ofInt (e)), .int (Int32.ofInt (m))] (mm_hp w μ X n) Q ↔ Q (.inl (some (.int (Int32.ofInt (if 0 ≤ e ∧ e < 3 ∧ 0 ≤ m ∧ m < 6 ∧ μ 130 (6 * e + m) ≠ 0 then 1 else 0))))) (mm_hp w μ X n) := by
  simp only [en_196 (d := d + 1), b_196_0 hq, d_192 (d := d) h1 h2 hq, bk_v, Nat.reduceAdd, b_196_4 hq]
  by_cases e1 : 0 ≤ e ∧ e < 3
  · rw [if_pos e1]
    by_cases e2 : 0 ≤ m ∧ m < 6
    · have := (hr e e1.1 e1.2 m e2.1 e2.2).1
      by_cases e3 : μ 130 (6 * e + m) = 0
      · simp (disch := omega) only [and_self, true_and, mm_ltx, mm_lex, mm_eqx, mm_wv, mm_gd, ↓reduceIte, Int.reduceAdd, Int.reduceSub, Int.reduceNeg, Int.reduceLE, Int.reduceLT, Int.reduceMul, Int.reduceEq, if_pos, if_neg]
      · simp (disch := omega) only [and_self, true_and, mm_ltx, mm_lex, mm_eqx, mm_wv, mm_gd, ↓reduceIte, Int.reduceAdd, Int.reduceSub, Int.reduceNeg, Int.reduceLE, Int.reduceLT, Int.reduceMul, Int.reduceEq, if_pos, if_neg]
    · by_cases e4 : m < 0
      · simp (disch := omega) only [and_self, true_and, mm_ltx, mm_lex, mm_eqx, mm_wv, mm_gd, ↓reduceIte, Int.reduceAdd, Int.reduceSub, Int.reduceNeg, Int.reduceLE, Int.reduceLT, Int.reduceMul, Int.reduceEq, if_pos, if_neg]
      · simp (disch := omega) only [and_self, true_and, mm_ltx, mm_lex, mm_eqx, mm_wv, mm_gd, ↓reduceIte, Int.reduceAdd, Int.reduceSub, Int.reduceNeg, Int.reduceLE, Int.reduceLT, Int.reduceMul, Int.reduceEq, if_pos, if_neg]
  · simp (disch := omega) only [and_self, true_and, mm_ltx, mm_lex, mm_eqx, mm_wv, mm_gd, ↓reduceIte, Int.reduceAdd, Int.reduceSub, Int.reduceNeg, Int.reduceLE, Int.reduceLT, Int.reduceMul, Int.reduceEq, if_pos, if_neg]
theorem d_213 (hq : mm_P w) (h0 : 0 ≤ c) (h1 : c < 216) (he : 0 ≤ e ∧ e < 3) : am_C (d + 1) 213 [.int (Int32.ofInt (c)), .int (Int32.ofInt (e))] (mm_hp w μ X n) Q ↔ Q (.inl (some (.int (Int32.ofInt (rpart c e))))) (mm_hp w μ X n) := by
  simp only [en_213, b_213_0 hq]
  unfold rpart
  by_cases e1 : e = 0
  · simp (disch := omega) only [and_self, true_and, mm_ltx, mm_lex, mm_eqx, mm_wv, mm_gd, ↓reduceIte, Int.reduceAdd, Int.reduceSub, Int.reduceNeg, Int.reduceLE, Int.reduceLT, Int.reduceMul, Int.reduceEq, mm_dvp, if_pos, if_neg]
    rw [show c - c / 6 * 6 = c % 6 by omega]
  · by_cases e2 : e = 1
    · simp (disch := omega) only [and_self, true_and, mm_ltx, mm_lex, mm_eqx, mm_wv, mm_gd, ↓reduceIte, Int.reduceAdd, Int.reduceSub, Int.reduceNeg, Int.reduceLE, Int.reduceLT, Int.reduceMul, Int.reduceEq, mm_dvp, if_pos, if_neg]
      rw [show c / 6 - c / 6 / 6 * 6 = c / 6 % 6 by omega]
    · simp (disch := omega) only [and_self, true_and, mm_ltx, mm_lex, mm_eqx, mm_wv, mm_gd, ↓reduceIte, Int.reduceAdd, Int.reduceSub, Int.reduceNeg, Int.reduceLE, Int.reduceLT, Int.reduceMul, Int.reduceEq, mm_dvp, if_pos, if_neg]
def rscale (e : Int) : Int := if e = 0 then 1 else if e = 1 then 6 else 36
theorem c_207 (hq : mm_P w) (h0 : 0 ≤ c) (h1 : c < 216) (he : 0 ≤ e ∧ e < 3) (hm : 0 ≤ m ∧ m < 6) : am_C (d + 2) 207 [.ref 129, .int (Int32.ofInt (c)), .int (Int32.ofInt (e)), .int (Int32.ofInt (m))] (mm_hp w μ X n) Q ↔ Q (.inl (some (.int (Int32.ofInt (c + (m - rpart c e) * rscale e))))) (mm_hp w μ X n) := by
  have hb := rpart_b (e := e) h0 h1
  simp only [en_207 (d := d + 1), b_207_0 hq, d_213 (d := d) hq h0 h1 he, bk_v, Nat.reduceAdd, b_207_7 hq, b_207_28 hq]
  unfold rscale
  by_cases e1 : e = 0
  · simp (disch := omega) only [and_self, true_and, mm_ltx, mm_lex, mm_eqx, mm_wv, mm_gd, ↓reduceIte, Int.reduceAdd, Int.reduceSub, Int.reduceNeg, Int.reduceLE, Int.reduceLT, Int.reduceMul, Int.reduceEq, if_pos, if_neg]
  · by_cases e2 : e = 1
    · simp (disch := omega) only [and_self, true_and, mm_ltx, mm_lex, mm_eqx, mm_wv, mm_gd, ↓reduceIte, Int.reduceAdd, Int.reduceSub, Int.reduceNeg, Int.reduceLE, Int.reduceLT, Int.reduceMul, Int.reduceEq, if_pos, if_neg]
    · simp (disch := omega) only [and_self, true_and, mm_ltx, mm_lex, mm_eqx, mm_wv, mm_gd, ↓reduceIte, Int.reduceAdd, Int.reduceSub, Int.reduceNeg, Int.reduceLE, Int.reduceLT, Int.reduceMul, Int.reduceEq, if_pos, if_neg]
theorem c_186 (hq : mm_P w) (hr : rt_a μ) (hc : ∀ e, 0 ≤ e → e < 3 → 0 ≤ μ 136 e ∧ μ 136 e < 6) : am_C (d + 1) 186 [.ref 129] (mm_hp w μ X n) Q ↔ Q (.inl (some (.int (Int32.ofInt (rhere μ))))) (mm_hp w μ X n) := by
  have c0 := hc 0 (by decide) (by decide)
  have c1 := hc 1 (by decide) (by decide)
  have c2 := hc 2 (by decide) (by decide)
  have t0 := (hr 0 (by decide) (by decide) _ c0.1 c0.2).1
  have t1 := (hr 1 (by decide) (by decide) _ c1.1 c1.2).1
  have t2 := (hr 2 (by decide) (by decide) _ c2.1 c2.2).1
  simp only [show (6 : Int) * 0 = 0 from rfl, show (6 : Int) * 1 = 6 from rfl, show (6 : Int) * 2 = 12 from rfl, Int.zero_add] at t0 t1 t2
  simp only [en_186, b_186_0 hq]
  unfold rhere
  by_cases a0 : μ 130 (μ 136 0) = 0
  · simp (disch := omega) only [b_186_2 hq, and_self, true_and, mm_ltx, mm_lex, mm_eqx, mm_wv, mm_gd, ↓reduceIte, Int.reduceAdd, Int.reduceSub, Int.reduceNeg, Int.reduceLE, Int.reduceLT, Int.reduceMul, Int.reduceEq, if_pos, if_neg, Int.zero_add]
  · by_cases a1 : μ 130 (6 + μ 136 1) = 0
    · simp (disch := omega) only [b_186_2 hq, and_self, true_and, mm_ltx, mm_lex, mm_eqx, mm_wv, mm_gd, ↓reduceIte, Int.reduceAdd, Int.reduceSub, Int.reduceNeg, Int.reduceLE, Int.reduceLT, Int.reduceMul, Int.reduceEq, if_pos, if_neg, Int.zero_add]
    · by_cases a2 : μ 130 (12 + μ 136 2) = 0
      · simp (disch := omega) only [b_186_2 hq, and_self, true_and, mm_ltx, mm_lex, mm_eqx, mm_wv, mm_gd, ↓reduceIte, Int.reduceAdd, Int.reduceSub, Int.reduceNeg, Int.reduceLE, Int.reduceLT, Int.reduceMul, Int.reduceEq, if_pos, if_neg, Int.zero_add]
      · simp (disch := omega) only [b_186_2 hq, and_self, true_and, mm_ltx, mm_lex, mm_eqx, mm_wv, mm_gd, ↓reduceIte, Int.reduceAdd, Int.reduceSub, Int.reduceNeg, Int.reduceLE, Int.reduceLT, Int.reduceMul, Int.reduceEq, if_pos, if_neg, Int.zero_add]
def rinner (μ : mm_M) (c : Int) : Int := if sp_fc (rp μ 0) (rpart c 0) ≠ -1 then 0 else if sp_fc (rp μ 1) (rpart c 1) ≠ -1 then 1 else if sp_fc (rp μ 2) (rpart c 2) ≠ -1 then 2 else -1
theorem c_188 (hq : mm_P w) (hr : rt_a μ) (h0 : 0 ≤ c) (h1 : c < 216) : am_C (d + 3) 188 [.ref 129, .int (Int32.ofInt (c))] (mm_hp w μ X n) Q ↔ Q (.inl (some (.int (Int32.ofInt (rinner μ c))))) (mm_hp w μ X n) := by
  have p0 := rpart_b (e := 0) h0 h1
  have p1 := rpart_b (e := 1) h0 h1
  have p2 := rpart_b (e := 2) h0 h1
  have r0 := hr 0 (by decide) (by decide)
  have r1 := hr 1 (by decide) (by decide)
  have r2 := hr 2 (by decide) (by decide)
  simp only [en_188 (d := d + 2), b_188_0 hq]
  simp (disch := first | omega | assumption) only [b_188_2 hq, d_213 (d := d + 1), bk_v, Nat.reduceAdd, b_188_14 hq, c_194 (d := d), b_188_17 hq, and_self, true_and, mm_ltx, mm_lex, mm_eqx, mm_wv, mm_gd, ↓reduceIte, Int.reduceAdd, Int.reduceSub, Int.reduceNeg, Int.reduceLE, Int.reduceLT, Int.reduceMul, Int.reduceEq, mm_qi (Q := Q)]
  unfold rinner
  by_cases a0 : sp_fc (rp μ 0) (rpart c 0) = -1
  · by_cases a1 : sp_fc (rp μ 1) (rpart c 1) = -1
    · by_cases a2 : sp_fc (rp μ 2) (rpart c 2) = -1
      · simp (disch := omega) only [and_self, true_and, mm_ltx, mm_lex, mm_eqx, mm_wv, mm_gd, ↓reduceIte, Int.reduceAdd, Int.reduceSub, Int.reduceNeg, Int.reduceLE, Int.reduceLT, Int.reduceMul, Int.reduceEq, if_pos, if_neg]
      · simp (disch := omega) only [and_self, true_and, mm_ltx, mm_lex, mm_eqx, mm_wv, mm_gd, ↓reduceIte, Int.reduceAdd, Int.reduceSub, Int.reduceNeg, Int.reduceLE, Int.reduceLT, Int.reduceMul, Int.reduceEq, if_pos, if_neg]
    · simp (disch := omega) only [and_self, true_and, mm_ltx, mm_lex, mm_eqx, mm_wv, mm_gd, ↓reduceIte, Int.reduceAdd, Int.reduceSub, Int.reduceNeg, Int.reduceLE, Int.reduceLT, Int.reduceMul, Int.reduceEq, if_pos, if_neg]
  · simp (disch := omega) only [and_self, true_and, mm_ltx, mm_lex, mm_eqx, mm_wv, mm_gd, ↓reduceIte, Int.reduceAdd, Int.reduceSub, Int.reduceNeg, Int.reduceLE, Int.reduceLT, Int.reduceMul, Int.reduceEq, if_pos, if_neg]
theorem c_200 (hq : mm_P w) (hr : rt_a μ) (h0 : -1 ≤ c) (h1 : c < 216) : am_C (d + 3) 200 [.ref 129, .int (Int32.ofInt (c))] (mm_hp w μ X n) Q ↔ Q (.inl (some (.int (Int32.ofInt (if 0 ≤ c ∧ rinner μ c = -1 then 1 else 0))))) (mm_hp w μ X n) := by
  by_cases hc : c < 0
  · simp only [en_200 (d := d + 2), b_200_0 hq]
    simp (disch := omega) only [and_self, true_and, mm_ltx, mm_lex, mm_eqx, mm_wv, mm_gd, ↓reduceIte, Int.reduceAdd, Int.reduceSub, Int.reduceNeg, Int.reduceLE, Int.reduceLT, Int.reduceMul, Int.reduceEq, if_pos, if_neg]
  · have p0 := rpart_b (e := 0) (show 0 ≤ c by omega) h1
    have p1 := rpart_b (e := 1) (show 0 ≤ c by omega) h1
    have p2 := rpart_b (e := 2) (show 0 ≤ c by omega) h1
    have r0 := hr 0 (by decide) (by decide)
    have r1 := hr 1 (by decide) (by decide)
    have r2 := hr 2 (by decide) (by decide)
    simp only [en_200 (d := d + 2), b_200_0 hq]
    simp (disch := first | omega | assumption) only [d_213 (d := d + 1), bk_v, Nat.reduceAdd, b_200_11 hq, b_200_14 hq, b_200_24 hq, b_200_27 hq, b_200_37 hq, b_200_40 hq, c_194 (d := d), and_self, true_and, mm_ltx, mm_lex, mm_eqx, mm_wv, mm_gd, ↓reduceIte, Int.reduceAdd, Int.reduceSub, Int.reduceNeg, Int.reduceLE, Int.reduceLT, Int.reduceMul, Int.reduceEq, if_neg]
    unfold rinner
    by_cases a0 : sp_fc (rp μ 0) (rpart c 0) = -1
    · by_cases a1 : sp_fc (rp μ 1) (rpart c 1) = -1
      · by_cases a2 : sp_fc (rp μ 2) (rpart c 2) = -1
        · simp (disch := omega) only [and_self, true_and, mm_ltx, mm_lex, mm_eqx, mm_wv, mm_gd, ↓reduceIte, Int.reduceAdd, Int.reduceSub, Int.reduceNeg, Int.reduceLE, Int.reduceLT, Int.reduceMul, Int.reduceEq, if_pos, if_neg]
        · simp (disch := omega) only [and_self, true_and, mm_ltx, mm_lex, mm_eqx, mm_wv, mm_gd, ↓reduceIte, Int.reduceAdd, Int.reduceSub, Int.reduceNeg, Int.reduceLE, Int.reduceLT, Int.reduceMul, Int.reduceEq, if_pos, if_neg]
      · simp (disch := omega) only [and_self, true_and, mm_ltx, mm_lex, mm_eqx, mm_wv, mm_gd, ↓reduceIte, Int.reduceAdd, Int.reduceSub, Int.reduceNeg, Int.reduceLE, Int.reduceLT, Int.reduceMul, Int.reduceEq, if_pos, if_neg]
    · simp (disch := omega) only [and_self, true_and, mm_ltx, mm_lex, mm_eqx, mm_wv, mm_gd, ↓reduceIte, Int.reduceAdd, Int.reduceSub, Int.reduceNeg, Int.reduceLE, Int.reduceLT, Int.reduceMul, Int.reduceEq, if_pos, if_neg]
theorem c_189_2 (hq : mm_P w) (h0 : 0 ≤ c) (h1 : c < 216) {l : Int} (hh : ∀ j, 0 ≤ j → j < 648 → μ 137 j = 0 ∨ μ 137 j = 1) : ∀ (k : Nat), k ≤ 3 → (am_E d 189 Q (2, [some (.ref 129), some (.int (Int32.ofInt (c))), some (.int (Int32.ofInt (l))), some (.int (Int32.ofInt ((k : Int) - 1)))], [], mm_hp w μ X n) ↔ Q (.inl (some (.int (Int32.ofInt (rlay μ c k))))) (mm_hp w μ X n)) := by
  intro k
  induction k with
  | zero =>
    intro _
    rw [b_189_2 hq]
    simp (disch := omega) only [and_self, true_and, mm_ltx, mm_lex, mm_eqx, mm_wv, mm_gd, ↓reduceIte, Int.reduceAdd, Int.reduceSub, Int.reduceNeg, Int.reduceLE, Int.reduceLT, Int.reduceMul, Int.reduceEq, if_pos, if_neg]
    rfl
  | succ k ih =>
    intro hk
    rw [b_189_2 hq, show ((k + 1 : Nat) : Int) - 1 = (k : Int) by omega]
    have := hh (216 * k + c) (by omega) (by omega)
    unfold rlay
    by_cases a : μ 137 (216 * k + c) = 0
    · simp (disch := omega) only [and_self, true_and, mm_ltx, mm_lex, mm_eqx, mm_wv, mm_gd, ↓reduceIte, Int.reduceAdd, Int.reduceSub, Int.reduceNeg, Int.reduceLE, Int.reduceLT, Int.reduceMul, Int.reduceEq, if_pos, if_neg]
      rw [show (k : Int) + (-1) = (k : Int) - 1 by omega]
      exact ih (by omega)
    · simp (disch := omega) only [and_self, true_and, mm_ltx, mm_lex, mm_eqx, mm_wv, mm_gd, ↓reduceIte, Int.reduceAdd, Int.reduceSub, Int.reduceNeg, Int.reduceLE, Int.reduceLT, Int.reduceMul, Int.reduceEq, if_pos, if_neg]
theorem c_189 (hq : mm_P w) (h0 : 0 ≤ c) (h1 : c < 216) {l : Int} (l0 : -1 ≤ l) (l1 : l < 3) (hh : ∀ j, 0 ≤ j → j < 648 → μ 137 j = 0 ∨ μ 137 j = 1) : am_C (d + 1) 189 [.ref 129, .int (Int32.ofInt (c)), .int (Int32.ofInt (l))] (mm_hp w μ X n) Q ↔ Q (.inl (some (.int (Int32.ofInt (rlay μ c (l + 1).toNat))))) (mm_hp w μ X n) := by
  simp only [en_189, b_189_0 hq]
  have := c_189_2 (d := d) (Q := Q) (X := X) (n := n) (l := l) hq h0 h1 hh (l + 1).toNat (by omega)
  rw [show (((l + 1).toNat : Nat) : Int) - 1 = l by omega] at this
  exact this
end RS
