/-! The reference's calls, the short ones. -/
section RA
variable {d : Nat} {Q : am_Ou → am_G → Prop} {w : mm_Z} {μ : mm_M} {X : mm_X} {n : mm_N} {e m c l : Int}
/-- the reference's cursor is in range -/
def rc_r (μ : mm_M) : Prop := ∀ e, 0 ≤ e → e < 3 → 0 ≤ μ 136 e ∧ μ 136 e < 6
def rth (μ : mm_M) (k : Int) : mm_M := mm_u μ 129 0 k
theorem rth_row {k : Int} {b : Nat} (h : b ≠ 129) : rth μ k b = μ b := mm_uu h
theorem rth_fld {k j : Int} (h : j ≠ 0) : rth μ k 129 j = μ 129 j := mm_un h
theorem rth_rp {k : Int} : rp (rth μ k) = rp μ := by unfold rp; rw [rth_row (by decide), rth_row (by decide)]
theorem rth_rq {k : Int} : rq (rth μ k) = rq μ := by unfold rq; rw [rth_row (by decide)]
theorem rth_a {k : Int} (h : rt_a μ) : rt_a (rth μ k) := fun e h0 h1 m g0 g1 => by rw [rth_row (by decide), rth_row (by decide)]; exact h e h0 h1 m g0 g1
theorem rth_rr {k : Int} (h : rr_r μ) : rr_r (rth μ k) := by unfold rr_r; rw [rth_row (b := 139) (by decide), rth_row (b := 140) (by decide), rth_fld (by decide)]; exact h
theorem rth_rg {k : Int} (h : rg_r μ) : rg_r (rth μ k) := by unfold rg_r; rw [rth_row (b := 137) (by decide), rth_row (b := 138) (by decide), rth_fld (by decide)]; exact h
theorem rth_rh {k : Int} (h : rh_r μ) : rh_r (rth μ k) := by
  unfold rh_r
  rw [rth_row (b := 157) (by decide), rth_row (b := 158) (by decide), rth_row (b := 159) (by decide), rth_row (b := 160) (by decide), rth_row (b := 162) (by decide), rth_fld (by decide), rth_fld (by decide)]
  exact h
theorem rth_ok {k : Int} (h : rt_ok μ e) : rt_ok (rth μ k) e := by
  obtain ⟨h1, h2, h3, h4⟩ := h
  unfold rt_ok
  rw [rth_rp, rth_row (b := 134) (by decide), rth_row (b := 133) (by decide)]
  refine ⟨h1, ?_, h3, h4⟩
  intro m g0 g1
  rw [rth_row (by decide), rth_row (by decide)]
  exact h2 m g0 g1
theorem d_185x (hq : mm_P w) {a b c : Int} (ha : a = 0 ∨ a = 1) (hb : b = 0 ∨ b = 1) (hc : c = 0 ∨ c = 1) : am_C (d + 1) 185 [.ref 129, .int (Int32.ofInt (a)), .int (Int32.ofInt (b)), .int (Int32.ofInt (c))] (mm_hp w μ X n) Q ↔ Q (.inl (some (.int (Int32.ofInt (if rwhy a b c = 0 then 1 else 0))))) (mm_hp w (rth μ (rwhy a b c)) X n) := d_185 hq ha hb hc
theorem c_160 (hq : mm_P w) (h1 : -2147483648 ≤ e) (h2 : e ≤ 2147483647) (g1 : -2147483648 ≤ m) (g2 : m ≤ 2147483647) : am_C (d + 2) 160 [.ref 129, .int (Int32.ofInt (e)), .int (Int32.ofInt (m))] (mm_hp w μ X n) Q ↔ if ¬ (0 ≤ e ∧ e < 3) then Q (.inl (some (.int (Int32.ofInt (0))))) (mm_hp w (rth μ 1) X n) else if ¬ (0 ≤ m ∧ m ≤ 5) then Q (.inl (some (.int (Int32.ofInt (0))))) (mm_hp w (rth μ 2) X n) else Q (.inl (some (.int (Int32.ofInt (μ 136 e))))) (mm_hp w (mm_u (rth μ 0) 136 e m) X n) := by
  rw [en_160 (d := d + 1), b_160_0 hq, d_192 (d := d) h1 h2 hq, bk_v, b_160_5 hq]
  by_cases a : 0 ≤ e ∧ e < 3
  · by_cases b : m < 0
    · simp (disch := omega) only [and_self, true_and, mm_ltx, mm_lex, mm_eqx, mm_wv, mm_gd, ↓reduceIte, Int.reduceAdd, Int.reduceSub, Int.reduceNeg, Int.reduceLE, Int.reduceLT, Int.reduceMul, Int.reduceEq, if_pos, if_neg, b_160_18 hq, b_160_19 hq, b_160_23 hq, d_185x (d := d) hq, bk_v, rwhy]
    · by_cases b2 : 5 < m
      · simp (disch := omega) only [and_self, true_and, mm_ltx, mm_lex, mm_eqx, mm_wv, mm_gd, ↓reduceIte, Int.reduceAdd, Int.reduceSub, Int.reduceNeg, Int.reduceLE, Int.reduceLT, Int.reduceMul, Int.reduceEq, if_pos, if_neg, b_160_18 hq, b_160_19 hq, b_160_23 hq, d_185x (d := d) hq, bk_v, rwhy]
      · simp (disch := omega) only [and_self, true_and, mm_ltx, mm_lex, mm_eqx, mm_wv, mm_gd, ↓reduceIte, Int.reduceAdd, Int.reduceSub, Int.reduceNeg, Int.reduceLE, Int.reduceLT, Int.reduceMul, Int.reduceEq, if_pos, if_neg, b_160_18 hq, b_160_19 hq, b_160_23 hq, d_185x (d := d) hq, bk_v, rwhy, rth_row]
  · by_cases b : m < 0
    · simp (disch := omega) only [and_self, true_and, mm_ltx, mm_lex, mm_eqx, mm_wv, mm_gd, ↓reduceIte, Int.reduceAdd, Int.reduceSub, Int.reduceNeg, Int.reduceLE, Int.reduceLT, Int.reduceMul, Int.reduceEq, if_pos, if_neg, b_160_18 hq, b_160_19 hq, b_160_23 hq, d_185x (d := d) hq, bk_v, rwhy]
    · by_cases b2 : 5 < m
      · simp (disch := omega) only [and_self, true_and, mm_ltx, mm_lex, mm_eqx, mm_wv, mm_gd, ↓reduceIte, Int.reduceAdd, Int.reduceSub, Int.reduceNeg, Int.reduceLE, Int.reduceLT, Int.reduceMul, Int.reduceEq, if_pos, if_neg, b_160_18 hq, b_160_19 hq, b_160_23 hq, d_185x (d := d) hq, bk_v, rwhy]
      · simp (disch := omega) only [and_self, true_and, mm_ltx, mm_lex, mm_eqx, mm_wv, mm_gd, ↓reduceIte, Int.reduceAdd, Int.reduceSub, Int.reduceNeg, Int.reduceLE, Int.reduceLT, Int.reduceMul, Int.reduceEq, if_pos, if_neg, b_160_18 hq, b_160_19 hq, b_160_23 hq, d_185x (d := d) hq, bk_v, rwhy]
theorem c_214 (hq : mm_P w) (hr : rt_a μ) {k : Int} (h1 : -2147483648 ≤ e) (h2 : e ≤ 2147483647) (g1 : -2147483648 ≤ m) (g2 : m ≤ 2147483647) (k1 : -2147483648 ≤ k) (k2 : k ≤ 2147483647) : am_C (d + 3) 214 [.ref 129, .int (Int32.ofInt (e)), .int (Int32.ofInt (k)), .int (Int32.ofInt (m))] (mm_hp w μ X n) Q ↔ if ¬ ((0 ≤ e ∧ e < 3) ∧ ((k = 1 ∨ k = 2) → 0 ≤ m ∧ m < 6 ∧ μ 130 (6 * e + m) ≠ 0)) then Q (.inl none) (mm_hp w (rth μ 1) X n) else if ¬ (0 ≤ k ∧ k ≤ 2) then Q (.inl none) (mm_hp w (rth μ 2) X n) else Q (.inl none) (mm_hp w (mm_u (mm_u (rth μ 0) 148 e k) 149 e m) X n) := by
  have tail : ∀ (x4 s : Int), s = 0 ∨ s = 1 → (am_E (d + 2) 214 Q (44, [some (.ref 129), some (.int (Int32.ofInt (e))), some (.int (Int32.ofInt (k))), some (.int (Int32.ofInt (m))), some (.int (Int32.ofInt (x4)))], [.int (Int32.ofInt (s)), .ref 129], mm_hp w μ X n) ↔ if s = 0 then Q (.inl none) (mm_hp w (rth μ 1) X n) else if ¬ (0 ≤ k ∧ k ≤ 2) then Q (.inl none) (mm_hp w (rth μ 2) X n) else am_E (d + 2) 214 Q (62, [some (.ref 129), some (.int (Int32.ofInt (e))), some (.int (Int32.ofInt (k))), some (.int (Int32.ofInt (m))), some (.int (Int32.ofInt (x4)))], [.int (Int32.ofInt (1))], mm_hp w (rth μ 0) X n)) := by
    intro x4 s hs
    rw [b_214_44 hq]
    rcases hs with rfl | rfl
    · by_cases b : k < 0
      · simp (disch := omega) only [and_self, true_and, mm_ltx, mm_lex, mm_eqx, mm_wv, mm_gd, ↓reduceIte, Int.reduceAdd, Int.reduceSub, Int.reduceNeg, Int.reduceLE, Int.reduceLT, Int.reduceMul, Int.reduceEq, if_pos, if_neg, b_214_57 hq, b_214_58 hq, d_185x (d := d + 1) hq, bk_v, rwhy, b_214_62 hq]
      · by_cases b2 : 2 < k
        · simp (disch := omega) only [and_self, true_and, mm_ltx, mm_lex, mm_eqx, mm_wv, mm_gd, ↓reduceIte, Int.reduceAdd, Int.reduceSub, Int.reduceNeg, Int.reduceLE, Int.reduceLT, Int.reduceMul, Int.reduceEq, if_pos, if_neg, b_214_57 hq, b_214_58 hq, d_185x (d := d + 1) hq, bk_v, rwhy, b_214_62 hq]
        · simp (disch := omega) only [and_self, true_and, mm_ltx, mm_lex, mm_eqx, mm_wv, mm_gd, ↓reduceIte, Int.reduceAdd, Int.reduceSub, Int.reduceNeg, Int.reduceLE, Int.reduceLT, Int.reduceMul, Int.reduceEq, if_pos, if_neg, b_214_57 hq, b_214_58 hq, d_185x (d := d + 1) hq, bk_v, rwhy, b_214_62 hq]
    · by_cases b : k < 0
      · simp (disch := omega) only [and_self, true_and, mm_ltx, mm_lex, mm_eqx, mm_wv, mm_gd, ↓reduceIte, Int.reduceAdd, Int.reduceSub, Int.reduceNeg, Int.reduceLE, Int.reduceLT, Int.reduceMul, Int.reduceEq, if_pos, if_neg, b_214_57 hq, b_214_58 hq, d_185x (d := d + 1) hq, bk_v, rwhy, b_214_62 hq]
      · by_cases b2 : 2 < k
        · simp (disch := omega) only [and_self, true_and, mm_ltx, mm_lex, mm_eqx, mm_wv, mm_gd, ↓reduceIte, Int.reduceAdd, Int.reduceSub, Int.reduceNeg, Int.reduceLE, Int.reduceLT, Int.reduceMul, Int.reduceEq, if_pos, if_neg, b_214_57 hq, b_214_58 hq, d_185x (d := d + 1) hq, bk_v, rwhy, b_214_62 hq]
        · simp (disch := omega) only [and_self, true_and, mm_ltx, mm_lex, mm_eqx, mm_wv, mm_gd, ↓reduceIte, Int.reduceAdd, Int.reduceSub, Int.reduceNeg, Int.reduceLE, Int.reduceLT, Int.reduceMul, Int.reduceEq, if_pos, if_neg, b_214_57 hq, b_214_58 hq, d_185x (d := d + 1) hq, bk_v, rwhy]
  have f1 : ∀ (x4 : Int), 0 ≤ e ∧ e < 3 → (am_E (d + 2) 214 Q (62, [some (.ref 129), some (.int (Int32.ofInt (e))), some (.int (Int32.ofInt (k))), some (.int (Int32.ofInt (m))), some (.int (Int32.ofInt (x4)))], [.int (Int32.ofInt (1))], mm_hp w (rth μ 0) X n) ↔ Q (.inl none) (mm_hp w (mm_u (mm_u (rth μ 0) 148 e k) 149 e m) X n)) := by
    intro x4 he
    rw [b_214_62 hq]
    simp (disch := omega) only [and_self, true_and, mm_ltx, mm_lex, mm_eqx, mm_wv, mm_gd, ↓reduceIte, Int.reduceAdd, Int.reduceSub, Int.reduceNeg, Int.reduceLE, Int.reduceLT, Int.reduceMul, Int.reduceEq, if_pos, if_neg]
  have nm : ∀ s : Int, s = (if k = 1 ∨ k = 2 then 1 else 0) → (am_E (d + 2) 214 Q (15, [some (.ref 129), some (.int (Int32.ofInt (e))), some (.int (Int32.ofInt (k))), some (.int (Int32.ofInt (m))), none], [.int (Int32.ofInt (s))], mm_hp w μ X n) ↔ if ¬ ((0 ≤ e ∧ e < 3) ∧ ((k = 1 ∨ k = 2) → 0 ≤ m ∧ m < 6 ∧ μ 130 (6 * e + m) ≠ 0)) then Q (.inl none) (mm_hp w (rth μ 1) X n) else if ¬ (0 ≤ k ∧ k ≤ 2) then Q (.inl none) (mm_hp w (rth μ 2) X n) else Q (.inl none) (mm_hp w (mm_u (mm_u (rth μ 0) 148 e k) 149 e m) X n)) := by
    intro s hs
    rw [b_214_15 hq, d_192 (d := d + 1) h1 h2 hq, bk_v, b_214_22 hq]
    by_cases a : 0 ≤ e ∧ e < 3
    · by_cases b : k = 1 ∨ k = 2
      · rw [if_pos b] at hs
        subst hs
        rw [if_pos a, if_neg (by decide), if_neg (by decide), d_196 (d := d) h1 h2 g1 g2 hq hr, bk_v, b_214_36 hq]
        by_cases f : 0 ≤ e ∧ e < 3 ∧ 0 ≤ m ∧ m < 6 ∧ μ 130 (6 * e + m) ≠ 0
        · rw [if_pos f, if_neg (by decide), b_214_39 hq, tail 1 1 (Or.inr rfl), if_neg (by decide), if_neg (by omega), f1 1 a, if_neg (by omega), if_neg (by omega)]
        · rw [if_neg f, if_pos (by decide), b_214_43 hq, tail 1 0 (Or.inl rfl), if_pos rfl, if_pos (by omega)]
      · rw [if_neg b] at hs
        subst hs
        rw [if_pos a, if_neg (by decide), if_pos (by decide), b_214_39 hq, tail 0 1 (Or.inr rfl), if_neg (by decide), f1 0 a, if_neg (show ¬ ¬ ((0 ≤ e ∧ e < 3) ∧ ((k = 1 ∨ k = 2) → 0 ≤ m ∧ m < 6 ∧ μ 130 (6 * e + m) ≠ 0)) by omega)]
    · rw [if_neg a, if_pos (by decide), b_214_43 hq, tail s 0 (Or.inl rfl), if_pos rfl, if_pos (by omega)]
  rw [en_214 (d := d + 2), b_214_0 hq]
  by_cases b1 : k = 1
  · rw [if_pos (by rw [mm_eqx, mm_wv k1 k2]; exact b1), b_214_10 hq]
    exact nm 1 (by rw [if_pos (Or.inl b1)])
  · by_cases b2 : k = 2
    · rw [if_neg (by rw [mm_eqx, mm_wv k1 k2]; exact b1), if_pos (by rw [mm_eqx, mm_wv k1 k2]; exact b2), b_214_10 hq]
      exact nm 1 (by rw [if_pos (Or.inr b2)])
    · simp (disch := omega) only [mm_eqx, mm_wv, if_neg]
      exact nm 0 (by rw [if_neg (by omega)])
theorem c_184 (hq : mm_P w) (g1 : -2147483648 ≤ m) (g2 : m ≤ 2147483647) : am_C (d + 2) 184 [.ref 129, .int (Int32.ofInt (m))] (mm_hp w μ X n) Q ↔ if ¬ (1 ≤ m ∧ m ≤ 2000) then Q (.inl (some (.int (Int32.ofInt (0))))) (mm_hp w (rth μ 1) X n) else Q (.inl (some (.int (Int32.ofInt (μ 129 65))))) (mm_hp w (mm_u (rth μ 0) 129 65 m) X n) := by
  rw [en_184 (d := d + 1), b_184_0 hq]
  by_cases b : m < 1
  · simp (disch := omega) only [and_self, true_and, mm_ltx, mm_lex, mm_eqx, mm_wv, mm_gd, ↓reduceIte, Int.reduceAdd, Int.reduceSub, Int.reduceNeg, Int.reduceLE, Int.reduceLT, Int.reduceMul, Int.reduceEq, if_pos, if_neg, b_184_17 hq, b_184_18 hq, b_184_23 hq, d_185x (d := d) hq, bk_v, rwhy]
  · by_cases b2 : 2000 < m
    · simp (disch := omega) only [and_self, true_and, mm_ltx, mm_lex, mm_eqx, mm_wv, mm_gd, ↓reduceIte, Int.reduceAdd, Int.reduceSub, Int.reduceNeg, Int.reduceLE, Int.reduceLT, Int.reduceMul, Int.reduceEq, if_pos, if_neg, b_184_17 hq, b_184_18 hq, b_184_23 hq, d_185x (d := d) hq, bk_v, rwhy]
    · simp (disch := omega) only [and_self, true_and, mm_ltx, mm_lex, mm_eqx, mm_wv, mm_gd, ↓reduceIte, Int.reduceAdd, Int.reduceSub, Int.reduceNeg, Int.reduceLE, Int.reduceLT, Int.reduceMul, Int.reduceEq, if_pos, if_neg, b_184_17 hq, b_184_18 hq, b_184_23 hq, d_185x (d := d) hq, bk_v, rwhy, rth_fld]
theorem c_232 (hq : mm_P w) : am_C (d + 1) 232 [.ref 129] (mm_hp w μ X n) Q ↔ Q (.inl (some (.int (Int32.ofInt (μ 129 64))))) (mm_hp w (rth μ 0) X n) := by
  rw [en_232, b_232_0 hq, mm_un (by decide)]
  exact Iff.rfl
theorem rhere_b (hc : rc_r μ) : -1 ≤ rhere μ ∧ rhere μ < 216 := by
  have c0 := hc 0 (by decide) (by decide)
  have c1 := hc 1 (by decide) (by decide)
  have c2 := hc 2 (by decide) (by decide)
  unfold rhere
  split <;> omega
theorem rwin_th {k : Int} {c : Int} : ∀ j, rwin (rth μ k) c j = rwin μ c j := by
  intro j
  induction j with
  | zero => rfl
  | succ j ih =>
    have h1 : ∀ r, rfits (rth μ k) r c = rfits μ r c := by
      intro r
      unfold rfits rfit
      rw [rth_rp, rth_rq, rth_row (b := 139) (by decide), rth_row (b := 140) (by decide)]
    have h2 : ∀ r, rspc (rth μ k) r = rspc μ r := by
      intro r
      unfold rspc rspc1
      rw [rth_rq, rth_row (b := 139) (by decide), rth_row (b := 140) (by decide)]
    unfold rwin
    rw [ih, h1, h2, h2]
theorem c_242 (hq : mm_P w) (hr : rt_a μ) (hc : rc_r μ) (hrr : rr_r μ) : am_C (d + 5) 242 [.ref 129] (mm_hp w μ X n) Q ↔ if rhere μ < 0 then Q (.inl (some (.int (Int32.ofInt (0))))) (mm_hp w (rth μ 1) X n) else Q (.inl (some (.int (Int32.ofInt (rwin μ (rhere μ) (μ 129 11).toNat))))) (mm_hp w (rth μ 0) X n) := by
  have hb := rhere_b hc
  rw [en_242 (d := d + 4), b_242_0 hq, c_186 (d := d + 3) hq hr hc, bk_v, b_242_4 hq]
  by_cases a : rhere μ < 0
  · simp (disch := omega) only [and_self, true_and, mm_ltx, mm_lex, mm_eqx, mm_wv, mm_gd, ↓reduceIte, Int.reduceAdd, Int.reduceSub, Int.reduceNeg, Int.reduceLE, Int.reduceLT, Int.reduceMul, Int.reduceEq, if_pos, if_neg, b_242_15 hq, d_185x (d := d + 3) hq, bk_v, rwhy, b_242_20 hq]
  · simp (disch := omega) only [and_self, true_and, mm_ltx, mm_lex, mm_eqx, mm_wv, mm_gd, ↓reduceIte, Int.reduceAdd, Int.reduceSub, Int.reduceNeg, Int.reduceLE, Int.reduceLT, Int.reduceMul, Int.reduceEq, if_pos, if_neg, b_242_15 hq, d_185x (d := d + 3) hq, bk_v, rwhy, b_242_20 hq]
    rw [c_243 (d := d) hq (rth_a hr) (rth_rr hrr) (by omega) hb.2, bk_v, b_242_28 hq, rwin_th, rth_fld (by decide)]
theorem c_166 (hq : mm_P w) (hr : rt_a μ) (hg : rg_r μ) (g1 : -2147483648 ≤ m) (g2 : m ≤ 2147483647) : am_C (d + 2) 166 [.ref 129, .int (Int32.ofInt (m))] (mm_hp w μ X n) Q ↔ if ¬ (0 ≤ m ∧ m ≤ 8) then Q (.inl (some (.int (Int32.ofInt (0))))) (mm_hp w (rth μ 1) X n) else Q (.inl (some (.int (Int32.ofInt (if m = 3 then μ 129 11 else if m = 4 then μ 129 8 else if m = 5 then cn (rhas μ) (216 * μ 129 8).toNat else if m = 6 then μ 129 38 else if m = 7 then μ 129 37 - μ 129 38 else if m = 8 then μ 129 23 else rt_many (rp μ m)))))) (mm_hp w (rth μ 0) X n) := by
  have e1 : ∀ j, j ≠ 0 → rth μ 0 129 j = μ 129 j := fun j h => rth_fld h
  have e2 : rhas (rth μ 0) = rhas μ := by unfold rhas; rw [rth_row (by decide)]
  rw [en_166 (d := d + 1), b_166_0 hq]
  by_cases b : m < 0
  · simp (disch := omega) only [and_self, true_and, mm_ltx, mm_lex, mm_eqx, mm_wv, mm_gd, ↓reduceIte, Int.reduceAdd, Int.reduceSub, Int.reduceNeg, Int.reduceLE, Int.reduceLT, Int.reduceMul, Int.reduceEq, if_pos, if_neg, b_166_15 hq, b_166_16 hq, b_166_21 hq, d_185x (d := d) hq, bk_v, rwhy]
  · by_cases b2 : 8 < m
    · simp (disch := omega) only [and_self, true_and, mm_ltx, mm_lex, mm_eqx, mm_wv, mm_gd, ↓reduceIte, Int.reduceAdd, Int.reduceSub, Int.reduceNeg, Int.reduceLE, Int.reduceLT, Int.reduceMul, Int.reduceEq, if_pos, if_neg, b_166_15 hq, b_166_16 hq, b_166_21 hq, d_185x (d := d) hq, bk_v, rwhy]
    · simp (disch := omega) only [and_self, true_and, mm_ltx, mm_lex, mm_eqx, mm_wv, mm_gd, ↓reduceIte, Int.reduceAdd, Int.reduceSub, Int.reduceNeg, Int.reduceLE, Int.reduceLT, Int.reduceMul, Int.reduceEq, if_pos, if_neg, b_166_15 hq, b_166_16 hq, b_166_21 hq, d_185x (d := d) hq, bk_v, rwhy]
      rw [e1 11 (by decide), e1 8 (by decide), e1 38 (by decide), e1 37 (by decide), e1 23 (by decide)]
      by_cases m3 : m = 3
      · simp only [if_pos m3]
      · by_cases m4 : m = 4
        · simp only [if_neg m3, if_pos m4]
        · by_cases m5 : m = 5
          · simp only [if_neg m3, if_neg m4, if_pos m5]
            rw [c_190 (d := d) hq (rth_rg hg), bk_v, b_166_78 hq, e2, e1 8 (by decide)]
          · by_cases m6 : m = 6
            · simp only [if_neg m3, if_neg m4, if_neg m5, if_pos m6]
            · by_cases m7 : m = 7
              · simp only [if_neg m3, if_neg m4, if_neg m5, if_neg m6, if_pos m7]
              · by_cases m8 : m = 8
                · simp only [if_neg m3, if_neg m4, if_neg m5, if_neg m6, if_neg m7, if_pos m8]
                · simp only [if_neg m3, if_neg m4, if_neg m5, if_neg m6, if_neg m7, if_neg m8]
                  rw [c_204 (d := d) hq (by omega) (rth_a hr m (by omega) (by omega)), bk_v, b_166_104 hq, rth_rp]
theorem c_157 (hq : mm_P w) (hr : rt_a μ) (ho : ∀ e, 0 ≤ e → e < 3 → rt_ok μ e) {k : Int} (h1 : -2147483648 ≤ e) (h2 : e ≤ 2147483647) (g1 : -2147483648 ≤ m) (g2 : m ≤ 2147483647) (k1 : -2147483648 ≤ k) (k2 : k ≤ 2147483647) : am_C (d + 3) 157 [.ref 129, .int (Int32.ofInt (e)), .int (Int32.ofInt (m)), .int (Int32.ofInt (k))] (mm_hp w μ X n) Q ↔ if ¬ (0 ≤ e ∧ e < 3 ∧ 0 ≤ m ∧ m < 6 ∧ μ 130 (6 * e + m) ≠ 0) then Q (.inl (some (.int (Int32.ofInt (0))))) (mm_hp w (rth μ 1) X n) else if ¬ (0 ≤ k ∧ k ≤ 3) then Q (.inl (some (.int (Int32.ofInt (0))))) (mm_hp w (rth μ 2) X n) else Q (.inl (some (.int (Int32.ofInt (if k = 0 then μ 131 (6 * e + m) else if k = 1 then μ 132 (6 * e + m) else if k = 2 then fo_dp (rq μ e) 6 m else if m ∈ fo_L (rp μ e) then ((fo_L (rp μ e)).idxOf m : Int) else -1))))) (mm_hp w (rth μ 0) X n) := by
  rw [en_157 (d := d + 2), b_157_0 hq, d_196 (d := d) h1 h2 g1 g2 hq hr, bk_v, b_157_6 hq]
  by_cases f : 0 ≤ e ∧ e < 3 ∧ 0 ≤ m ∧ m < 6 ∧ μ 130 (6 * e + m) ≠ 0
  · rw [if_pos f, if_neg (show ¬ ¬ (0 ≤ e ∧ e < 3 ∧ 0 ≤ m ∧ m < 6 ∧ μ 130 (6 * e + m) ≠ 0) from fun q => q f)]
    by_cases b : k < 0
    · simp (disch := omega) only [and_self, true_and, mm_ltx, mm_lex, mm_eqx, mm_wv, mm_gd, ↓reduceIte, Int.reduceAdd, Int.reduceSub, Int.reduceNeg, Int.reduceLE, Int.reduceLT, Int.reduceMul, Int.reduceEq, if_pos, if_neg, b_157_24 hq, b_157_25 hq, b_157_29 hq, d_185x (d := d + 1) hq, bk_v, rwhy]
    · by_cases b2 : 3 < k
      · simp (disch := omega) only [and_self, true_and, mm_ltx, mm_lex, mm_eqx, mm_wv, mm_gd, ↓reduceIte, Int.reduceAdd, Int.reduceSub, Int.reduceNeg, Int.reduceLE, Int.reduceLT, Int.reduceMul, Int.reduceEq, if_pos, if_neg, b_157_24 hq, b_157_25 hq, b_157_29 hq, d_185x (d := d + 1) hq, bk_v, rwhy]
      · simp (disch := omega) only [and_self, true_and, mm_ltx, mm_lex, mm_eqx, mm_wv, mm_gd, ↓reduceIte, Int.reduceAdd, Int.reduceSub, Int.reduceNeg, Int.reduceLE, Int.reduceLT, Int.reduceMul, Int.reduceEq, if_pos, if_neg, b_157_24 hq, b_157_25 hq, b_157_29 hq, d_185x (d := d + 1) hq, bk_v, rwhy, b_157_91 hq, rth_row]
        by_cases q0 : k = 0
        · simp only [if_pos q0]
        · by_cases q1 : k = 1
          · simp only [if_neg q0, if_pos q1]
          · by_cases q2 : k = 2
            · simp only [if_neg q0, if_neg q1, if_pos q2]
              rw [c_168 (d := d + 1) hq (by omega) (by omega) (by omega) (rth_a hr e (by omega) (by omega)), bk_v, b_157_82 hq, b_157_91 hq, rth_rq]
            · simp only [if_neg q0, if_neg q1, if_neg q2]
              rw [c_201 (d := d + 1) hq (by omega) (by omega) (by omega) (rth_ok (ho e (by omega) (by omega))), bk_v, b_157_91 hq, rth_rp]
  · rw [if_neg f, if_pos f]
    by_cases b : k < 0
    · simp (disch := omega) only [and_self, true_and, mm_ltx, mm_lex, mm_eqx, mm_wv, mm_gd, ↓reduceIte, Int.reduceAdd, Int.reduceSub, Int.reduceNeg, Int.reduceLE, Int.reduceLT, Int.reduceMul, Int.reduceEq, if_pos, if_neg, b_157_24 hq, b_157_25 hq, b_157_29 hq, d_185x (d := d + 1) hq, bk_v, rwhy]
    · by_cases b2 : 3 < k
      · simp (disch := omega) only [and_self, true_and, mm_ltx, mm_lex, mm_eqx, mm_wv, mm_gd, ↓reduceIte, Int.reduceAdd, Int.reduceSub, Int.reduceNeg, Int.reduceLE, Int.reduceLT, Int.reduceMul, Int.reduceEq, if_pos, if_neg, b_157_24 hq, b_157_25 hq, b_157_29 hq, d_185x (d := d + 1) hq, bk_v, rwhy]
      · simp (disch := omega) only [and_self, true_and, mm_ltx, mm_lex, mm_eqx, mm_wv, mm_gd, ↓reduceIte, Int.reduceAdd, Int.reduceSub, Int.reduceNeg, Int.reduceLE, Int.reduceLT, Int.reduceMul, Int.reduceEq, if_pos, if_neg, b_157_24 hq, b_157_25 hq, b_157_29 hq, d_185x (d := d + 1) hq, bk_v, rwhy]
end RA
