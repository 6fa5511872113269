/-! Amounts: numbers and what else a cell can be, both sides. -/
def sp_ab (a : Int) : Int := if a < 0 then -a else a
/-- a quotient, rounded to the nearest whole, halves away from zero -/
def sp_rnd (a b : Int) : Int := if (a < 0 ↔ b < 0) then (2 * sp_ab a + sp_ab b) / (2 * sp_ab b) else -((2 * sp_ab a + sp_ab b) / (2 * sp_ab b))
def sp_mk : Int := 1152921504606846976
def sp_en (k v : Int) : Int := if k = 0 then v else 1152921504606846976 + k
def sp_ok (z : Int) : Prop := -2000000000 ≤ z ∧ z ≤ 2000000000
def sp_fit (z : Int) : Int × Int := if -2000000000 ≤ z ∧ z ≤ 2000000000 then (0, z) else (3, 0)
def sp_str (a b : Int) : Int := if a ≤ 1 then b else if b ≤ 1 then a else if a ≤ b then a else b
def sp_pl (k v : Int) : Int := if k = 0 then v else 0
def sp_cmb (op ka va kb vb : Int) : Int × Int :=
  if sp_str ka kb ≤ 1 then
    if op = 1 then sp_fit (sp_pl ka va + sp_pl kb vb) else if op = 2 then sp_fit (sp_pl ka va - sp_pl kb vb) else if op = 3 then sp_fit (sp_rnd (sp_pl ka va * sp_pl kb vb) 1000)
    else if sp_pl kb vb = 0 then (4, 0) else sp_fit (sp_rnd (sp_pl ka va * 1000) (sp_pl kb vb))
  else (sp_str ka kb, 0)
section AM
variable {d : Nat} {Q : am_Ou → am_G → Prop} {w : mm_Z} {μ : mm_M} {X : mm_X} {n : mm_N} {a b k v : Int}
theorem mm_d8p (h1 : 0 ≤ a) (h2 : a ≤ 9223372036854775807) (h3 : 0 < b) (h4 : b ≤ 9223372036854775807) : mm_d8 a b = a / b := by
  unfold mm_d8
  rw [Int64.toInt_div, Int64.toInt_ofInt_of_le (by omega) (by omega), Int64.toInt_ofInt_of_le (by omega) (by omega), Int.tdiv_eq_ediv_of_nonneg h1]
  have h5 : 0 ≤ a / b := Int.ediv_nonneg h1 (by omega)
  have h6 : a / b ≤ a := Int.ediv_le_self _ h1
  exact Int.bmod_eq_of_le (by omega) (by omega)
theorem c_54 (hq : mm_P w) (h1 : -9223372036854775808 ≤ a) (h2 : a ≤ 9223372036854775807) : am_C (d + 1) 54 [.long (Int64.ofInt (a))] (mm_hp w μ X n) Q ↔ Q (.inl (some (.int (Int32.ofInt (if -2000000000 ≤ a ∧ a ≤ 2000000000 then 1 else 0))))) (mm_hp w μ X n) := by
  simp only [en_54, b_54_0 hq]
  by_cases e1 : a < -2000000000
  · simp (disch := omega) only [and_self, true_and, mm_ltx, mm_lex, mm_eqx, mm_wv, mm_gd, ↓reduceIte, Int.reduceAdd, Int.reduceSub, Int.reduceNeg, Int.reduceLE, Int.reduceLT, Int.reduceMul, Int.reduceEq, mm_ltx8, mm_lex8, mm_eqx8, mm_w8v, if_pos, if_neg]
  · by_cases e2 : 2000000000 < a
    · simp (disch := omega) only [and_self, true_and, mm_ltx, mm_lex, mm_eqx, mm_wv, mm_gd, ↓reduceIte, Int.reduceAdd, Int.reduceSub, Int.reduceNeg, Int.reduceLE, Int.reduceLT, Int.reduceMul, Int.reduceEq, mm_ltx8, mm_lex8, mm_eqx8, mm_w8v, if_pos, if_neg]
    · simp (disch := omega) only [and_self, true_and, mm_ltx, mm_lex, mm_eqx, mm_wv, mm_gd, ↓reduceIte, Int.reduceAdd, Int.reduceSub, Int.reduceNeg, Int.reduceLE, Int.reduceLT, Int.reduceMul, Int.reduceEq, mm_ltx8, mm_lex8, mm_eqx8, mm_w8v, if_pos, if_neg]
theorem c_197 (hq : mm_P w) (h1 : -9223372036854775808 ≤ a) (h2 : a ≤ 9223372036854775807) : am_C (d + 1) 197 [.long (Int64.ofInt (a))] (mm_hp w μ X n) Q ↔ Q (.inl (some (.int (Int32.ofInt (if -2000000000 ≤ a ∧ a ≤ 2000000000 then 1 else 0))))) (mm_hp w μ X n) := by
  simp only [en_197, b_197_0 hq]
  by_cases e1 : a < -2000000000
  · simp (disch := omega) only [and_self, true_and, mm_ltx, mm_lex, mm_eqx, mm_wv, mm_gd, ↓reduceIte, Int.reduceAdd, Int.reduceSub, Int.reduceNeg, Int.reduceLE, Int.reduceLT, Int.reduceMul, Int.reduceEq, mm_ltx8, mm_lex8, mm_eqx8, mm_w8v, if_pos, if_neg]
  · by_cases e2 : 2000000000 < a
    · simp (disch := omega) only [and_self, true_and, mm_ltx, mm_lex, mm_eqx, mm_wv, mm_gd, ↓reduceIte, Int.reduceAdd, Int.reduceSub, Int.reduceNeg, Int.reduceLE, Int.reduceLT, Int.reduceMul, Int.reduceEq, mm_ltx8, mm_lex8, mm_eqx8, mm_w8v, if_pos, if_neg]
    · simp (disch := omega) only [and_self, true_and, mm_ltx, mm_lex, mm_eqx, mm_wv, mm_gd, ↓reduceIte, Int.reduceAdd, Int.reduceSub, Int.reduceNeg, Int.reduceLE, Int.reduceLT, Int.reduceMul, Int.reduceEq, mm_ltx8, mm_lex8, mm_eqx8, mm_w8v, if_pos, if_neg]
theorem c_55 (hq : mm_P w) (hk : 0 ≤ k ∧ k ≤ 4) (hv : k = 0 → -1000000000000 ≤ v ∧ v ≤ 1000000000000) : am_C (d + 1) 55 [.long (Int64.ofInt (sp_en k v))] (mm_hp w μ X n) Q ↔ Q (.inl (some (.int (Int32.ofInt (k))))) (mm_hp w μ X n) := by
  simp only [en_55, b_55_0 hq]
  unfold sp_en
  by_cases e : k = 0
  · have := hv e
    simp (disch := omega) only [and_self, true_and, mm_ltx, mm_lex, mm_eqx, mm_wv, mm_gd, ↓reduceIte, Int.reduceAdd, Int.reduceSub, Int.reduceNeg, Int.reduceLE, Int.reduceLT, Int.reduceMul, Int.reduceEq, mm_ltx8, mm_lex8, mm_eqx8, mm_w8v, if_pos, if_neg]
    rw [e]
  · simp (disch := omega) only [and_self, true_and, mm_ltx, mm_lex, mm_eqx, mm_wv, mm_gd, ↓reduceIte, Int.reduceAdd, Int.reduceSub, Int.reduceNeg, Int.reduceLE, Int.reduceLT, Int.reduceMul, Int.reduceEq, mm_ltx8, mm_lex8, mm_eqx8, mm_w8v, if_pos, if_neg]
    rw [show 1152921504606846976 + k - 1152921504606846976 = k by omega]
theorem c_56 (hq : mm_P w) (hk : 1 ≤ k ∧ k ≤ 4) : am_C (d + 1) 56 [.int (Int32.ofInt (k))] (mm_hp w μ X n) Q ↔ Q (.inl (some (.long (Int64.ofInt (sp_en k 0))))) (mm_hp w μ X n) := by
  simp only [en_56, b_56_0 hq]
  unfold sp_en
  simp (disch := omega) only [and_self, true_and, mm_ltx, mm_lex, mm_eqx, mm_wv, mm_gd, ↓reduceIte, Int.reduceAdd, Int.reduceSub, Int.reduceNeg, Int.reduceLE, Int.reduceLT, Int.reduceMul, Int.reduceEq, mm_ltx8, mm_lex8, mm_eqx8, mm_w8v, if_pos, if_neg]
theorem c_57 (hq : mm_P w) (hk : 0 ≤ k ∧ k ≤ 4) (hv : k = 0 → -1000000000000 ≤ v ∧ v ≤ 1000000000000) : am_C (d + 1) 57 [.long (Int64.ofInt (sp_en k v))] (mm_hp w μ X n) Q ↔ Q (.inl (some (.long (Int64.ofInt (sp_pl k v))))) (mm_hp w μ X n) := by
  simp only [en_57, b_57_0 hq]
  unfold sp_en sp_pl
  by_cases e : k = 0
  · have := hv e
    simp (disch := omega) only [and_self, true_and, mm_ltx, mm_lex, mm_eqx, mm_wv, mm_gd, ↓reduceIte, Int.reduceAdd, Int.reduceSub, Int.reduceNeg, Int.reduceLE, Int.reduceLT, Int.reduceMul, Int.reduceEq, mm_ltx8, mm_lex8, mm_eqx8, mm_w8v, if_pos, if_neg]
  · simp (disch := omega) only [and_self, true_and, mm_ltx, mm_lex, mm_eqx, mm_wv, mm_gd, ↓reduceIte, Int.reduceAdd, Int.reduceSub, Int.reduceNeg, Int.reduceLE, Int.reduceLT, Int.reduceMul, Int.reduceEq, mm_ltx8, mm_lex8, mm_eqx8, mm_w8v, if_pos, if_neg]
theorem c_53 (hq : mm_P w) (hk : 0 ≤ k ∧ k ≤ 4) (hv : k = 0 → -1000000000000 ≤ v ∧ v ≤ 1000000000000) : am_C (d + 2) 53 [.long (Int64.ofInt (sp_en k v))] (mm_hp w μ X n) Q ↔ Q (.inl (some (.int (Int32.ofInt (if k ≤ 1 then 0 else 1))))) (mm_hp w μ X n) := by
  simp only [en_53 (d := d + 1), b_53_0 hq, c_55 (d := d) hq hk hv, bk_v, Nat.reduceAdd, b_53_4 hq]
  by_cases e : k ≤ 1
  · simp (disch := omega) only [and_self, true_and, mm_ltx, mm_lex, mm_eqx, mm_wv, mm_gd, ↓reduceIte, Int.reduceAdd, Int.reduceSub, Int.reduceNeg, Int.reduceLE, Int.reduceLT, Int.reduceMul, Int.reduceEq, mm_ltx8, mm_lex8, mm_eqx8, mm_w8v, if_pos, if_neg]
  · simp (disch := omega) only [and_self, true_and, mm_ltx, mm_lex, mm_eqx, mm_wv, mm_gd, ↓reduceIte, Int.reduceAdd, Int.reduceSub, Int.reduceNeg, Int.reduceLE, Int.reduceLT, Int.reduceMul, Int.reduceEq, mm_ltx8, mm_lex8, mm_eqx8, mm_w8v, if_pos, if_neg]
theorem c_52 (hq : mm_P w) (h1 : -9000000000000000000 ≤ a) (h2 : a ≤ 9000000000000000000) : am_C (d + 2) 52 [.long (Int64.ofInt (a))] (mm_hp w μ X n) Q ↔ Q (.inl (some (.long (Int64.ofInt (sp_en (sp_fit a).1 (sp_fit a).2))))) (mm_hp w μ X n) := by
  simp only [en_52 (d := d + 1), b_52_0 hq, c_54 (d := d) hq (show -9223372036854775808 ≤ a by omega) (by omega), bk_v, Nat.reduceAdd, b_52_4 hq]
  unfold sp_fit
  by_cases e : -2000000000 ≤ a ∧ a ≤ 2000000000
  · rw [if_pos e, if_neg (by decide), b_52_15 hq, if_pos e]
    rfl
  · rw [if_neg e, if_pos (by decide), c_56 (d := d) hq (by decide), bk_v, b_52_15 hq, if_neg e]
theorem c_269 (hq : mm_P w) (h1 : 0 ≤ a ∧ a ≤ 100) (h2 : 0 ≤ b ∧ b ≤ 100) : am_C (d + 1) 269 [.int (Int32.ofInt (a)), .int (Int32.ofInt (b))] (mm_hp w μ X n) Q ↔ Q (.inl (some (.int (Int32.ofInt (if a ≤ b then a else b))))) (mm_hp w μ X n) := by
  simp only [en_269, b_269_0 hq]
  by_cases e : a ≤ b
  · simp (disch := omega) only [and_self, true_and, mm_ltx, mm_lex, mm_eqx, mm_wv, mm_gd, ↓reduceIte, Int.reduceAdd, Int.reduceSub, Int.reduceNeg, Int.reduceLE, Int.reduceLT, Int.reduceMul, Int.reduceEq, if_pos, if_neg]
  · simp (disch := omega) only [and_self, true_and, mm_ltx, mm_lex, mm_eqx, mm_wv, mm_gd, ↓reduceIte, Int.reduceAdd, Int.reduceSub, Int.reduceNeg, Int.reduceLE, Int.reduceLT, Int.reduceMul, Int.reduceEq, if_pos, if_neg]
theorem c_59 (hq : mm_P w) (h1 : 0 ≤ a ∧ a ≤ 4) (h2 : 0 ≤ b ∧ b ≤ 4) : am_C (d + 2) 59 [.int (Int32.ofInt (a)), .int (Int32.ofInt (b))] (mm_hp w μ X n) Q ↔ Q (.inl (some (.int (Int32.ofInt (sp_str a b))))) (mm_hp w μ X n) := by
  simp only [en_59 (d := d + 1), b_59_0 hq]
  unfold sp_str
  by_cases e1 : a ≤ 1
  · simp (disch := omega) only [and_self, true_and, mm_ltx, mm_lex, mm_eqx, mm_wv, mm_gd, ↓reduceIte, Int.reduceAdd, Int.reduceSub, Int.reduceNeg, Int.reduceLE, Int.reduceLT, Int.reduceMul, Int.reduceEq, if_pos, if_neg]
  · by_cases e2 : b ≤ 1
    · simp (disch := omega) only [and_self, true_and, mm_ltx, mm_lex, mm_eqx, mm_wv, mm_gd, ↓reduceIte, Int.reduceAdd, Int.reduceSub, Int.reduceNeg, Int.reduceLE, Int.reduceLT, Int.reduceMul, Int.reduceEq, if_pos, if_neg, b_59_21 hq]
    · simp (disch := omega) only [and_self, true_and, mm_ltx, mm_lex, mm_eqx, mm_wv, mm_gd, ↓reduceIte, Int.reduceAdd, Int.reduceSub, Int.reduceNeg, Int.reduceLE, Int.reduceLT, Int.reduceMul, Int.reduceEq, if_pos, if_neg]
      rw [c_269 (d := d) hq (by omega) (by omega), bk_v, b_59_21 hq]
theorem c_267 (hq : mm_P w) (h1 : -9000000000000000000 ≤ a) (h2 : a ≤ 9000000000000000000) : am_C (d + 1) 267 [.long (Int64.ofInt (a))] (mm_hp w μ X n) Q ↔ Q (.inl (some (.long (Int64.ofInt (sp_ab a))))) (mm_hp w μ X n) := by
  simp only [en_267, b_267_0 hq]
  unfold sp_ab
  by_cases e : a < 0
  · simp (disch := omega) only [and_self, true_and, mm_ltx, mm_lex, mm_eqx, mm_wv, mm_gd, ↓reduceIte, Int.reduceAdd, Int.reduceSub, Int.reduceNeg, Int.reduceLE, Int.reduceLT, Int.reduceMul, Int.reduceEq, mm_ltx8, mm_lex8, mm_eqx8, mm_w8v, if_pos, if_neg]
  · simp (disch := omega) only [and_self, true_and, mm_ltx, mm_lex, mm_eqx, mm_wv, mm_gd, ↓reduceIte, Int.reduceAdd, Int.reduceSub, Int.reduceNeg, Int.reduceLE, Int.reduceLT, Int.reduceMul, Int.reduceEq, mm_ltx8, mm_lex8, mm_eqx8, mm_w8v, if_pos, if_neg]
theorem sp_ab_b : 0 ≤ sp_ab a ∧ (-v ≤ a → a ≤ v → sp_ab a ≤ v) ∧ (a ≠ 0 → 0 < sp_ab a) := by
  unfold sp_ab
  split <;> omega
theorem c_58 (hq : mm_P w) (h1 : -4000000000000000000 ≤ a) (h2 : a ≤ 4000000000000000000) (h3 : -2000000000 ≤ b) (h4 : b ≤ 2000000000) (hb : b ≠ 0) : am_C (d + 2) 58 [.long (Int64.ofInt (a)), .long (Int64.ofInt (b))] (mm_hp w μ X n) Q ↔ Q (.inl (some (.long (Int64.ofInt (sp_rnd a b))))) (mm_hp w μ X n) := by
  have ha := sp_ab_b (a := a) (v := 4000000000000000000)
  have hb' := sp_ab_b (a := b) (v := 2000000000)
  have ha1 := ha.2.1 (by omega) (by omega)
  have hb1 := hb'.2.1 (by omega) (by omega)
  have hb2 := hb'.2.2 hb
  rw [en_58 (d := d + 1), b_58_0 hq, c_267 (d := d) hq (by omega) (by omega), bk_v, b_58_4 hq, c_267 (d := d) hq (by omega) (by omega), bk_v, b_58_10 hq, mm_d8p (by omega) (by omega) (by omega) (by omega)]
  simp (disch := omega) only [mm_eqx8, mm_w8v, if_neg, mm_lex8]
  unfold sp_rnd
  generalize (2 * sp_ab a + sp_ab b) / (2 * sp_ab b) = q
  by_cases e1 : a < 0
  · by_cases e2 : b < 0
    · simp (disch := omega) only [and_self, true_and, mm_ltx, mm_lex, mm_eqx, mm_wv, mm_gd, ↓reduceIte, Int.reduceAdd, Int.reduceSub, Int.reduceNeg, Int.reduceLE, Int.reduceLT, Int.reduceMul, Int.reduceEq, mm_lex8, mm_w8v, if_pos, if_neg, b_58_50 hq, b_58_61 hq]
    · simp (disch := omega) only [and_self, true_and, mm_ltx, mm_lex, mm_eqx, mm_wv, mm_gd, ↓reduceIte, Int.reduceAdd, Int.reduceSub, Int.reduceNeg, Int.reduceLE, Int.reduceLT, Int.reduceMul, Int.reduceEq, mm_lex8, mm_w8v, if_pos, if_neg, b_58_50 hq, b_58_61 hq]
  · by_cases e2 : b < 0
    · simp (disch := omega) only [and_self, true_and, mm_ltx, mm_lex, mm_eqx, mm_wv, mm_gd, ↓reduceIte, Int.reduceAdd, Int.reduceSub, Int.reduceNeg, Int.reduceLE, Int.reduceLT, Int.reduceMul, Int.reduceEq, mm_lex8, mm_w8v, if_pos, if_neg, b_58_50 hq, b_58_61 hq]
    · simp (disch := omega) only [and_self, true_and, mm_ltx, mm_lex, mm_eqx, mm_wv, mm_gd, ↓reduceIte, Int.reduceAdd, Int.reduceSub, Int.reduceNeg, Int.reduceLE, Int.reduceLT, Int.reduceMul, Int.reduceEq, mm_lex8, mm_w8v, if_pos, if_neg, b_58_50 hq, b_58_61 hq]
theorem c_224 (hq : mm_P w) (h1 : -4000000000000000000 ≤ a) (h2 : a ≤ 4000000000000000000) (h3 : -2000000000 ≤ b) (h4 : b ≤ 2000000000) (hb : b ≠ 0) : am_C (d + 1) 224 [.long (Int64.ofInt (a)), .long (Int64.ofInt (b))] (mm_hp w μ X n) Q ↔ Q (.inl (some (.long (Int64.ofInt (sp_rnd a b))))) (mm_hp w μ X n) := by
  have ha := sp_ab_b (a := a) (v := 4000000000000000000)
  have hb' := sp_ab_b (a := b) (v := 2000000000)
  have ha1 := ha.2.1 (by omega) (by omega)
  have hb1 := hb'.2.1 (by omega) (by omega)
  have hb2 := hb'.2.2 hb
  have s28 : ∀ x4 s : Int, x4 = sp_ab a → s = sp_ab b → (am_E d 224 Q (28, [some (.long (Int64.ofInt (a))), none, some (.long (Int64.ofInt (b))), none, some (.long (Int64.ofInt (x4))), none, none, none, none, none], [.long (Int64.ofInt (s))], mm_hp w μ X n) ↔ Q (.inl (some (.long (Int64.ofInt (sp_rnd a b))))) (mm_hp w μ X n)) := by
    rintro _ _ rfl rfl
    rw [b_224_28 hq, mm_d8p (by omega) (by omega) (by omega) (by omega)]
    simp (disch := omega) only [mm_eqx8, mm_w8v, if_neg, mm_lex8]
    unfold sp_rnd
    generalize (2 * sp_ab a + sp_ab b) / (2 * sp_ab b) = q
    by_cases e1 : a < 0
    · by_cases e2 : b < 0
      · simp (disch := omega) only [and_self, true_and, mm_ltx, mm_lex, mm_eqx, mm_wv, mm_gd, ↓reduceIte, Int.reduceAdd, Int.reduceSub, Int.reduceNeg, Int.reduceLE, Int.reduceLT, Int.reduceMul, Int.reduceEq, mm_lex8, mm_w8v, if_pos, if_neg, b_224_59 hq, b_224_70 hq]
      · simp (disch := omega) only [and_self, true_and, mm_ltx, mm_lex, mm_eqx, mm_wv, mm_gd, ↓reduceIte, Int.reduceAdd, Int.reduceSub, Int.reduceNeg, Int.reduceLE, Int.reduceLT, Int.reduceMul, Int.reduceEq, mm_lex8, mm_w8v, if_pos, if_neg, b_224_59 hq, b_224_70 hq, Int.zero_sub]
    · by_cases e2 : b < 0
      · simp (disch := omega) only [and_self, true_and, mm_ltx, mm_lex, mm_eqx, mm_wv, mm_gd, ↓reduceIte, Int.reduceAdd, Int.reduceSub, Int.reduceNeg, Int.reduceLE, Int.reduceLT, Int.reduceMul, Int.reduceEq, mm_lex8, mm_w8v, if_pos, if_neg, b_224_59 hq, b_224_70 hq, Int.zero_sub]
      · simp (disch := omega) only [and_self, true_and, mm_ltx, mm_lex, mm_eqx, mm_wv, mm_gd, ↓reduceIte, Int.reduceAdd, Int.reduceSub, Int.reduceNeg, Int.reduceLE, Int.reduceLT, Int.reduceMul, Int.reduceEq, mm_lex8, mm_w8v, if_pos, if_neg, b_224_59 hq, b_224_70 hq]
  have s13 : ∀ s : Int, s = sp_ab a → (am_E d 224 Q (13, [some (.long (Int64.ofInt (a))), none, some (.long (Int64.ofInt (b))), none, none, none, none, none, none, none], [.long (Int64.ofInt (s))], mm_hp w μ X n) ↔ Q (.inl (some (.long (Int64.ofInt (sp_rnd a b))))) (mm_hp w μ X n)) := by
    rintro _ rfl
    rw [b_224_13 hq]
    by_cases e2 : b < 0
    · simp (disch := omega) only [mm_lex8, mm_w8v, if_neg]
      exact s28 _ _ rfl (by unfold sp_ab; rw [if_pos e2, Int.zero_sub])
    · simp (disch := omega) only [mm_lex8, mm_w8v, if_pos]
      exact s28 _ _ rfl (by unfold sp_ab; rw [if_neg e2])
  rw [en_224, b_224_0 hq]
  by_cases e1 : a < 0
  · simp (disch := omega) only [mm_lex8, mm_w8v, if_neg]
    exact s13 _ (by unfold sp_ab; rw [if_pos e1, Int.zero_sub])
  · simp (disch := omega) only [mm_lex8, mm_w8v, if_pos]
    exact s13 _ (by unfold sp_ab; rw [if_neg e1])
theorem sp_mulb {x y : Int} (h1 : -2000000000 ≤ x ∧ x ≤ 2000000000) (h2 : -2000000000 ≤ y ∧ y ≤ 2000000000) : -4000000000000000000 ≤ x * y ∧ x * y ≤ 4000000000000000000 := by
  have h : (x * y).natAbs ≤ 2000000000 * 2000000000 := by
    rw [Int.natAbs_mul]
    exact Nat.mul_le_mul (by omega) (by omega)
  omega
theorem sp_rnd_b {v : Int} (h1 : -v ≤ a) (h2 : a ≤ v) (hb : b ≠ 0) : -(v + 1) ≤ sp_rnd a b ∧ sp_rnd a b ≤ v + 1 := by
  have ha := sp_ab_b (a := a) (v := v)
  have ha1 := ha.2.1 h1 h2
  have hb2 := (sp_ab_b (a := b) (v := 0)).2.2 hb
  have h3 : 0 ≤ (2 * sp_ab a + sp_ab b) / (2 * sp_ab b) := Int.ediv_nonneg (by omega) (by omega)
  have h4 : (2 * sp_ab a + sp_ab b) / (2 * sp_ab b) ≤ sp_ab a + 1 := by
    apply Int.ediv_le_of_le_mul (by omega)
    have : sp_ab a * 1 ≤ sp_ab a * sp_ab b := Int.mul_le_mul_of_nonneg_left (by omega) ha.1
    rw [Int.mul_comm (sp_ab a + 1), Int.mul_add, Int.mul_assoc, Int.mul_comm (sp_ab b)]
    omega
  unfold sp_rnd
  split <;> omega
theorem sp_pl_b (hv : k = 0 → -2000000000 ≤ v ∧ v ≤ 2000000000) : -2000000000 ≤ sp_pl k v ∧ sp_pl k v ≤ 2000000000 := by
  unfold sp_pl
  split
  · exact hv (by assumption)
  · decide
theorem sp_str_b (h1 : 0 ≤ a ∧ a ≤ 4) (h2 : 0 ≤ b ∧ b ≤ 4) : 0 ≤ sp_str a b ∧ sp_str a b ≤ 4 := by
  unfold sp_str
  split
  · exact h2
  · split
    · exact h1
    · split <;> omega
theorem c_51 (hq : mm_P w) {op ka va kb vb : Int} (ho : 1 ≤ op ∧ op ≤ 4) (ha : 0 ≤ ka ∧ ka ≤ 4) (hb : 0 ≤ kb ∧ kb ≤ 4) (hva : ka = 0 → -2000000000 ≤ va ∧ va ≤ 2000000000) (hvb : kb = 0 → -2000000000 ≤ vb ∧ vb ≤ 2000000000) : am_C (d + 3) 51 [.int (Int32.ofInt (op)), .long (Int64.ofInt (sp_en ka va)), .long (Int64.ofInt (sp_en kb vb))] (mm_hp w μ X n) Q ↔ Q (.inl (some (.long (Int64.ofInt (sp_en (sp_cmb op ka va kb vb).1 (sp_cmb op ka va kb vb).2))))) (mm_hp w μ X n) := by
  have hva' : ka = 0 → -1000000000000 ≤ va ∧ va ≤ 1000000000000 := fun q => by have := hva q; omega
  have hvb' : kb = 0 → -1000000000000 ≤ vb ∧ vb ≤ 1000000000000 := fun q => by have := hvb q; omega
  have hs := sp_str_b ha hb
  have pa := sp_pl_b hva
  have pb := sp_pl_b hvb
  have pm := sp_mulb pa pb
  rw [en_51 (d := d + 2), b_51_0 hq, c_55 (d := d + 1) hq ha hva', bk_v, b_51_4 hq, c_55 (d := d + 1) hq hb hvb', bk_v, b_51_8 hq, c_59 (d := d) hq ha hb, bk_v, b_51_11 hq]
  unfold sp_cmb
  by_cases e : sp_str ka kb ≤ 1
  · rw [if_pos (by rw [mm_lex, mm_wv (by omega) (by omega), mm_wv (by decide) (by decide)]; exact e), if_pos e, c_57 (d := d + 1) hq ha hva', bk_v, b_51_29 hq, c_57 (d := d + 1) hq hb hvb', bk_v, b_51_35 hq, mm_wv (by omega) (by omega)]
    generalize sp_pl ka va = x at *
    generalize sp_pl kb vb = y at *
    by_cases o1 : op = 1
    · rw [if_pos o1, if_pos o1, c_52 (d := d) hq (by omega) (by omega), bk_v, b_51_72 hq]
    · rw [if_neg o1, if_neg o1]
      by_cases o2 : op = 2
      · rw [if_pos o2, if_pos o2, c_52 (d := d) hq (by omega) (by omega), bk_v, b_51_81 hq]
      · rw [if_neg o2, if_neg o2]
        by_cases o3 : op = 3
        · have hr := sp_rnd_b (a := x * y) (b := 1000) (v := 4000000000000000000) (by omega) (by omega) (by decide)
          rw [if_pos o3, if_pos o3, c_58 (d := d) hq (by omega) (by omega) (by decide) (by decide) (by decide), bk_v, b_51_93 hq, c_52 (d := d) hq (by omega) (by omega), bk_v, b_51_96 hq]
        · rw [if_neg o3, if_neg o3]
          by_cases y0 : y = 0
          · rw [if_pos (by rw [y0]), if_pos y0, c_56 (d := d + 1) hq (by decide), bk_v, b_51_108 hq, b_51_125 hq]
          · have hr := sp_rnd_b (a := x * 1000) (b := y) (v := 2000000000000) (by omega) (by omega) y0
            rw [if_neg (by rw [mm_eqx8, mm_w8v (by omega) (by omega), mm_w8v (by decide) (by decide)]; exact y0), if_neg y0, c_58 (d := d) hq (by omega) (by omega) (by omega) (by omega) y0, bk_v, b_51_122 hq, c_52 (d := d) hq (by omega) (by omega), bk_v, b_51_125 hq]
  · rw [if_neg (by rw [mm_lex, mm_wv (by omega) (by omega), mm_wv (by decide) (by decide)]; exact e), if_neg e, c_56 (d := d + 1) hq (by omega), bk_v, b_51_24 hq]
theorem sp_fit_b : (0 ≤ (sp_fit a).1 ∧ (sp_fit a).1 ≤ 4) ∧ (-2000000000 ≤ (sp_fit a).2 ∧ (sp_fit a).2 ≤ 2000000000) := by
  unfold sp_fit
  split
  · rename_i h; exact ⟨⟨Int.le_refl 0, show (0 : Int) ≤ 4 by decide⟩, h⟩
  · exact ⟨⟨by decide, by decide⟩, by decide, by decide⟩
theorem sp_cmb_b {op ka va kb vb : Int} (ha : 0 ≤ ka ∧ ka ≤ 4) (hb : 0 ≤ kb ∧ kb ≤ 4) : (0 ≤ (sp_cmb op ka va kb vb).1 ∧ (sp_cmb op ka va kb vb).1 ≤ 4) ∧ (-2000000000 ≤ (sp_cmb op ka va kb vb).2 ∧ (sp_cmb op ka va kb vb).2 ≤ 2000000000) := by
  have hs := sp_str_b ha hb
  unfold sp_cmb
  split
  · split
    · exact sp_fit_b
    · split
      · exact sp_fit_b
      · split
        · exact sp_fit_b
        · split
          · exact ⟨⟨by decide, by decide⟩, by decide, by decide⟩
          · exact sp_fit_b
  · exact ⟨hs, show (-2000000000 : Int) ≤ 0 by decide, show (0 : Int) ≤ 2000000000 by decide⟩
/-- the reference's weights of kinds -/
def sp_wt (k : Int) : Int := if k = 2 then 3 else if k = 3 then 2 else if k = 4 then 1 else 0
def sp_ow (k : Int) : Int := if k = 3 then 2 else if k = 2 then 3 else 4
theorem sp_wt_b : 0 ≤ sp_wt k ∧ sp_wt k ≤ 3 := by
  unfold sp_wt
  repeat (split; · decide)
  decide
theorem c_241 (hq : mm_P w) (h1 : 0 ≤ k ∧ k ≤ 4) : am_C (d + 1) 241 [.int (Int32.ofInt (k))] (mm_hp w μ X n) Q ↔ Q (.inl (some (.int (Int32.ofInt (sp_wt k))))) (mm_hp w μ X n) := by
  simp only [en_241, b_241_0 hq]
  simp (disch := omega) only [and_self, true_and, mm_ltx, mm_lex, mm_eqx, mm_wv, mm_gd, ↓reduceIte, Int.reduceAdd, Int.reduceSub, Int.reduceNeg, Int.reduceLE, Int.reduceLT, Int.reduceMul, Int.reduceEq, mm_qi (Q := Q)]
  rfl
theorem c_210 (hq : mm_P w) (h1 : 0 ≤ k ∧ k ≤ 4) : am_C (d + 1) 210 [.int (Int32.ofInt (k))] (mm_hp w μ X n) Q ↔ Q (.inl (some (.int (Int32.ofInt (sp_ow k))))) (mm_hp w μ X n) := by
  simp only [en_210, b_210_0 hq]
  simp (disch := omega) only [and_self, true_and, mm_ltx, mm_lex, mm_eqx, mm_wv, mm_gd, ↓reduceIte, Int.reduceAdd, Int.reduceSub, Int.reduceNeg, Int.reduceLE, Int.reduceLT, Int.reduceMul, Int.reduceEq, mm_qi (Q := Q)]
  rfl
theorem c_177 (hq : mm_P w) (h1 : 0 ≤ k ∧ k ≤ 4) : am_C (d + 1) 177 [.int (Int32.ofInt (k))] (mm_hp w μ X n) Q ↔ Q (.inl (some (.int (Int32.ofInt (if k = 2 ∨ k = 3 ∨ k = 4 then 1 else 0))))) (mm_hp w μ X n) := by
  simp only [en_177, b_177_0 hq]
  by_cases e2 : k = 2
  · simp (disch := omega) only [and_self, true_and, mm_ltx, mm_lex, mm_eqx, mm_wv, mm_gd, ↓reduceIte, Int.reduceAdd, Int.reduceSub, Int.reduceNeg, Int.reduceLE, Int.reduceLT, Int.reduceMul, Int.reduceEq, if_pos, if_neg]
  · by_cases e3 : k = 3
    · simp (disch := omega) only [and_self, true_and, mm_ltx, mm_lex, mm_eqx, mm_wv, mm_gd, ↓reduceIte, Int.reduceAdd, Int.reduceSub, Int.reduceNeg, Int.reduceLE, Int.reduceLT, Int.reduceMul, Int.reduceEq, if_pos, if_neg]
    · by_cases e4 : k = 4
      · simp (disch := omega) only [and_self, true_and, mm_ltx, mm_lex, mm_eqx, mm_wv, mm_gd, ↓reduceIte, Int.reduceAdd, Int.reduceSub, Int.reduceNeg, Int.reduceLE, Int.reduceLT, Int.reduceMul, Int.reduceEq, if_pos, if_neg]
      · simp (disch := omega) only [and_self, true_and, mm_ltx, mm_lex, mm_eqx, mm_wv, mm_gd, ↓reduceIte, Int.reduceAdd, Int.reduceSub, Int.reduceNeg, Int.reduceLE, Int.reduceLT, Int.reduceMul, Int.reduceEq, if_pos, if_neg]
/-- the result that the reference keeps -/
def rres (μ : mm_M) (k v : Int) : mm_M := mm_u (mm_u μ 129 62 k) 129 63 v
theorem c_223 (hq : mm_P w) (hk : 0 ≤ k ∧ k ≤ 4) (h1 : -9000000000000000000 ≤ v) (h2 : v ≤ 9000000000000000000) : am_C (d + 2) 223 [.ref 129, .int (Int32.ofInt (k)), .long (Int64.ofInt (v))] (mm_hp w μ X n) Q ↔ Q (.inl none) (mm_hp w (rres μ (if k = 0 then (sp_fit v).1 else k) (if k = 0 then (sp_fit v).2 else 0)) X n) := by
  have t17 : ∀ s : Int, 0 ≤ s → s ≤ 4 → (am_E (d + 1) 223 Q (17, [some (.ref 129), some (.int (Int32.ofInt (k))), some (.long (Int64.ofInt (v))), none], [.int (Int32.ofInt (s)), .ref 129], mm_hp w μ X n) ↔ Q (.inl none) (mm_hp w (rres μ s (if s = 0 then v else 0)) X n)) := by
    intro s s0 s4
    rw [b_223_17 hq, mm_us]
    by_cases e : s = 0
    · rw [if_pos (by rw [e]), b_223_33 hq, if_pos e]; rfl
    · rw [if_neg (by rw [mm_eqx, mm_wv (by omega) (by omega), mm_wv (by decide) (by decide)]; exact e), b_223_33 hq, if_neg e]; rfl
  rw [en_223 (d := d + 1), b_223_0 hq]
  by_cases e : k = 0
  · rw [if_pos (by rw [e]), c_197 (d := d) hq (by omega) (by omega), bk_v, b_223_9 hq, if_pos e, if_pos e]
    unfold sp_fit
    by_cases f : -2000000000 ≤ v ∧ v ≤ 2000000000
    · rw [if_pos f, if_neg (by decide), b_223_16 hq, t17 k hk.1 hk.2, if_pos e, if_pos f, e]
    · rw [if_neg f, if_pos (by decide), t17 3 (by decide) (by decide), if_neg (by decide), if_neg f]
  · rw [if_neg (by rw [mm_eqx, mm_wv (by omega) (by omega), mm_wv (by decide) (by decide)]; exact e), b_223_16 hq, t17 k hk.1 hk.2, if_neg e, if_neg e, if_neg e]
/-- an operand comes on the reference's stack -/
def rpsh (μ : mm_M) (k v : Int) : mm_M := mm_u (mm_u (mm_u μ 173 (μ 129 59) k) 174 (μ 129 59) (if k = 0 then v else 0)) 129 59 (μ 129 59 + 1)
theorem c_217 (hq : mm_P w) (hk : 0 ≤ k ∧ k ≤ 4) (ho : 0 ≤ μ 129 59 ∧ μ 129 59 < 640) : am_C (d + 1) 217 [.ref 129, .int (Int32.ofInt (k)), .long (Int64.ofInt (v))] (mm_hp w μ X n) Q ↔ Q (.inl none) (mm_hp w (rpsh μ k v) X n) := by
  rw [en_217, b_217_0 hq]
  simp (disch := omega) only [mm_wv, mm_gd, mm_uu (show (129 : Nat) ≠ 173 by decide), mm_uu (show (129 : Nat) ≠ 174 by decide)]
  unfold rpsh
  by_cases e : k = 0
  · rw [if_pos (by rw [e]), b_217_27 hq, if_pos e]
    simp (disch := omega) only [mm_wv, mm_gd, mm_uu (show (129 : Nat) ≠ 173 by decide), mm_uu (show (129 : Nat) ≠ 174 by decide)]
  · rw [if_neg (by rw [mm_eqx, mm_wv (by omega) (by omega), mm_wv (by decide) (by decide)]; exact e), b_217_27 hq, if_neg e]
    simp (disch := omega) only [mm_wv, mm_gd, mm_uu (show (129 : Nat) ≠ 173 by decide), mm_uu (show (129 : Nat) ≠ 174 by decide)]
end AM
