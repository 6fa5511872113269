/-! A builder of text: a whole number is appended. -/
/-- the number's digits, m of them, ahead of place e -/
def dw (f : Int → Int) (e q m : Int) : Int → Int := fun j => if e - m ≤ j ∧ j < e then 48 + q / 10 ^ (e - 1 - j).toNat % 10 else f j
/-- how many digits -/
def nd (q : Int) : Int := if q < 10 then 1 else if q < 100 then 2 else if q < 1000 then 3 else if q < 10000 then 4 else if q < 100000 then 5 else if q < 1000000 then 6 else 7
section SB
variable {d : Nat} {Q : am_Ou → am_G → Prop} {w : mm_Z} {μ : mm_M} {X : mm_X} {n : mm_N} {a : Nat} {f : Int → Int} {c x z y s q m e e0 p i : Int} {g : am_G} {l3 l4 : Option Value}
theorem nd_b : 1 ≤ nd q ∧ nd q ≤ 7 := by
  unfold nd
  (repeat' split) <;> omega
theorem nd_1 (h : q < 10) : nd q = 1 := if_pos h
theorem nd_2 (h0 : 10 ≤ q) (h : q < 100) : nd q = 2 := by
  unfold nd
  rw [if_neg (by omega), if_pos h]
theorem nd_S (h0 : 100 ≤ q) (h : q < 10000000) : nd q = nd (q / 100) + 2 := by
  unfold nd
  rw [if_neg (by omega), if_neg (by omega)]
  by_cases k3 : q < 1000
  · rw [if_pos k3, if_pos (by omega)]
    decide
  · by_cases k4 : q < 10000
    · rw [if_neg k3, if_pos k4, if_neg (by omega), if_pos (by omega)]
      decide
    · by_cases k5 : q < 100000
      · rw [if_neg k3, if_neg k4, if_pos k5, if_neg (by omega), if_neg (by omega), if_pos (by omega)]
        decide
      · by_cases k6 : q < 1000000
        · rw [if_neg k3, if_neg k4, if_neg k5, if_pos k6, if_neg (by omega), if_neg (by omega), if_neg (by omega), if_pos (by omega)]
          decide
        · rw [if_neg k3, if_neg k4, if_neg k5, if_neg k6, if_neg (by omega), if_neg (by omega), if_neg (by omega), if_neg (by omega), if_pos (by omega)]
          decide
theorem dw_1 (h0 : 0 ≤ q) (h1 : q < 10) : sbu f (e + -1) (48 + q) = dw f e q 1 := by
  funext j
  unfold sbu dw
  by_cases k : j = e + -1
  · rw [if_pos k, if_pos (by omega), show (e - 1 - j).toNat = 0 by omega, Int.pow_zero, Int.ediv_one, Int.emod_eq_of_lt h0 h1]
  · rw [if_neg k, if_neg (by omega)]
theorem dw_2 (h0 : 0 ≤ q) (h1 : q < 100) : sbu (sbu f (e + -1) (48 + q % 10)) (e + -1 + -1) (48 + q / 10) = dw f e q 2 := by
  funext j
  unfold sbu dw
  by_cases k : j = e + -1 + -1
  · rw [if_pos k, if_pos (by omega), show (e - 1 - j).toNat = 1 by omega]
    have : (10 : Int) ^ 1 = 10 := by decide
    rw [this, Int.emod_eq_of_lt (by omega) (by omega)]
  · rw [if_neg k]
    by_cases k2 : j = e + -1
    · rw [if_pos k2, if_pos (by omega), show (e - 1 - j).toNat = 0 by omega, Int.pow_zero, Int.ediv_one]
    · rw [if_neg k2, if_neg (by omega)]
theorem dw_S (h0 : 0 ≤ q) (hm : 0 ≤ m) : dw (sbu (sbu f (e + -1) (48 + q % 100 % 10)) (e + -1 + -1) (48 + q % 100 / 10)) (e + -1 + -1) (q / 100) m = dw f e q (m + 2) := by
  funext j
  unfold dw
  by_cases k : e + -1 + -1 - m ≤ j ∧ j < e + -1 + -1
  · rw [if_pos k, if_pos (by omega)]
    obtain ⟨t, ht⟩ : ∃ t : Nat, (e + -1 + -1 - 1 - j).toNat = t := ⟨_, rfl⟩
    rw [ht, show (e - 1 - j).toNat = 2 + t by omega, Int.pow_add]
    have : (10 : Int) ^ 2 = 100 := by decide
    rw [this, Int.ediv_ediv_of_nonneg (by decide)]
  · rw [if_neg k]
    unfold sbu
    by_cases k1 : j = e + -1 + -1
    · rw [if_pos k1, if_pos (by omega), show (e - 1 - j).toNat = 1 by omega]
      have : (10 : Int) ^ 1 = 10 := by decide
      rw [this]
      omega
    · rw [if_neg k1]
      by_cases k2 : j = e + -1
      · rw [if_pos k2, if_pos (by omega), show (e - 1 - j).toNat = 0 by omega, Int.pow_zero, Int.ediv_one]
        omega
      · rw [if_neg k2, if_neg (by omega)]
theorem sb_dvn (h0 : 0 ≤ q) (h1 : q < 10000000) : mm_dv (-q) 100 = -(q / 100) := by
  rw [mm_dvt (by omega) (by omega) (by decide) (by decide), Int.neg_tdiv, Int.tdiv_eq_ediv_of_nonneg h0]
theorem sb_old (k : Nat) (hk : k = 19 ∨ k = 20) : (mm_hp w μ X n).1 k = some (.inl (.byte, 100, .inl fun j => (am_oll k).getD j 0)) := by
  show (if k < 32 then am_g0m w.1 w.2.1 w.2.2.1 k else _) = _
  rcases hk with rfl | rfl
  · rw [if_pos (by decide)]
    unfold am_g0m
    rw [if_neg (by decide), if_neg (by decide), if_pos (by decide)]
    rfl
  · rw [if_pos (by decide)]
    unfold am_g0m
    rw [if_neg (by decide), if_neg (by decide), if_pos (by decide)]
    rfl
theorem sb_t19 : ∀ j : Nat, j < 100 → (am_oll 19).getD j 0 = Int32.ofInt (48 + (j : Int) % 10) := by decide +kernel
theorem sb_t20 : ∀ j : Nat, j < 100 → (am_oll 20).getD j 0 = Int32.ofInt (48 + (j : Int) / 10) := by decide +kernel
theorem sb_out2 (h0 : 0 ≤ z) (h1 : z < 100) : am_out (Int32.ofInt z) 100 = false := by
  rw [mm_outx, mm_wv (by omega) (by omega)]
  have : (0 ≤ z ∧ z < ((100 : Nat) : Int)) := ⟨h0, by omega⟩
  rw [decide_eq_true this]
  rfl
theorem sb_ones (h0 : 0 ≤ z) (h1 : z < 100) : am_iat .baload (mm_hp w μ X n) 19 (Int32.ofInt z) = some (.int (Int32.ofInt (48 + z % 10))) := by
  have hc := sb_cl (z := z) h0 (by omega)
  rw [am_iat_y (sb_old 19 (Or.inl rfl)) (sb_out2 h0 h1), sb_t19 _ (by omega), hc]
theorem sb_tens (h0 : 0 ≤ z) (h1 : z < 100) : am_iat .baload (mm_hp w μ X n) 20 (Int32.ofInt z) = some (.int (Int32.ofInt (48 + z / 10))) := by
  have hc := sb_cl (z := z) h0 (by omega)
  rw [am_iat_y (sb_old 20 (Or.inr rfl)) (sb_out2 h0 h1), sb_t20 _ (by omega), hc]
theorem c_266_16 (q0 : 0 ≤ q) (q1 : q < 10000000) (p0 : -10000000 ≤ p) (p1 : p < 0) (i0 : 0 ≤ i) (i1 : i < 10) : am_E d 266 Q (16, [some (.int (Int32.ofInt (-q))), some (.int (Int32.ofInt 0)), some (.int (Int32.ofInt p)), some (.int (Int32.ofInt i))], [], g) ↔ if p < -q then Q (.inl (some (.int (Int32.ofInt i)))) g else am_E d 266 Q (16, [some (.int (Int32.ofInt (-q))), some (.int (Int32.ofInt 0)), some (.int (Int32.ofInt (10 * p))), some (.int (Int32.ofInt (i + 1)))], [], g) := by
  rw [x_266_16, lc_I_3, x_266_17, show ((10 : Int32)) = Int32.ofInt (10) from by decide, x_266_19, am_cmp_ge, am_E_ite, if_neg (by rw [mm_lex, mm_wv (by omega) (by omega), mm_wv (by omega) (by omega)]; omega), x_266_22, lc_I_0, x_266_23, lc_I_2, x_266_24, am_cmp_le, am_E_ite]
  by_cases k : p < -q
  · rw [if_pos k, if_neg (by rw [mm_lex, mm_wv (by omega) (by omega), mm_wv (by omega) (by omega)]; omega), x_266_27, lc_I_3, x_266_28, lc_I_1, x_266_29, mm_ad, x_266_30, if_pos (by rfl), Int.add_zero]
  · rw [if_neg k, if_pos (by rw [mm_lex, mm_wv (by omega) (by omega), mm_wv (by omega) (by omega)]; omega), x_266_31, show ((10 : Int32)) = Int32.ofInt (10) from by decide, x_266_33, lc_I_2, x_266_34, mm_ml, x_266_35, sc_I_2 (by first | rfl | assumption), x_266_36 rfl (by simp), s1_3 (by first | rfl | assumption), show ((1 : Int32)) = Int32.ofInt (1) from by decide, mm_ad, x_266_39]
theorem c_266 (q0 : 0 ≤ q) (q1 : q < 10000000) : am_C (d + 1) 266 [.int (Int32.ofInt q)] g Q ↔ Q (.inl (some (.int (Int32.ofInt (nd q))))) g := by
  rw [am_C_in (by simp [am_arg, m_266, Value.category]), show am_loc 266 [.int (Int32.ofInt q)] = [some (.int (Int32.ofInt q)), none, none, none] from by simp [am_loc, am_arg, m_266, Value.category, List.replicate]]
  rw [x_266_0, show ((1 : Int32)) = Int32.ofInt (1) from by decide, x_266_1, sc_I_1 (by first | rfl | assumption), x_266_2, lc_I_0, x_266_3, mm_L0, am_cmp_lt, am_E_ite, if_neg (by rw [mm_ltx, mm_wv (by omega) (by omega), mm_wv (by omega) (by omega)]; omega), x_266_6, show ((0 : Int32)) = Int32.ofInt (0) from by decide, x_266_7, sc_I_1 (by first | rfl | assumption), x_266_8, lc_I_0, x_266_9, mm_ng, x_266_10, sc_I_0, x_266_11, show ((-10 : Int32)) = Int32.ofInt (-10) from by decide, x_266_13, sc_I_2 (by first | rfl | assumption), x_266_14, show ((1 : Int32)) = Int32.ofInt (1) from by decide, x_266_15, sc_I_3 (by first | rfl | assumption)]
  unfold nd
  rw [c_266_16 q0 q1 (by omega) (by omega) (by omega) (by omega)]
  by_cases k1 : q < 10
  · rw [if_pos (by omega), if_pos k1]
  rw [if_neg (by omega), if_neg k1, c_266_16 q0 q1 (by omega) (by omega) (by omega) (by omega)]
  by_cases k2 : q < 100
  · rw [if_pos (by omega), if_pos k2]
    exact Iff.rfl
  rw [if_neg (by omega), if_neg k2, c_266_16 q0 q1 (by omega) (by omega) (by omega) (by omega)]
  by_cases k3 : q < 1000
  · rw [if_pos (by omega), if_pos k3]
    exact Iff.rfl
  rw [if_neg (by omega), if_neg k3, c_266_16 q0 q1 (by omega) (by omega) (by omega) (by omega)]
  by_cases k4 : q < 10000
  · rw [if_pos (by omega), if_pos k4]
    exact Iff.rfl
  rw [if_neg (by omega), if_neg k4, c_266_16 q0 q1 (by omega) (by omega) (by omega) (by omega)]
  by_cases k5 : q < 100000
  · rw [if_pos (by omega), if_pos k5]
    exact Iff.rfl
  rw [if_neg (by omega), if_neg k5, c_266_16 q0 q1 (by omega) (by omega) (by omega) (by omega)]
  by_cases k6 : q < 1000000
  · rw [if_pos (by omega), if_pos k6]
    exact Iff.rfl
  rw [if_neg (by omega), if_neg k6, c_266_16 q0 q1 (by omega) (by omega) (by omega) (by omega)]
  rw [if_pos (by omega)]
  exact Iff.rfl
/-- the digits are written from the last one on -/
theorem c_265_22 (h : sb_o w a) : ∀ (k : Nat) (q e : Int) (f : Int → Int) (l3 l4 : Option Value), am_n2 l4 = true → 0 ≤ q → q < 10000000 → q < 100 ^ (k + 1) → nd q ≤ e → e ≤ 16 →
    (am_E d 265 Q (22, [some (.int (Int32.ofInt (-q))), some (.int (Int32.ofInt e0)), some (.ref (a + 1)), l3, l4, some (.int (Int32.ofInt e)), some (.int (Int32.ofInt 0))], [], (mm_hp w μ (sbX X a f c) n)) ↔ Q (.inl (some (.int (Int32.ofInt (e - nd q))))) (mm_hp w μ (sbX X a (dw f e q (nd q)) c) n)) := by
  have fin : ∀ (q e : Int) (f : Int → Int) (l3 l4 : Option Value), am_n2 l4 = true → 0 ≤ q → q < 100 → nd q ≤ e → e ≤ 16 →
    (am_E d 265 Q (72, [some (.int (Int32.ofInt (-q))), some (.int (Int32.ofInt e0)), some (.ref (a + 1)), l3, l4, some (.int (Int32.ofInt e)), some (.int (Int32.ofInt 0))], [], (mm_hp w μ (sbX X a f c) n)) ↔ Q (.inl (some (.int (Int32.ofInt (e - nd q))))) (mm_hp w μ (sbX X a (dw f e q (nd q)) c) n)) := by
    intro q e f l3 l4 hl q0 q1 e1 e2
    have hb := nd_b (q := q)
    rw [x_265_72, lc_A_2, x_265_73 rfl (by simp), s1_5 (by first | rfl | assumption), show ((-1 : Int32)) = Int32.ofInt (-1) from by decide, mm_ad, x_265_76, lc_I_5, x_265_78, am_gsA s_265_83, am_K_go, x_265_81, lc_I_0, x_265_82, mm_ng, show -(-q) = q by omega, x_265_83, sb_ones q0 q1, am_kv_some, x_265_84, sb_st h (by omega) (by omega) (by omega) (by omega), am_kg_some, x_265_85, lc_I_0, x_265_86, show ((-9 : Int32)) = Int32.ofInt (-9) from by decide, x_265_88, am_cmp_ge, am_E_ite]
    by_cases k : q < 10
    · rw [if_pos (by rw [mm_lex, mm_wv (by omega) (by omega), mm_wv (by omega) (by omega)]; omega), x_265_104, lc_I_6, x_265_106, mm_L0, am_cmp_eq, am_E_ite, if_pos (by rfl), x_265_118, lc_I_5, x_265_120, if_pos (by rfl), nd_1 k, Int.emod_eq_of_lt q0 k, dw_1 q0 k]
      exact Iff.rfl
    · have h2 := nd_2 (q := q) (by omega) q1
      rw [if_neg (by rw [mm_lex, mm_wv (by omega) (by omega), mm_wv (by omega) (by omega)]; omega), x_265_91, lc_A_2, x_265_92 rfl (by simp), s1_5 (by first | rfl | assumption), show ((-1 : Int32)) = Int32.ofInt (-1) from by decide, mm_ad, x_265_95, lc_I_5, x_265_97, am_gsB s_265_87, am_K_go, x_265_100, lc_I_0, x_265_101, mm_ng, show -(-q) = q by omega, x_265_102, sb_tens q0 q1, am_kv_some, x_265_103, sb_st h (by omega) (by omega) (by omega) (by omega), am_kg_some, x_265_104, lc_I_6, x_265_106, mm_L0, am_cmp_eq, am_E_ite, if_pos (by rfl), x_265_118, lc_I_5, x_265_120, if_pos (by rfl), h2, dw_2 q0 q1, show e + -1 + -1 = e - 2 by omega]
  intro k
  induction k with
  | zero =>
    intro q e f l3 l4 hl q0 q1 q2 e1 e2
    have q3 : q < 100 := q2
    rw [x_265_22, lc_I_0, x_265_23, show ((-100 : Int32)) = Int32.ofInt (-100) from by decide, x_265_25, am_cmp_gt, am_E_ite, if_pos (by rw [mm_ltx, mm_wv (by omega) (by omega), mm_wv (by omega) (by omega)]; omega)]
    exact fin q e f l3 l4 hl q0 q3 e1 e2
  | succ k ih =>
    intro q e f l3 l4 hl q0 q1 q2 e1 e2
    rw [x_265_22, lc_I_0, x_265_23, show ((-100 : Int32)) = Int32.ofInt (-100) from by decide, x_265_25, am_cmp_gt, am_E_ite]
    by_cases q3 : q < 100
    · rw [if_pos (by rw [mm_ltx, mm_wv (by omega) (by omega), mm_wv (by omega) (by omega)]; omega)]
      exact fin q e f l3 l4 hl q0 q3 e1 e2
    · have hS := nd_S (q := q) (by omega) q1
      have hb := nd_b (q := q / 100)
      have q4 : q / 100 < 100 ^ (k + 1) := by
        refine Int.ediv_lt_of_lt_mul (by decide) ?_
        rw [← Int.pow_succ]
        exact q2
      rw [if_neg (by rw [mm_ltx, mm_wv (by omega) (by omega), mm_wv (by omega) (by omega)]; omega), x_265_28, lc_I_0, x_265_29, show ((100 : Int32)) = Int32.ofInt (100) from by decide, x_265_31, if_neg (by decide), mm_dvx, x_265_32, sc_I_3 (by first | rfl | assumption), x_265_33, lc_I_3, x_265_34, show ((100 : Int32)) = Int32.ofInt (100) from by decide, x_265_36, mm_ml, x_265_37, lc_I_0, x_265_38, mm_sb, x_265_39, sc_I_4 (by first | rfl | assumption), x_265_41, lc_I_3, x_265_42, sc_I_0, x_265_43, lc_A_2, x_265_44 rfl (by simp), s1_5 (by first | rfl | assumption), show ((-1 : Int32)) = Int32.ofInt (-1) from by decide, mm_ad, x_265_47, lc_I_5, x_265_49, am_gsA s_265_83, am_K_go, x_265_52, lc_I_4, sb_dvn q0 q1, show -(q / 100) * 100 - -q = q % 100 by omega, x_265_54, sb_ones (by omega) (by omega), am_kv_some, x_265_55, sb_st h (by omega) (by omega) (by omega) (by omega), am_kg_some, x_265_56, lc_A_2, x_265_57 rfl (by simp), s1_5 (by first | rfl | assumption), show ((-1 : Int32)) = Int32.ofInt (-1) from by decide, mm_ad, x_265_60, lc_I_5, x_265_62, am_gsB s_265_87, am_K_go, x_265_65, lc_I_4, x_265_67, sb_tens (by omega) (by omega), am_kv_some, x_265_68, sb_st h (by omega) (by omega) (by omega) (by omega), am_kg_some, x_265_69]
      rw [ih (q / 100) (e + -1 + -1) _ _ _ rfl (by omega) (by omega) q4 (by omega) (by omega), dw_S q0 (by omega), hS, show e + -1 + -1 - nd (q / 100) = e - (nd (q / 100) + 2) by omega]
theorem c_265 (h : sb_o w a) (q0 : 0 ≤ q) (q1 : q < 10000000) (e1 : nd q ≤ e) (e2 : e ≤ 16) : am_C (d + 1) 265 [.int (Int32.ofInt q), .int (Int32.ofInt e), .ref (a + 1)] (mm_hp w μ (sbX X a f c) n) Q ↔ Q (.inl (some (.int (Int32.ofInt (e - nd q))))) (mm_hp w μ (sbX X a (dw f e q (nd q)) c) n) := by
  have hb := nd_b (q := q)
  rw [am_C_in (by simp [am_arg, m_265, Value.category]), show am_loc 265 [.int (Int32.ofInt q), .int (Int32.ofInt e), .ref (a + 1)] = [some (.int (Int32.ofInt q)), some (.int (Int32.ofInt e)), some (.ref (a + 1)), none, none, none, none] from by simp [am_loc, am_arg, m_265, Value.category, List.replicate]]
  rw [x_265_0, lc_I_1, x_265_1, sc_I_5 (by first | rfl | assumption), x_265_3, lc_I_0, x_265_4, mm_L0, am_cmp_ge, am_E_ite, if_pos (by rw [mm_lex, mm_wv (by omega) (by omega), mm_wv (by omega) (by omega)]; omega), x_265_11, show ((0 : Int32)) = Int32.ofInt (0) from by decide, x_265_12, sc_I_6 (by first | rfl | assumption), x_265_14, lc_I_6, x_265_16, mm_L0, am_cmp_ne, am_E_ite, if_pos (by rfl), x_265_19, lc_I_0, x_265_20, mm_ng, x_265_21, sc_I_0]
  exact c_265_22 h 3 q e f none none rfl q0 q1 (Int.lt_of_lt_of_le q1 (by decide)) e1 e2
theorem c_248 (h : sb_o w a) (q0 : 0 ≤ q) (q1 : q < 10000000) (c0 : 0 ≤ c) (c1 : c + nd q ≤ 16) : am_C (d + 2) 248 [.ref a, .int (Int32.ofInt q)] (mm_hp w μ (sbX X a f c) n) Q ↔ Q (.inl (some (.ref a))) (mm_hp w μ (sbX X a (dw f (c + nd q) q (nd q)) (c + nd q)) n) := by
  have hb := nd_b (q := q)
  rw [am_C_in (by simp [am_arg, m_248, Value.category]), show am_loc 248 [.ref a, .int (Int32.ofInt q)] = [some (.ref a), some (.int (Int32.ofInt q)), none, none] from by simp [am_loc, am_arg, m_248, Value.category, List.replicate]]
  rw [x_248_0, lc_A_0, x_248_1, sb_gf3 h, am_kv_some, x_248_4, sc_I_2 (by first | rfl | assumption), x_248_5, lc_I_2, x_248_6, lc_I_1, z_248_7 (by simp), c_266 q0 q1, bk_v, x_248_10, mm_ad, x_248_11, sc_I_3 (by first | rfl | assumption), x_248_12, lc_A_0, x_248_13, lc_I_3, z_248_14 (by simp) (sb_oc h), c_252 h (by omega) (by omega), bk_n, x_248_17, lc_A_0, z_248_18 (by simp) (sb_oc h), c_255 h, bk_v, x_248_21, mm_L0, am_cmp_eq, am_E_ite, if_neg (by decide), x_248_24, lc_I_1, x_248_25, lc_I_3, x_248_26, lc_A_0, x_248_27, sb_gf0 h, am_kv_some, z_248_30 (by simp), c_265 h q0 q1 (by omega) (by omega), bk_v, x_248_33, if_pos (by first | rfl | exact ⟨rfl, rfl⟩), x_248_34, x_248_48, lc_A_0, x_248_49, lc_I_3, y_248_50, sb_pf3 h, am_kg_some, x_248_53, lc_A_0, x_248_54, if_pos (by rfl)]
theorem c_283 (h : sb_o w a) (q0 : 0 ≤ q) (q1 : q < 10000000) (c0 : 0 ≤ c) (c1 : c + nd q ≤ 16) : am_C (d + 3) 283 [.ref a, .int (Int32.ofInt q)] (mm_hp w μ (sbX X a f c) n) Q ↔ Q (.inl (some (.ref a))) (mm_hp w μ (sbX X a (dw f (c + nd q) q (nd q)) (c + nd q)) n) := by
  rw [am_C_in (by simp [am_arg, m_283, Value.category]), show am_loc 283 [.ref a, .int (Int32.ofInt q)] = [some (.ref a), some (.int (Int32.ofInt q))] from by simp [am_loc, am_arg, m_283, Value.category, List.replicate]]
  rw [x_283_0, lc_A_0, x_283_1, lc_I_1, z_283_2 (by simp) (sb_oc h), c_248 h q0 q1 c0 c1, bk_v, x_283_5, if_pos (by first | rfl | exact ⟨rfl, rfl⟩), x_283_6, lc_A_0, x_283_7, if_pos (by rfl)]
end SB
