/-! Integers of the machine in range; filling an array; small helpers. -/
section MV
variable {a b z : Int} {N : Nat}
theorem mm_w_b : -2147483648 ≤ mm_w z ∧ mm_w z ≤ 2147483647 := by
  unfold mm_w
  have h1 := Int32.le_toInt (Int32.ofInt z)
  have h2 := Int32.toInt_lt (Int32.ofInt z)
  omega
theorem mm_wv (h1 : -2147483648 ≤ z) (h2 : z ≤ 2147483647) : mm_w z = z := Int32.toInt_ofInt_of_le (by omega) (by omega)
theorem mm_ww : mm_w (mm_w z) = mm_w z := mm_wv mm_w_b.1 mm_w_b.2
theorem mm_ow : Int32.ofInt (mm_w z) = Int32.ofInt z := Int32.ofInt_toInt _
theorem mm_ltx : (Int32.ofInt a < Int32.ofInt b) = (mm_w a < mm_w b) := propext Int32.lt_iff_toInt_lt
theorem mm_lex : (Int32.ofInt a ≤ Int32.ofInt b) = (mm_w a ≤ mm_w b) := propext Int32.le_iff_toInt_le
theorem mm_eqx : (Int32.ofInt a = Int32.ofInt b) = (mm_w a = mm_w b) := propext Int32.toInt_inj.symm
theorem mm_w8v (h1 : -9223372036854775808 ≤ z) (h2 : z ≤ 9223372036854775807) : mm_w8 z = z := Int64.toInt_ofInt_of_le (by omega) (by omega)
theorem mm_ltx8 : (Int64.ofInt a < Int64.ofInt b) = (mm_w8 a < mm_w8 b) := propext Int64.lt_iff_toInt_lt
theorem mm_lex8 : (Int64.ofInt a ≤ Int64.ofInt b) = (mm_w8 a ≤ mm_w8 b) := propext Int64.le_iff_toInt_le
theorem mm_eqx8 : (Int64.ofInt a = Int64.ofInt b) = (mm_w8 a = mm_w8 b) := propext Int64.toInt_inj.symm
theorem mm_dvt (h1 : -2147483648 ≤ a) (h2 : a ≤ 2147483647) (h3 : 0 < b) (h4 : b ≤ 2147483647) : mm_dv a b = a.tdiv b := by
  unfold mm_dv
  rw [Int32.toInt_div, Int32.toInt_ofInt_of_le (by omega) (by omega), Int32.toInt_ofInt_of_le (by omega) (by omega)]
  have h5 : (a.tdiv b).natAbs ≤ a.natAbs := by rw [Int.natAbs_tdiv]; exact Nat.div_le_self _ _
  have h6 : a < 0 → a.tdiv b ≤ 0 := fun h => by
    have := Int.tdiv_nonneg (a := -a) (b := b) (by omega) (by omega)
    rw [Int.neg_tdiv] at this
    omega
  have h7 : 0 ≤ a → 0 ≤ a.tdiv b := fun h => Int.tdiv_nonneg h (by omega)
  exact Int.bmod_eq_of_le (by omega) (by omega)
theorem mm_dvp (h1 : 0 ≤ a) (h2 : a ≤ 2147483647) (h3 : 0 < b) (h4 : b ≤ 2147483647) : mm_dv a b = a / b := by
  rw [mm_dvt (by omega) h2 h3 h4, Int.tdiv_eq_ediv_of_nonneg h1]
theorem mm_ifz {c : Prop} {_ : Decidable c} : (Int32.ofInt (if c then 1 else 0) = Int32.ofInt 0) = ¬ c := by
  by_cases h : c
  · rw [if_pos h]; exact propext ⟨fun q => absurd q (by decide), fun q => absurd h q⟩
  · rw [if_neg h]; exact propext ⟨fun _ => h, fun _ => rfl⟩
theorem mm_okc {c : Prop} {_ : Decidable c} : (am_ok .boolean (.int (Int32.ofInt (if c then 1 else 0))) = true) = True := by
  by_cases h : c
  · rw [if_pos h]; exact eq_true rfl
  · rw [if_neg h]; exact eq_true rfl
theorem mm_b10 : mm_b1 0 = 0 := by decide
theorem mm_b11 : mm_b1 1 = 1 := by decide
def mm_fi (μ : mm_M) (a : Nat) (N v : Int) : mm_M := fun b j => if b = a ∧ 0 ≤ j ∧ j < N then v else μ b j
end MV
section MF
variable {d : Nat} {Q : am_Ou → am_G → Prop} {w : mm_Z} {μ : mm_M} {X : mm_X} {n : mm_N}
theorem mm_fi0 {a : Nat} {v : Int} : mm_fi μ a 0 v = μ := by
  funext b j
  exact if_neg (by omega)
theorem mm_fi_u {a : Nat} {i v : Int} (h : 0 ≤ i) : mm_u (mm_fi μ a i v) a i v = mm_fi μ a (i + 1) v := by
  funext b j
  unfold mm_u mm_fi
  by_cases e : b = a ∧ 0 ≤ j ∧ j < i + 1
  · rw [if_pos e]
    by_cases e2 : j = i
    · rw [if_pos ⟨e.1, e2⟩]
    · rw [if_neg (fun q => e2 q.2), if_pos ⟨e.1, e.2.1, by omega⟩]
  · rw [if_neg e, if_neg (fun q => e ⟨q.1, by omega, by omega⟩), if_neg (fun q => e ⟨q.1, q.2.1, by omega⟩)]
theorem c_311_5 {a N : Nat} {v : Int} (h1 : 32 ≤ a) (h2 : w.2.2.2 a = true) (h : mm_sh a = (2, N)) (hN : N < 1000) : ∀ (k : Nat) (i : Int), 0 ≤ i → i + k = N → (am_E d 311 Q (5, [some (.ref a), some (.int (Int32.ofInt v)), some (.int (Int32.ofInt i)), some (.int (Int32.ofInt N))], [], mm_hp w (mm_fi μ a i v) X n) ↔ Q (.inl none) (mm_hp w (mm_fi μ a N v) X n)) := by
  intro k
  induction k with
  | zero =>
    intro i h0 hi
    have e : i = N := by omega
    subst e
    simp only [x_311_5, x_311_6, x_311_7, lc_I_2, lc_I_3, am_cmp_ge, am_E_ite, mm_lex, Int.le_refl, if_true, x_311_20]
  | succ k ih =>
    intro i h0 hi
    have hinc : ∀ g, am_E d 311 Q (14, [some (.ref a), some (.int (Int32.ofInt v)), some (.int (Int32.ofInt i)), some (.int (Int32.ofInt N))], [], g) ↔ am_E d 311 Q (17, [some (.ref a), some (.int (Int32.ofInt v)), some (.int (Int32.ofInt (i + 1))), some (.int (Int32.ofInt N))], [], g) := fun g => mm_s1x (v' := 1) (x_311_14 rfl (by simp only [List.length_cons, List.length_nil]; omega)) (by decide) (s1_2 rfl)
    have hw : mm_w i = i := mm_wv (by omega) (by omega)
    have hw2 : mm_w N = N := mm_wv (by omega) (by omega)
    simp only [x_311_5, x_311_6, x_311_7, lc_I_2, lc_I_3, am_cmp_ge, am_E_ite, mm_lex, hw, hw2, if_neg (show ¬ (N : Int) ≤ i by omega), x_311_10, lc_A_0, x_311_11, x_311_12, lc_I_1, x_311_13, mm_ias h1 h2 h, mm_kg, hinc, x_311_17, mm_fi_u h0, ih (i + 1) (by omega) (by omega)]
    exact ⟨fun q => q.2, fun q => ⟨⟨h0, by omega⟩, q⟩⟩
theorem c_311 {a N : Nat} {v : Int} (h1 : 32 ≤ a) (h2 : w.2.2.2 a = true) (h : mm_sh a = (2, N)) (hN : N < 1000) : am_C (d + 1) 311 [.ref a, .int (Int32.ofInt v)] (mm_hp w μ X n) Q ↔ Q (.inl none) (mm_hp w (mm_fi μ a N v) X n) := by
  rw [am_C_in (by simp [am_arg, m_311, Value.category]), show am_loc 311 [.ref a, .int (Int32.ofInt v)] = [some (.ref a), some (.int (Int32.ofInt v)), none, none] from by simp [am_loc, am_arg, m_311, Value.category, List.replicate]]
  have := c_311_5 (d := d) (Q := Q) (μ := μ) (X := X) (n := n) (v := v) h1 h2 h hN N 0 (by omega) (by omega)
  rw [mm_fi0] at this
  simp only [x_311_0, mm_L0, x_311_1, sc_I_2, mm_n2i, x_311_2, lc_A_0, x_311_3, mm_aln h1 h2 h, Option.map_some, am_kv_some, mm_no, x_311_4, sc_I_3, this]
end MF
theorem mm_gd {c A : Prop} (h : c) : (c ∧ A) = A := propext ⟨fun q => q.2, fun q => ⟨h, q⟩⟩
theorem mm_qi {Q : am_Ou → am_G → Prop} {c : Prop} {_ : Decidable c} {a b : Int} {g : am_G} : (if c then Q (.inl (some (.int (Int32.ofInt a)))) g else Q (.inl (some (.int (Int32.ofInt b)))) g) = Q (.inl (some (.int (Int32.ofInt (if c then a else b))))) g := by
  by_cases h : c
  · rw [if_pos h, if_pos h]
  · rw [if_neg h, if_neg h]
