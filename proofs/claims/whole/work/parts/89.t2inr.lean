/-! The reference asks whether rules name a member. -/
def rir_s (μ : mm_M) (e m r : Int) : Nat → Bool
  | 0 => false
  | k + 1 => rir_s μ e m r k || decide (μ 146 (24 * r + k) = e ∧ μ 147 (24 * r + k) = 48 + m)
def rir (μ : mm_M) (e m : Int) : Nat → Bool
  | 0 => false
  | k + 1 => rir μ e m k || decide (0 < μ 139 (3 * k + e) ∧ μ 140 (3 * k + e) = m) || rir_s μ e m k (μ 145 k).toNat
/-- the shifts of rules in range -/
def rsh_r (μ : mm_M) : Prop := ∀ r, 0 ≤ r → r < μ 129 11 → (0 ≤ μ 145 r ∧ μ 145 r ≤ 24) ∧ ∀ s, 0 ≤ s → s < μ 145 r → (-2147483648 ≤ μ 146 (24 * r + s) ∧ μ 146 (24 * r + s) ≤ 2147483647) ∧ (-2147483648 ≤ μ 147 (24 * r + s) ∧ μ 147 (24 * r + s) ≤ 2147483647)
section RI
variable {d : Nat} {Q : am_Ou → am_G → Prop} {w : mm_Z} {μ : mm_M} {X : mm_X} {n : mm_N} {e m : Int}
theorem c_187_56 (hq : mm_P w) (hs : rsh_r μ) (he : 0 ≤ e ∧ e < 3) (hm : 0 ≤ m ∧ m < 6) {r : Nat} (hr : (r : Int) < 8) (hr2 : (r : Int) < μ 129 11) (B : Bool) : ∀ (k i : Nat), (i : Int) + k = μ 145 r → (am_E d 187 Q (56, [some (.ref 129), some (.int (Int32.ofInt (e))), some (.int (Int32.ofInt (m))), some (.int (Int32.ofInt (if (B || rir_s μ e m r i) = true then 1 else 0))), some (.int (Int32.ofInt ((r : Int)))), some (.int (Int32.ofInt ((i : Int))))], [], mm_hp w μ X n) ↔ am_E d 187 Q (5, [some (.ref 129), some (.int (Int32.ofInt (e))), some (.int (Int32.ofInt (m))), some (.int (Int32.ofInt (if (B || rir_s μ e m r (i + k)) = true then 1 else 0))), some (.int (Int32.ofInt ((r : Int) + 1))), some (.int (Int32.ofInt (((i + k : Nat) : Int))))], [], mm_hp w μ X n)) := by
  have h145 := (hs r (by omega) hr2).1
  intro k
  induction k with
  | zero =>
    intro i hi
    rw [b_187_56 hq]
    simp (disch := omega) only [and_self, true_and, mm_ltx, mm_lex, mm_eqx, mm_wv, mm_gd, ↓reduceIte, Int.reduceAdd, Int.reduceSub, Int.reduceNeg, Int.reduceLE, Int.reduceLT, Int.reduceMul, Int.reduceEq]
    rw [if_pos (by omega)]
    rfl
  | succ k ih =>
    intro i hi
    have hj := (hs r (by omega) hr2).2 i (by omega) (by omega)
    have s114 : ∀ s : Int, s = (if (B || rir_s μ e m r (i + 1)) = true then 1 else 0) → ∀ x3, (am_E d 187 Q (114, [some (.ref 129), some (.int (Int32.ofInt (e))), some (.int (Int32.ofInt (m))), some (.int (Int32.ofInt (x3))), some (.int (Int32.ofInt ((r : Int)))), some (.int (Int32.ofInt ((i : Int))))], [.int (Int32.ofInt (s))], mm_hp w μ X n) ↔ am_E d 187 Q (5, [some (.ref 129), some (.int (Int32.ofInt (e))), some (.int (Int32.ofInt (m))), some (.int (Int32.ofInt (if (B || rir_s μ e m r (i + (k + 1))) = true then 1 else 0))), some (.int (Int32.ofInt ((r : Int) + 1))), some (.int (Int32.ofInt (((i + (k + 1) : Nat) : Int))))], [], mm_hp w μ X n)) := by
      rintro _ rfl x3
      rw [b_187_114 hq]
      have := ih (i + 1) (by omega)
      rw [show ((i + 1 : Nat) : Int) = (i : Int) + 1 by omega, show i + 1 + k = i + (k + 1) by omega] at this
      exact this
    rw [b_187_56 hq]
    simp (disch := omega) only [and_self, true_and, mm_ltx, mm_lex, mm_eqx, mm_wv, mm_gd, ↓reduceIte, Int.reduceAdd, Int.reduceSub, Int.reduceNeg, Int.reduceLE, Int.reduceLT, Int.reduceMul, Int.reduceEq]
    rw [if_neg (by omega)]
    by_cases f : (B || rir_s μ e m r i) = true
    · rw [if_pos f, if_neg (by decide), b_187_109 hq]
      refine s114 1 ?_ _
      unfold rir_s
      rw [← Bool.or_assoc, f, Bool.true_or, if_pos rfl]
    · rw [if_neg f, if_pos (by decide)]
      have f2 : (B || rir_s μ e m r i) = false := by revert f; cases (B || rir_s μ e m r i) <;> simp
      by_cases g1 : μ 146 (24 * (r : Int) + i) = e
      · rw [if_pos g1]
        by_cases g2 : μ 147 (24 * (r : Int) + i) = 48 + m
        · rw [if_pos g2, b_187_109 hq]
          refine s114 1 ?_ _
          unfold rir_s
          rw [← Bool.or_assoc, f2, decide_eq_true ⟨g1, g2⟩, if_pos (by decide)]
        · rw [if_neg g2, b_187_113 hq]
          refine s114 0 ?_ _
          unfold rir_s
          rw [← Bool.or_assoc, f2, decide_eq_false (fun q => g2 q.2), if_neg (by decide)]
      · rw [if_neg g1, b_187_113 hq]
        refine s114 0 ?_ _
        unfold rir_s
        rw [← Bool.or_assoc, f2, decide_eq_false (fun q => g1 q.1), if_neg (by decide)]
theorem c_187_5 (hq : mm_P w) (hs : rsh_r μ) (hr : rr_r μ) (he : 0 ≤ e ∧ e < 3) (hm : 0 ≤ m ∧ m < 6) : ∀ (k i : Nat) (e5 : Option Value), am_n2 e5 = true → (i : Int) + k = μ 129 11 → (am_E d 187 Q (5, [some (.ref 129), some (.int (Int32.ofInt (e))), some (.int (Int32.ofInt (m))), some (.int (Int32.ofInt (if rir μ e m i = true then 1 else 0))), some (.int (Int32.ofInt ((i : Int)))), e5], [], mm_hp w μ X n) ↔ Q (.inl (some (.int (Int32.ofInt (if rir μ e m (i + k) = true then 1 else 0))))) (mm_hp w μ X n)) := by
  have h11 := hr.1
  intro k
  induction k with
  | zero =>
    intro i e5 h5 hi
    rw [b_187_5 hq h5, if_pos (by rw [mm_lex, mm_wv (by omega) (by omega), mm_wv (by omega) (by omega)]; omega), if_pos (mm_okc.mpr trivial)]
    rfl
  | succ k ih =>
    intro i e5 h5 hi
    have hj := hr.2 (3 * i + e) (by omega) (by omega)
    have h145 := (hs i (by omega) (by omega)).1
    have s52 : ∀ s : Int, s = (if (rir μ e m i || decide (0 < μ 139 (3 * i + e) ∧ μ 140 (3 * i + e) = m)) = true then 1 else 0) → ∀ x3, (am_E d 187 Q (52, [some (.ref 129), some (.int (Int32.ofInt (e))), some (.int (Int32.ofInt (m))), some (.int (Int32.ofInt (x3))), some (.int (Int32.ofInt ((i : Int)))), e5], [.int (Int32.ofInt (s))], mm_hp w μ X n) ↔ Q (.inl (some (.int (Int32.ofInt (if rir μ e m (i + (k + 1)) = true then 1 else 0))))) (mm_hp w μ X n)) := by
      rintro _ rfl x3
      rw [b_187_52 hq h5]
      have h1 := c_187_56 (d := d) (Q := Q) (X := X) (n := n) hq hs he hm (r := i) (by omega) (by omega) (rir μ e m i || decide (0 < μ 139 (3 * i + e) ∧ μ 140 (3 * i + e) = m)) (μ 145 i).toNat 0 (by omega)
      rw [show rir_s μ e m i 0 = false from rfl, Bool.or_false, Nat.zero_add] at h1
      refine Iff.trans h1 ?_
      have := ih (i + 1) (some (.int (Int32.ofInt (((μ 145 i).toNat : Int))))) rfl (by omega)
      rw [show ((i + 1 : Nat) : Int) = (i : Int) + 1 by omega, show i + 1 + k = i + (k + 1) by omega] at this
      exact this
    rw [b_187_5 hq h5, if_neg (by rw [mm_lex, mm_wv (by omega) (by omega), mm_wv (by omega) (by omega)]; omega)]
    by_cases f : rir μ e m i = true
    · rw [if_pos f, if_neg (by decide), b_187_47 hq h5]
      exact s52 1 (by rw [f, Bool.true_or, if_pos rfl]) _
    · have f2 : rir μ e m i = false := by revert f; cases rir μ e m i <;> simp
      rw [if_neg f, if_pos (by decide)]
      simp (disch := omega) only [and_self, true_and, mm_ltx, mm_lex, mm_eqx, mm_wv, mm_gd, ↓reduceIte, Int.reduceAdd, Int.reduceSub, Int.reduceNeg, Int.reduceLE, Int.reduceLT, Int.reduceMul, Int.reduceEq]
      by_cases g1 : μ 139 (3 * (i : Int) + e) ≤ 0
      · rw [if_pos g1, b_187_51 hq h5]
        exact s52 0 (by rw [f2, decide_eq_false (fun q => by omega), if_neg (by decide)]) _
      · rw [if_neg g1]
        by_cases g2 : μ 140 (3 * (i : Int) + e) = m
        · rw [if_pos g2, b_187_47 hq h5]
          exact s52 1 (by rw [f2, decide_eq_true ⟨by omega, g2⟩, if_pos (by decide)]) _
        · rw [if_neg g2, b_187_51 hq h5]
          exact s52 0 (by rw [f2, decide_eq_false (fun q => g2 q.2), if_neg (by decide)]) _
theorem c_187 (hq : mm_P w) (hs : rsh_r μ) (hr : rr_r μ) (he : 0 ≤ e ∧ e < 3) (hm : 0 ≤ m ∧ m < 6) : am_C (d + 1) 187 [.ref 129, .int (Int32.ofInt (e)), .int (Int32.ofInt (m))] (mm_hp w μ X n) Q ↔ Q (.inl (some (.int (Int32.ofInt (if rir μ e m (μ 129 11).toNat = true then 1 else 0))))) (mm_hp w μ X n) := by
  have h11 := hr.1
  rw [en_187, b_187_0 hq]
  have := c_187_5 (d := d) (Q := Q) (X := X) (n := n) hq hs hr he hm (μ 129 11).toNat 0 none rfl (by omega)
  rw [Nat.zero_add] at this
  exact this
end RI
