/-! The reference drops a member. -/
/-- the inputs of a member are wiped, up to index k -/
def rwpd (μ : mm_M) (e m k : Int) : mm_M := fun x j => if x = 137 ∧ 0 ≤ j ∧ j < k ∧ rpart (j % 216) e = m then 0 else μ x j
def rwpn (μ : mm_M) (e m : Int) : Int → Bool := fun j => decide (μ 137 j ≠ 0 ∧ rpart (j % 216) e = m)
section RM
variable {d : Nat} {Q : am_Ou → am_G → Prop} {w : mm_Z} {μ : mm_M} {X : mm_X} {n : mm_N} {e m : Int}
theorem rwpd_o {x : Nat} {k : Int} (h : x ≠ 137) : rwpd μ e m k x = μ x := by
  funext j
  unfold rwpd
  rw [if_neg (fun q => h q.1)]
theorem rwpd_0 : rwpd μ e m 0 = μ := by
  funext x j
  unfold rwpd
  rw [if_neg (by omega)]
theorem rwpd_n {i : Int} (hi : 0 ≤ i) (h : rpart (i % 216) e = m → μ 137 i = 0) : rwpd μ e m (i + 1) = rwpd μ e m i := by
  funext x j
  unfold rwpd
  by_cases q : x = 137 ∧ j = i ∧ rpart (j % 216) e = m
  · obtain ⟨q1, q2, q3⟩ := q
    subst q1 q2
    rw [if_pos ⟨rfl, hi, by omega, q3⟩, if_neg (by omega), h q3]
  · by_cases p : x = 137 ∧ 0 ≤ j ∧ j < i ∧ rpart (j % 216) e = m
    · rw [if_pos p, if_pos ⟨p.1, p.2.1, by omega, p.2.2.2⟩]
    · rw [if_neg p, if_neg (fun z => by
        by_cases y : j = i
        · exact q ⟨z.1, y, z.2.2.2⟩
        · exact p ⟨z.1, z.2.1, by omega, z.2.2.2⟩)]
theorem rwpd_s {i : Int} (hi : 0 ≤ i) (h : rpart (i % 216) e = m) : mm_u (rwpd μ e m i) 137 i 0 = rwpd μ e m (i + 1) := by
  funext x j
  rw [mm_ux]
  unfold rwpd
  by_cases q : x = 137 ∧ j = i
  · rw [if_pos q, if_pos ⟨q.1, by omega, by omega, by rw [q.2]; exact h⟩]
  · rw [if_neg q]
    by_cases p : x = 137 ∧ 0 ≤ j ∧ j < i ∧ rpart (j % 216) e = m
    · rw [if_pos p, if_pos ⟨p.1, p.2.1, by omega, p.2.2.2⟩]
    · rw [if_neg p, if_neg (fun z => by
        by_cases y : j = i
        · exact q ⟨z.1, y⟩
        · exact p ⟨z.1, z.2.1, by omega, z.2.2.2⟩)]
theorem c_169_51 (hq : mm_P w) (hg : rg_r μ) (he : 0 ≤ e ∧ e < 3) (hm : 0 ≤ m ∧ m < 6) {x3 : Int} : ∀ (k i : Nat), i + k = 648 → (am_E (d + 1) 169 Q (51, [some (.ref 129), some (.int (Int32.ofInt (e))), some (.int (Int32.ofInt (m))), some (.int (Int32.ofInt (x3))), some (.int (Int32.ofInt (cn (rwpn μ e m) i))), some (.int (Int32.ofInt ((i : Int))))], [], mm_hp w (rwpd μ e m i) X n) ↔ am_E (d + 1) 169 Q (51, [some (.ref 129), some (.int (Int32.ofInt (e))), some (.int (Int32.ofInt (m))), some (.int (Int32.ofInt (x3))), some (.int (Int32.ofInt (cn (rwpn μ e m) 648))), some (.int (Int32.ofInt (648)))], [], mm_hp w (rwpd μ e m 648) X n)) := by
  intro k
  induction k with
  | zero =>
    intro i hi
    have hi2 : i = 648 := by omega
    subst hi2
    exact Iff.rfl
  | succ k ih =>
    intro i hi
    have hcn := cn_b (P := rwpn μ e m) i
    have hj := (hg.2 i (by omega) (by omega)).1
    have hp := rpart_b (e := e) (show 0 ≤ (i : Int) % 216 by omega) (by omega)
    have v7 : rwpd μ e m i 137 i = μ 137 i := by
      unfold rwpd
      rw [if_neg (by omega)]
    have hcnS : cn (rwpn μ e m) (i + 1) = cn (rwpn μ e m) i + if μ 137 i ≠ 0 ∧ rpart ((i : Int) % 216) e = m then 1 else 0 := by
      show cn (rwpn μ e m) i + (if decide (μ 137 (i : Int) ≠ 0 ∧ rpart ((i : Int) % 216) e = m) = true then 1 else 0) = _
      by_cases q : μ 137 i ≠ 0 ∧ rpart ((i : Int) % 216) e = m
      · rw [if_pos (decide_eq_true q), if_pos q]
      · rw [if_neg (by rw [decide_eq_true_iff]; exact q), if_neg q]
    have nxt : ∀ (x4 : Int) (μ2 : mm_M), x4 = cn (rwpn μ e m) (i + 1) → μ2 = rwpd μ e m ((i : Int) + 1) → (am_E (d + 1) 169 Q (94, [some (.ref 129), some (.int (Int32.ofInt (e))), some (.int (Int32.ofInt (m))), some (.int (Int32.ofInt (x3))), some (.int (Int32.ofInt (x4))), some (.int (Int32.ofInt ((i : Int))))], [], mm_hp w μ2 X n) ↔ am_E (d + 1) 169 Q (51, [some (.ref 129), some (.int (Int32.ofInt (e))), some (.int (Int32.ofInt (m))), some (.int (Int32.ofInt (x3))), some (.int (Int32.ofInt (cn (rwpn μ e m) 648))), some (.int (Int32.ofInt (648)))], [], mm_hp w (rwpd μ e m 648) X n)) := by
      rintro _ _ rfl rfl
      rw [b_169_94 hq]
      have := ih (i + 1) (by omega)
      rw [show ((i + 1 : Nat) : Int) = (i : Int) + 1 by omega] at this
      exact this
    rw [b_169_51 hq, if_neg (by rw [mm_lex, mm_wv (by omega) (by omega), mm_wv (by omega) (by omega)]; omega)]
    simp (disch := omega) only [and_self, true_and, mm_ltx, mm_lex, mm_eqx, mm_wv, mm_gd, ↓reduceIte, Int.reduceAdd, Int.reduceSub, Int.reduceNeg, Int.reduceLE, Int.reduceLT, Int.reduceMul, Int.reduceEq, v7]
    by_cases z : μ 137 i = 0
    · rw [if_pos z]
      exact nxt _ _ (by rw [hcnS, if_neg (fun q => q.1 z)]; omega) (rwpd_n (by omega) (fun _ => z)).symm
    · rw [if_neg z, mm_dvp (by omega) (by omega) (by decide) (by decide), mm_remx, d_213 (d := d) hq (by omega) (by omega) he, bk_v, b_169_79 hq]
      by_cases y : rpart ((i : Int) % 216) e = m
      · rw [if_pos (by rw [y])]
        simp (disch := omega) only [and_self, true_and, mm_ltx, mm_lex, mm_eqx, mm_wv, mm_gd, ↓reduceIte, Int.reduceAdd, Int.reduceSub, Int.reduceNeg, Int.reduceLE, Int.reduceLT, Int.reduceMul, Int.reduceEq, mm_b10]
        exact nxt _ _ (by rw [hcnS, if_pos ⟨z, y⟩]) (rwpd_s (by omega) y)
      · rw [if_neg (by rw [mm_eqx, mm_wv (by omega) (by omega), mm_wv (by omega) (by omega)]; exact y)]
        exact nxt _ _ (by rw [hcnS, if_neg (fun q => y q.2)]; omega) (rwpd_n (by omega) (fun q => absurd q y)).symm
end RM
