/-! The reference drops a member. -/
/-- the inputs of a member are wiped, up to index k -/
def rwpd (μ : mm_M) (e m k : Int) : mm_M := fun x j => if x = 137 ∧ 0 ≤ j ∧ j < k ∧ rpart (j % 216) e = m then 0 else μ x j
def rwpn (μ : mm_M) (e m : Int) : Int → Bool := fun j => decide (μ 137 j ≠ 0 ∧ rpart (j % 216) e = m)
section RM
variable {d : Nat} {Q : am_Ou → am_G → Prop} {w : mm_Z} {μ : mm_M} {X : mm_X} {n : mm_N} {e m : Int}
theorem rwpd_o {x : Nat} {k : Int} (h : x ≠ 137) : rwpd μ e m k x = μ x := by
  funext j
  unfold rwpd
  rw [if_neg (fun q => h q.1)]
theorem rwpd_0 : rwpd μ e m 0 = μ := by
  funext x j
  unfold rwpd
  rw [if_neg (by omega)]
theorem rwpd_n {i : Int} (hi : 0 ≤ i) (h : rpart (i % 216) e = m → μ 137 i = 0) : rwpd μ e m (i + 1) = rwpd μ e m i := by
  funext x j
  unfold rwpd
  by_cases q : x = 137 ∧ j = i ∧ rpart (j % 216) e = m
  · obtain ⟨q1, q2, q3⟩ := q
    subst q1 q2
    rw [if_pos ⟨rfl, hi, by omega, q3⟩, if_neg (by omega), h q3]
  · by_cases p : x = 137 ∧ 0 ≤ j ∧ j < i ∧ rpart (j % 216) e = m
    · rw [if_pos p, if_pos ⟨p.1, p.2.1, by omega, p.2.2.2⟩]
    · rw [if_neg p, if_neg (fun z => by
        by_cases y : j = i
        · exact q ⟨z.1, y, z.2.2.2⟩
        · exact p ⟨z.1, z.2.1, by omega, z.2.2.2⟩)]
theorem rwpd_s {i : Int} (hi : 0 ≤ i) (h : rpart (i % 216) e = m) : mm_u (rwpd μ e m i) 137 i 0 = rwpd μ e m (i + 1) := by
  funext x j
  rw [mm_ux]
  unfold rwpd
  by_cases q : x = 137 ∧ j = i
  · rw [if_pos q, if_pos ⟨q.1, by omega, by omega, by rw [q.2]; exact h⟩]
  · rw [if_neg q]
    by_cases p : x = 137 ∧ 0 ≤ j ∧ j < i ∧ rpart (j % 216) e = m
    · rw [if_pos p, if_pos ⟨p.1, p.2.1, by omega, p.2.2.2⟩]
    · rw [if_neg p, if_neg (fun z => by
        by_cases y : j = i
        · exact q ⟨z.1, y⟩
        · exact p ⟨z.1, z.2.1, by omega, z.2.2.2⟩)]
theorem c_169_51 (hq : mm_P w) (hg : rg_r μ) (he : 0 ≤ e ∧ e < 3) (hm : 0 ≤ m ∧ m < 6) {x3 : Int} : ∀ (k i : Nat), i + k = 648 → (am_E (d + 1) 169 Q (51, [some (.ref 129), some (.int (Int32.ofInt (e))), some (.int (Int32.ofInt (m))), some (.int (Int32.ofInt (x3))), some (.int (Int32.ofInt (cn (rwpn μ e m) i))), some (.int (Int32.ofInt ((i : Int))))], [], mm_hp w (rwpd μ e m i) X n) ↔ am_E (d + 1) 169 Q (51, [some (.ref 129), some (.int (Int32.ofInt (e))), some (.int (Int32.ofInt (m))), some (.int (Int32.ofInt (x3))), some (.int (Int32.ofInt (cn (rwpn μ e m) 648))), some (.int (Int32.ofInt (648)))], [], mm_hp w (rwpd μ e m 648) X n)) := by
  intro k
  induction k with
  | zero =>
    intro i hi
    have hi2 : i = 648 := by omega
    subst hi2
    exact Iff.rfl
  | succ k ih =>
    intro i hi
    have hcn := cn_b (P := rwpn μ e m) i
    have hj := (hg.2 i (by omega) (by omega)).1
    have hp := rpart_b (e := e) (show 0 ≤ (i : Int) % 216 by omega) (by omega)
    have v7 : rwpd μ e m i 137 i = μ 137 i := by
      unfold rwpd
      rw [if_neg (by omega)]
    have hcnS : cn (rwpn μ e m) (i + 1) = cn (rwpn μ e m) i + if μ 137 i ≠ 0 ∧ rpart ((i : Int) % 216) e = m then 1 else 0 := by
      show cn (rwpn μ e m) i + (if decide (μ 137 (i : Int) ≠ 0 ∧ rpart ((i : Int) % 216) e = m) = true then 1 else 0) = _
      by_cases q : μ 137 i ≠ 0 ∧ rpart ((i : Int) % 216) e = m
      · rw [if_pos (decide_eq_true q), if_pos q]
      · rw [if_neg (by rw [decide_eq_true_iff]; exact q), if_neg q]
    have nxt : ∀ (x4 : Int) (μ2 : mm_M), x4 = cn (rwpn μ e m) (i + 1) → μ2 = rwpd μ e m ((i : Int) + 1) → (am_E (d + 1) 169 Q (94, [some (.ref 129), some (.int (Int32.ofInt (e))), some (.int (Int32.ofInt (m))), some (.int (Int32.ofInt (x3))), some (.int (Int32.ofInt (x4))), some (.int (Int32.ofInt ((i : Int))))], [], mm_hp w μ2 X n) ↔ am_E (d + 1) 169 Q (51, [some (.ref 129), some (.int (Int32.ofInt (e))), some (.int (Int32.ofInt (m))), some (.int (Int32.ofInt (x3))), some (.int (Int32.ofInt (cn (rwpn μ e m) 648))), some (.int (Int32.ofInt (648)))], [], mm_hp w (rwpd μ e m 648) X n)) := by
      rintro _ _ rfl rfl
      rw [b_169_94 hq]
      have := ih (i + 1) (by omega)
      rw [show ((i + 1 : Nat) : Int) = (i : Int) + 1 by omega] at this
      exact this
    rw [b_169_51 hq, if_neg (by rw [mm_lex, mm_wv (by omega) (by omega), mm_wv (by omega) (by omega)]; omega)]
    simp (disch := omega) only [and_self, true_and, mm_ltx, mm_lex, mm_eqx, mm_wv, mm_gd, ↓reduceIte, Int.reduceAdd, Int.reduceSub, Int.reduceNeg, Int.reduceLE, Int.reduceLT, Int.reduceMul, Int.reduceEq, v7]
    by_cases z : μ 137 i = 0
    · rw [if_pos z]
      exact nxt _ _ (by rw [hcnS, if_neg (fun q => q.1 z)]; omega) (rwpd_n (by omega) (fun _ => z)).symm
    · rw [if_neg z, mm_dvp (by omega) (by omega) (by decide) (by decide), mm_remx, d_213 (d := d) hq (by omega) (by omega) he, bk_v, b_169_79 hq]
      by_cases y : rpart ((i : Int) % 216) e = m
      · rw [if_pos (by rw [y])]
        simp (disch := omega) only [and_self, true_and, mm_ltx, mm_lex, mm_eqx, mm_wv, mm_gd, ↓reduceIte, Int.reduceAdd, Int.reduceSub, Int.reduceNeg, Int.reduceLE, Int.reduceLT, Int.reduceMul, Int.reduceEq, mm_b10]
        exact nxt _ _ (by rw [hcnS, if_pos ⟨z, y⟩]) (rwpd_s (by omega) y)
      · rw [if_neg (by rw [mm_eqx, mm_wv (by omega) (by omega), mm_wv (by omega) (by omega)]; exact y)]
        exact nxt _ _ (by rw [hcnS, if_neg (fun q => y q.2)]; omega) (rwpd_n (by omega) (fun q => absurd q y)).symm
def rdmp (μ : mm_M) (e m : Int) : mm_M := mm_u (if 0 < μ 148 e ∧ μ 149 e = m then mm_u (rwpd (mm_u μ 129 0 0) e m 648) 148 e 0 else rwpd (mm_u μ 129 0 0) e m 648) 130 (6 * e + m) 0
theorem rdmp_o {b : Nat} (h : b ≠ 129 ∧ b ≠ 130 ∧ b ≠ 137 ∧ b ≠ 148) : rdmp μ e m b = μ b := by
  unfold rdmp
  rw [mm_uu h.2.1]
  split
  · rw [mm_uu h.2.2.2, rwpd_o h.2.2.1, mm_uu h.1]
  · rw [rwpd_o h.2.2.1, mm_uu h.1]
theorem rdmp_130 : rdmp μ e m 130 = mm_u μ 130 (6 * e + m) 0 130 := by
  funext j
  unfold rdmp
  rw [mm_ux, mm_ux]
  split
  · rfl
  · split
    · rw [mm_uu (by decide), rwpd_o (by decide), mm_uu (by decide)]
    · rw [rwpd_o (by decide), mm_uu (by decide)]
theorem c_169 (hq : mm_P w) (hg : rg_r μ) (hrt : rt_a μ) (hs : rsh_r μ) (hr : rr_r μ) (hdr : ∀ e, 0 ≤ e → e < 3 → (0 ≤ μ 148 e ∧ μ 148 e ≤ 2) ∧ (-2147483648 ≤ μ 149 e ∧ μ 149 e ≤ 2147483647)) (h1 : -2147483648 ≤ e) (h2 : e ≤ 2147483647) (g1 : -2147483648 ≤ m) (g2 : m ≤ 2147483647)
    (hw : (0 ≤ e ∧ e < 3 ∧ 0 ≤ m ∧ m < 6 ∧ μ 130 (6 * e + m) ≠ 0) → sp_fc (rp μ e) m = -1 → fo_wf (rp (mm_u μ 130 (6 * e + m) 0) e))
    (q1 : ¬ (0 ≤ e ∧ e < 3 ∧ 0 ≤ m ∧ m < 6 ∧ μ 130 (6 * e + m) ≠ 0) → Q (.inl (some (.int (Int32.ofInt (0))))) (mm_hp w (mm_u μ 129 0 1) X n))
    (q2 : (0 ≤ e ∧ e < 3 ∧ 0 ≤ m ∧ m < 6 ∧ μ 130 (6 * e + m) ≠ 0) → ¬ (sp_fc (rp μ e) m = -1 ∧ rir μ e m (μ 129 11).toNat = false) → Q (.inl (some (.int (Int32.ofInt (0))))) (mm_hp w (mm_u μ 129 0 2) X n))
    (q3 : (0 ≤ e ∧ e < 3 ∧ 0 ≤ m ∧ m < 6 ∧ μ 130 (6 * e + m) ≠ 0) → sp_fc (rp μ e) m = -1 → rir μ e m (μ 129 11).toNat = false → ∀ μ', rf_fr e (rdmp μ e m) μ' → rt_ok μ' e → rp μ' e = rp (rdmp μ e m) e → Q (.inl (some (.int (Int32.ofInt (cn (rwpn μ e m) 648))))) (mm_hp w (mm_u (mm_u μ' 129 37 0) 129 38 0) X n)) : am_C (d + 4) 169 [.ref 129, .int (Int32.ofInt (e)), .int (Int32.ofInt (m))] (mm_hp w μ X n) Q := by
  have w1 : ∀ s, rwhy 0 s 1 = 1 := fun s => rfl
  have w2 : rwhy 1 0 1 = 2 := by decide
  have w3 : rwhy 1 1 1 = 0 := by decide
  rw [en_169 (d := d + 3), b_169_0 hq, d_196 (d := d + 1) h1 h2 g1 g2 hq hrt, bk_v, b_169_6 hq]
  by_cases a : 0 ≤ e ∧ e < 3 ∧ 0 ≤ m ∧ m < 6 ∧ μ 130 (6 * e + m) ≠ 0
  · obtain ⟨a1, a2, a3, a4, a5⟩ := id a
    rw [if_pos a, if_neg (by decide), c_194 (d := d + 1) hq ⟨a1, a2⟩ (by omega) (by omega) (hrt e a1 a2), bk_v, b_169_19 hq]
    have s35 : ¬ (sp_fc (rp μ e) m = -1 ∧ rir μ e m (μ 129 11).toNat = false) → am_E (d + 3) 169 Q (35, [some (.ref 129), some (.int (Int32.ofInt (e))), some (.int (Int32.ofInt (m))), some (.int (Int32.ofInt (1))), none, none], [.int (Int32.ofInt (1)), .ref 129], mm_hp w μ X n) := by
      intro hn
      rw [b_169_35 hq, b_169_36 hq, d_185 (d := d + 2) hq (Or.inr rfl) (Or.inl rfl) (Or.inr rfl), bk_v, b_169_40 hq, w2, if_pos (by decide)]
      exact q2 a hn
    by_cases l : sp_fc (rp μ e) m = -1
    · rw [if_pos l, if_neg (by decide), c_187 (d := d + 2) hq hs hr ⟨a1, a2⟩ ⟨a3, a4⟩, bk_v, b_169_28 hq]
      by_cases r : rir μ e m (μ 129 11).toNat = true
      · rw [if_pos r, if_neg (by decide)]
        exact s35 (fun q => by rw [r] at q; exact absurd q.2 (by decide))
      · have r2 : rir μ e m (μ 129 11).toNat = false := by revert r; cases rir μ e m (μ 129 11).toNat <;> simp
        rw [if_neg r, if_pos rfl, b_169_31 hq, b_169_36 hq, d_185 (d := d + 2) hq (Or.inr rfl) (Or.inr rfl) (Or.inr rfl), bk_v, b_169_40 hq, w3, if_neg (by decide)]
        have hg0 : rg_r (mm_u μ 129 0 0) := rth_rg (k := 0) hg
        have hcn : rwpn (mm_u μ 129 0 0) e m = rwpn μ e m := by
          funext j
          unfold rwpn
          rw [mm_uu (by decide)]
        have h51 := c_169_51 (d := d + 2) (Q := Q) (X := X) (n := n) (w := w) (x3 := 1) hq hg0 ⟨a1, a2⟩ ⟨a3, a4⟩ 648 0 (by decide)
        rw [show ((0 : Nat) : Int) = 0 from rfl, rwpd_0, hcn] at h51
        have hm0 : cn (rwpn μ e m) 0 = 0 := rfl
        rw [hm0] at h51
        rw [h51, b_169_51 hq, if_pos (by decide)]
        have hd := hdr e a1 a2
        have e148 : rwpd (mm_u μ 129 0 0) e m 648 148 = μ 148 := by rw [rwpd_o (by decide), mm_uu (by decide)]
        have e149 : rwpd (mm_u μ 129 0 0) e m 648 149 = μ 149 := by rw [rwpd_o (by decide), mm_uu (by decide)]
        rw [e148, e149]
        have s126 : ∀ μ3, μ3 = (if 0 < μ 148 e ∧ μ 149 e = m then mm_u (rwpd (mm_u μ 129 0 0) e m 648) 148 e 0 else rwpd (mm_u μ 129 0 0) e m 648) → am_E (d + 3) 169 Q (126, [some (.ref 129), some (.int (Int32.ofInt (e))), some (.int (Int32.ofInt (m))), some (.int (Int32.ofInt (1))), some (.int (Int32.ofInt (cn (rwpn μ e m) 648))), some (.int (Int32.ofInt (648)))], [], mm_hp w μ3 X n) := by
          rintro _ rfl
          rw [b_169_126 hq]
          simp (disch := omega) only [and_self, true_and, mm_ltx, mm_lex, mm_eqx, mm_wv, mm_gd, ↓reduceIte, Int.reduceAdd, Int.reduceSub, Int.reduceNeg, Int.reduceLE, Int.reduceLT, Int.reduceMul, Int.reduceEq, mm_b10]
          have hrp : rp (rdmp μ e m) e = rp (mm_u μ 130 (6 * e + m) 0) e := by
            unfold rp
            rw [rdmp_130, rdmp_o (by decide)]
            rfl
          have hrr : rt_r (rdmp μ e m) e := by
            intro j j0 j1
            rw [rdmp_130, rdmp_o (b := 131) (by decide), mm_ux]
            have := hrt e a1 a2 j j0 j1
            split
            · exact ⟨Or.inl rfl, this.2⟩
            · exact this
          refine c_179 (d := d) hq ⟨a1, a2⟩ (by rw [hrp]; exact hw a l) hrr fun μ' b1 b2 b3 _ => ?_
          rw [bk_n, b_169_143 hq, c_182 (d := d + 2) hq, bk_n, b_169_147 hq]
          exact q3 a l r2 μ' b1 b2 b3
        simp (disch := omega) only [and_self, true_and, mm_ltx, mm_lex, mm_eqx, mm_wv, mm_gd, ↓reduceIte, Int.reduceAdd, Int.reduceSub, Int.reduceNeg, Int.reduceLE, Int.reduceLT, Int.reduceMul, Int.reduceEq]
        by_cases p : μ 148 e ≤ 0
        · rw [if_pos p]
          exact s126 _ (by rw [if_neg (fun q => by omega)])
        · rw [if_neg p]
          by_cases p2 : μ 149 e = m
          · rw [if_pos p2]
            exact s126 _ (by rw [if_pos ⟨by omega, p2⟩])
          · rw [if_neg p2]
            exact s126 _ (by rw [if_neg (fun q => p2 q.2)])
    · rw [if_neg l, if_pos rfl]
      exact s35 (fun q => l q.1)
  · rw [if_neg a, if_pos rfl, b_169_31 hq, b_169_36 hq, d_185 (d := d + 2) hq (Or.inl rfl) (Or.inr rfl) (Or.inr rfl), bk_v, b_169_40 hq, w1, if_pos (by decide)]
    exact q1 a
end RM
