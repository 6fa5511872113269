/-! Calls of both sides: put, erase. -/
/-- the reference's rows are the same, but for what was thrown -/
def Eqr (M μ : mm_M) : Prop := ∀ (b : Nat) (j : Int), 129 ≤ b → b < 178 → (b ≠ 129 ∨ j ≠ 0) → M b j = μ b j
def PRB (w : mm_Z) (X : mm_X) (n : mm_N) (D P1 : Nat) (as1 : List Value) (P2 : Nat) (as2 : List Value) (μ : mm_M) : Prop :=
  ∀ Q1 : am_Ou → am_G → Prop, (∀ (k : Int) (μ1 : mm_M) (X1 : mm_X) (n1 : mm_N), nr n n1 → (∀ Q2 : am_Ou → am_G → Prop, (∀ (b : Int) (μ2 : mm_M), J μ2 → (b = 0 ∨ b = 1) → μ2 129 0 = k → (mm_w k = 0 → μ2 178 0 = b) → Q2 (.inl (some (.int (Int32.ofInt b)))) (mm_hp w μ2 X1 n1)) → am_C D P2 as2 (mm_hp w μ1 X1 n1) Q2) → Q1 (.inl (some (.int (Int32.ofInt k)))) (mm_hp w μ1 X1 n1)) → am_C D P1 as1 (mm_hp w μ X n) Q1
section LC
variable {d : Nat} {w : mm_Z} {μ μ' M : mm_M} {X : mm_X} {n : mm_N} {e m l k v b c x f dn : Int}
theorem Eqr_row (h : Eqr M μ) {b : Nat} (b0 : 129 < b) (b1 : b < 178) : M b = μ b := funext fun j => h b j (by omega) b1 (Or.inl (by omega))
theorem Eqr_r : Eqr μ μ := fun _ _ _ _ _ => rfl
theorem Eqr_new (h : Eqr M μ) : Eqr (rnewE M l) (rnewE μ l) := by
  have h38 : M 129 38 = μ 129 38 := h 129 38 (by decide) (by decide) (Or.inr (by decide))
  have key : ∀ A B : mm_M, Eqr A B → Eqr (rnew A l) (rnew B l) := fun A B hAB => by
    have g38 : A 129 38 = B 129 38 := hAB 129 38 (by decide) (by decide) (Or.inr (by decide))
    intro b j b0 b1 hb
    unfold rnew
    rw [g38, mm_ux, mm_ux, mm_ux, mm_ux, mm_ux, mm_ux, mm_ux, mm_ux, hAB b j b0 b1 hb]
  unfold rnewE
  rw [h38]
  split
  · refine key _ _ fun b j b0 b1 hb => ?_
    rw [mm_ux, mm_ux]
    split
    · rfl
    · unfold rshf
      by_cases q1 : (157 ≤ b ∧ b ≤ 158) ∧ 0 ≤ j ∧ j < 11
      · rw [if_pos q1, if_pos q1, h b (j + 1) b0 b1 (Or.inl (by omega))]
      · rw [if_neg q1, if_neg q1]
        by_cases q2 : (159 ≤ b ∧ b ≤ 163) ∧ 0 ≤ j ∧ j < 2376
        · rw [if_pos q2, if_pos q2, h b (j + 216) b0 b1 (Or.inl (by omega))]
        · rw [if_neg q2, if_neg q2, h b j b0 b1 hb]
  · exact key _ _ h
theorem Eqr_chg (h : Eqr M μ) : Eqr (rchg M c b v) (rchg μ c b v) := by
  have h38 : M 129 38 = μ 129 38 := h 129 38 (by decide) (by decide) (Or.inr (by decide))
  have e58 := Eqr_row h (b := 158) (by decide) (by decide)
  have e57 := Eqr_row h (b := 157) (by decide) (by decide)
  have e37 := Eqr_row h (b := 137) (by decide) (by decide)
  have e38 := Eqr_row h (b := 138) (by decide) (by decide)
  intro a j b0 b1 hb
  unfold rchg
  rw [h38, e58, e57, e37, e38]
  simp only [mm_ux, h a j b0 b1 hb]
theorem rchg_o {a : Nat} (h : a ≠ 137) (h2 : a ≠ 138) (h3 : ¬ (158 ≤ a ∧ a ≤ 163)) : rchg μ c b v a = μ a := by
  unfold rchg
  rw [mm_uu h2, mm_uu h, mm_uu (by omega), mm_uu (by omega), mm_uu (by omega), mm_uu (by omega), mm_uu (by omega), mm_uu (by omega)]
theorem J_chg (hJ : J μ) {u : Nat} (hu : μ 129 38 = u + 1) (hu2 : μ 129 37 = μ 129 38) (hn : μ 158 u < 216) (hc : 0 ≤ c ∧ c < 216) (hnew : ∀ k, 216 * (u : Int) ≤ k → k < 216 * u + μ 158 u → μ 159 k ≠ c) (hb : b = 0 ∨ b = 1) (hv : -2000000000 ≤ v ∧ v ≤ 2000000000) (hx : x = if b = 0 then -2147483648 else v) : J (asm (mm_u μ (mm_inr (μ 157 u)) (cc c) x) (rchg μ c b v)) := by
  have hjh := J_jh hJ
  have hl3 := (J_cg1 hJ).1
  obtain ⟨c1, ⟨d1, d2, d3⟩, d4, d5, d6, s, s1, s2⟩ := J_jh hJ
  have hlay := (s2 u (by omega)).1
  have hcb := cc_b hc.1 hc.2
  have hir := mm_inr_r (μ 157 u)
  obtain ⟨⟨g0, g1⟩, g2, g3, g4⟩ := hJ.2.2.1
  have hu' : μ 129 38 - 1 = (u : Int) := by omega
  have q2 := g2 (216 * μ 157 u + c) (by omega) (by omega)
  have q3 := g3 (μ 157 u) c hlay.1 hlay.2 hc.1 hc.2
  have ei : ∀ l j, 0 ≤ l → l < 3 → asm (mm_u μ (mm_inr (μ 157 u)) (cc c) x) (rchg μ c b v) (mm_inr l) j = if l = μ 157 u ∧ j = cc c then x else μ (mm_inr l) j := fun l j l0 l1 => by
    have := mm_inr_r l
    rw [asm_c (show mm_inr l < 129 by omega), mm_ux]
    by_cases q : l = μ 157 u
    · subst q
      by_cases z : j = cc c
      · rw [if_pos ⟨rfl, z⟩, if_pos ⟨rfl, z⟩]
      · rw [if_neg (fun t => z t.2), if_neg (fun t => z t.2)]
    · rw [if_neg (fun t => mm_inr_ne ⟨l0, l1⟩ ⟨hlay.1, by omega⟩ q t.1), if_neg (fun t => q t.1)]
  have eo : ∀ a, a < 129 → a ≠ mm_inr (μ 157 u) → asm (mm_u μ (mm_inr (μ 157 u)) (cc c) x) (rchg μ c b v) a = μ a := fun a a0 a1 => by rw [asm_c a0, mm_uu a1]
  have er : ∀ a, 129 ≤ a → a ≠ 137 → a ≠ 138 → ¬ (158 ≤ a ∧ a ≤ 163) → asm (mm_u μ (mm_inr (μ 157 u)) (cc c) x) (rchg μ c b v) a = μ a := fun a a0 a1 a2 a3 => by rw [asm_r a0, rchg_o a1 a2 a3]
  have f : ∀ (a : Nat) (key val : Int) (r : mm_M), (mm_u r a key val a = fun j => if j = key then val else r a j) := fun a key val r => by
    funext j
    rw [mm_ux]
    by_cases q : j = key
    · rw [if_pos ⟨rfl, q⟩, if_pos q]
    · rw [if_neg (fun t => q t.2), if_neg q]
  have e37 : asm (mm_u μ (mm_inr (μ 157 u)) (cc c) x) (rchg μ c b v) 137 = fun j => if j = 216 * μ 157 u + c then b else μ 137 j := by
    rw [asm_r (by decide)]; unfold rchg
    rw [hu', mm_uu (by decide), f, mm_uu (by decide), mm_uu (by decide), mm_uu (by decide), mm_uu (by decide), mm_uu (by decide), mm_uu (by decide)]
  have e38 : asm (mm_u μ (mm_inr (μ 157 u)) (cc c) x) (rchg μ c b v) 138 = fun j => if j = 216 * μ 157 u + c then v else μ 138 j := by
    rw [asm_r (by decide)]; unfold rchg
    rw [hu', f, mm_uu (by decide), mm_uu (by decide), mm_uu (by decide), mm_uu (by decide), mm_uu (by decide), mm_uu (by decide), mm_uu (by decide)]
  have e58 : asm (mm_u μ (mm_inr (μ 157 u)) (cc c) x) (rchg μ c b v) 158 = fun j => if j = (u : Int) then μ 158 u + 1 else μ 158 j := by
    rw [asm_r (by decide)]; unfold rchg
    rw [hu', mm_uu (by decide), mm_uu (by decide), f, mm_uu (by decide), mm_uu (by decide), mm_uu (by decide), mm_uu (by decide), mm_uu (by decide)]
  have e59 : asm (mm_u μ (mm_inr (μ 157 u)) (cc c) x) (rchg μ c b v) 159 = fun j => if j = 216 * (u : Int) + μ 158 u then c else μ 159 j := by
    rw [asm_r (by decide)]; unfold rchg
    rw [hu', mm_uu (by decide), mm_uu (by decide), mm_uu (by decide), mm_uu (by decide), mm_uu (by decide), mm_uu (by decide), mm_uu (by decide), f]
  have e60 : asm (mm_u μ (mm_inr (μ 157 u)) (cc c) x) (rchg μ c b v) 160 = fun j => if j = 216 * (u : Int) + μ 158 u then μ 137 (216 * μ 157 u + c) else μ 160 j := by
    rw [asm_r (by decide)]; unfold rchg
    rw [hu', mm_uu (by decide), mm_uu (by decide), mm_uu (by decide), mm_uu (by decide), mm_uu (by decide), mm_uu (by decide), f, mm_uu (by decide)]
  have e61 : asm (mm_u μ (mm_inr (μ 157 u)) (cc c) x) (rchg μ c b v) 161 = fun j => if j = 216 * (u : Int) + μ 158 u then μ 138 (216 * μ 157 u + c) else μ 161 j := by
    rw [asm_r (by decide)]; unfold rchg
    rw [hu', mm_uu (by decide), mm_uu (by decide), mm_uu (by decide), mm_uu (by decide), mm_uu (by decide), f, mm_uu (by decide), mm_uu (by decide)]
  have e62 : asm (mm_u μ (mm_inr (μ 157 u)) (cc c) x) (rchg μ c b v) 162 = fun j => if j = 216 * (u : Int) + μ 158 u then b else μ 162 j := by
    rw [asm_r (by decide)]; unfold rchg
    rw [hu', mm_uu (by decide), mm_uu (by decide), mm_uu (by decide), mm_uu (by decide), f, mm_uu (by decide), mm_uu (by decide), mm_uu (by decide)]
  have e63 : asm (mm_u μ (mm_inr (μ 157 u)) (cc c) x) (rchg μ c b v) 163 = fun j => if j = 216 * (u : Int) + μ 158 u then v else μ 163 j := by
    rw [asm_r (by decide)]; unfold rchg
    rw [hu', mm_uu (by decide), mm_uu (by decide), mm_uu (by decide), f, mm_uu (by decide), mm_uu (by decide), mm_uu (by decide), mm_uu (by decide)]
  generalize asm (mm_u μ (mm_inr (μ 157 u)) (cc c) x) (rchg μ c b v) = μ2 at *
  refine J_mk [97, 98, 99, 137, 138, 158, 159, 160, 161, 162, 163] [] (fun b b1 b2 b3 => ?_) (fun j hj => ?_) hJ (Or.inl (by decide)) (Or.inl (by decide)) (Or.inr ?_) (Or.inl (by decide)) (Or.inl (by decide)) (Or.inl (by decide)) (Or.inl (by decide)) (Or.inl (by decide)) (Or.inl (by decide)) (Or.inl (by decide)) (Or.inl (by decide)) (Or.inr ?_)
  · simp only [List.mem_cons, List.not_mem_nil, or_false, not_or] at b3
    by_cases q : b < 129
    · exact eo b q (by omega)
    · exact er b (by omega) (by omega) (by omega) (by omega)
  · rw [er 129 (by decide) (by decide) (by decide) (by decide)]
  · have e95 : μ2 95 = μ 95 := eo 95 (by decide) (by omega)
    refine ⟨⟨by rw [e95]; exact g0, fun l j l0 l1 j0 j1 => ?_⟩, fun j j0 j1 => ?_, fun l c' l0 l1 c0 c1' => ?_, fun j j0 j1 => ?_⟩
    · rw [ei l j l0 l1]
      split
      · rw [hx]; split <;> omega
      · exact g1 l j l0 l1 j0 j1
    · rw [e37, e38]
      have := g2 j j0 j1
      dsimp only
      split
      · exact ⟨hb, hv⟩
      · exact this
    · rw [e95] at l1
      rw [ei l (cc c') l0 (by omega), e37, e38]
      dsimp only
      by_cases q : l = μ 157 u ∧ c' = c
      · rw [if_pos ⟨q.1, by rw [q.2]⟩, q.1, q.2]
        simp only [if_pos]
        exact hx
      · have ne : ¬ 216 * l + c' = 216 * μ 157 u + c := by omega
        rw [if_neg (fun t => q ⟨t.1, cc_inj ⟨c0, c1'⟩ hc t.2⟩)]
        simp only [if_neg ne]
        exact g3 l c' l0 l1 c0 c1'
    · rw [e95] at j0
      rw [e37]
      dsimp only
      rw [if_neg (by omega)]
      exact g4 j j0 j1
  · refine J_h_chg (μ := μ) (c := c) (b := b) (v := v) (x := x) hjh hu hu2 hl3.2 hn hc hnew hb hv hx q3 q2 (fun j _ _ => by rw [eo 107 (by decide) (by omega)]) (eo 121 (by decide) (by omega)) (fun b b0 b1 => eo b (by omega) (by omega)) (by rw [eo 95 (by decide) (by omega)]) (fun l j l0 l1 j0 j1 => ei l j l0 l1) ?_ ?_ ?_ (fun e => by rw [e58]) (fun k => by rw [e59]) (fun k => by rw [e60]) (fun k => by rw [e61]) (fun k => by rw [e62]) (fun k => by rw [e63])
    · rw [er 129 (by decide) (by decide) (by decide) (by decide)]
    · rw [er 129 (by decide) (by decide) (by decide) (by decide)]
    · exact er 157 (by decide) (by decide) (by decide) (by decide)
theorem J_inner (hJ : J μ) (hc : rcell μ c) : cinner μ (cc c) = if rinner μ c < 0 then 3 else rinner μ c := by
  have ht := hJ.1
  have b := fun e => rpart_b (e := e) hc.1.1 hc.1.2
  have l0 := J_leaf ht (e := 0) (by decide) (b 0).1 (b 0).2 (hc.2 0 (by decide) (by decide))
  have l1 := J_leaf ht (e := 1) (by decide) (b 1).1 (b 1).2 (hc.2 1 (by decide) (by decide))
  have l2 := J_leaf ht (e := 2) (by decide) (b 2).1 (b 2).2 (hc.2 2 (by decide) (by decide))
  unfold cinner rinner
  rw [cc_p hc.1.1 hc.1.2, cc_p hc.1.1 hc.1.2, cc_p hc.1.1 hc.1.2]
  by_cases q0 : sp_fc (rp μ 0) (rpart c 0) = -1
  · have c0 : ¬ μ (mm_tr 0 + 4) (rpart c 0) = -1 := fun q => l0.mp q q0
    by_cases q1 : sp_fc (rp μ 1) (rpart c 1) = -1
    · have c1 : ¬ μ (mm_tr 1 + 4) (rpart c 1) = -1 := fun q => l1.mp q q1
      by_cases q2 : sp_fc (rp μ 2) (rpart c 2) = -1
      · have c2 : ¬ μ (mm_tr 2 + 4) (rpart c 2) = -1 := fun q => l2.mp q q2
        simp only [ne_eq, c0, q0, c1, q1, c2, q2, not_true_eq_false, not_false_eq_true, ↓reduceIte, Int.reduceLT, Int.reduceNeg]
      · have c2 : μ (mm_tr 2 + 4) (rpart c 2) = -1 := l2.mpr q2
        simp only [ne_eq, c0, q0, c1, q1, c2, q2, not_true_eq_false, not_false_eq_true, ↓reduceIte, Int.reduceLT, Int.reduceNeg]
    · have c1 : μ (mm_tr 1 + 4) (rpart c 1) = -1 := l1.mpr q1
      simp only [ne_eq, c0, q0, c1, q1, not_true_eq_false, not_false_eq_true, ↓reduceIte, Int.reduceLT, Int.reduceNeg]
  · have c0 : μ (mm_tr 0 + 4) (rpart c 0) = -1 := l0.mpr q0
    simp only [ne_eq, c0, q0, not_true_eq_false, not_false_eq_true, ↓reduceIte, Int.reduceLT, Int.reduceNeg]
/-- one edit of one input -/
theorem J_edit1 (hJ : J μ) (hl : 0 ≤ l ∧ l < μ 95 1) (hc : 0 ≤ c ∧ c < 216) (hb : b = 0 ∨ b = 1) (hv : -2000000000 ≤ v ∧ v ≤ 2000000000) (hx : x = if b = 0 then -2147483648 else v) (hM : Eqr M μ) {μ2 : mm_M} (h1 : ∀ a, a < 129 → μ2 a = mm_u (chk μ l) (mm_inr l) (cc c) x a) (h2 : ∀ a j, 129 ≤ a → a < 178 → μ2 a j = rchg (rnewE M l) c b v a j) : J μ2 := by
  have hA := J_new hJ hl
  have hrh := rnE_h (μ := μ) (l := l) (J_jh hJ).2.1 (by have := (J_cg1 hJ).1; omega)
  have hru : rnewE μ l 129 38 = rnewE μ l 129 37 ∧ rnewE μ l 157 (rnewE μ l 129 38 - 1) = l := by
    have key : ∀ A : mm_M, rnew A l 129 38 = rnew A l 129 37 ∧ rnew A l 157 (rnew A l 129 38 - 1) = l := fun A => by
      rw [rnew_38, rnew_37, rnew_157]
      exact ⟨rfl, if_pos (by omega)⟩
    unfold rnewE
    split <;> exact key _
  obtain ⟨u, hu⟩ : ∃ u : Nat, rnewE μ l 129 38 = u + 1 := ⟨(rnewE μ l 129 38 - 1).toNat, by have := hrh.2.1; omega⟩
  have a38 : asm (chk μ l) (rnewE μ l) 129 = rnewE μ l 129 := asm_r (by decide)
  have a58 : asm (chk μ l) (rnewE μ l) 158 u = 0 := by rw [asm_r (by decide)]; have := hrh.2.2; rw [hu, show (u : Int) + 1 - 1 = u by omega] at this; exact this
  have a57 : asm (chk μ l) (rnewE μ l) 157 u = l := by rw [asm_r (by decide)]; have := hru.2; rw [hu, show (u : Int) + 1 - 1 = u by omega] at this; exact this
  have hB := J_chg (u := u) (c := c) (b := b) (v := v) (x := x) hA (by rw [a38]; exact hu) (by rw [a38]; exact hru.1.symm) (by rw [a58]; decide) hc (fun k k0 k1 => by rw [a58] at k1; omega) hb hv hx
  rw [a57] at hB
  have hE : Eqr (rchg (rnewE M l) c b v) (rchg (asm (chk μ l) (rnewE μ l)) c b v) := Eqr_chg (fun a j a0 a1 hb => by rw [asm_r a0]; exact Eqr_new hM a j a0 a1 hb)
  refine J_cg (fun a a0 a1 => ?_) (fun j hj => ?_) hB
  · by_cases q : a < 129
    · rw [h1 a q, asm_c q]
      funext j
      rw [mm_ux, mm_ux, asm_c q]
    · funext j
      rw [h2 a j (by omega) a0, asm_r (by omega)]
      exact hE a j (by omega) a0 (Or.inl a1)
  · rw [h2 129 j (by decide) (by decide), asm_r (by decide)]
    exact hE 129 j (by decide) (by decide) (Or.inr (by omega))
theorem L_put (hq : mm_Q w) (hJ : J μ) (hn : n0 n) (h1 : -2147483648 ≤ l) (h2 : l ≤ 2147483647) (v1 : -2147483648 ≤ v) (v2 : v ≤ 2147483647) : PRV w X n (d + 200) 14 [.ref 32, .int (Int32.ofInt (l)), .int (Int32.ofInt (v))] 218 [.ref 129, .int (Int32.ofInt (l)), .int (Int32.ofInt (v))] μ := by
  intro Q1 hQ
  have hp := mm_QP hq
  obtain ⟨hc1, hc2⟩ := J_ch hJ
  have hjn := J_jn hJ
  have hrh := (J_jh hJ).2.1
  have hch := (J_jh hJ).1
  rw [en_14 (d := d + 199), b_14_0 hq, c_40 (d := d + 195) hp (J_ct hJ) (J_cg1 hJ) (J_cc hJ) hch h1 h2 v1 v2]
  have href : ∀ (μ' : mm_M) (n : mm_N) (Q2 : am_Ou → am_G → Prop), rt_a μ' → rg_r μ' → rh_r μ' → rc_r μ' → (am_C (d + 200) 218 [.ref 129, .int (Int32.ofInt (l)), .int (Int32.ofInt (v))] (mm_hp w μ' X n) Q2 ↔ _) := fun μ' n Q2 a1 a2 a3 a4 => c_218 (d := d + 196) (Q := Q2) (μ := μ') (X := X) (n := n) hp a1 a2 a3 a4 h1 h2 v1 v2
  have hiff : ((0 ≤ l ∧ l < μ 95 1) ∧ (μ (mm_tr 0 + 1) (μ 128 0) ≠ -2 ∧ μ (mm_tr 1 + 1) (μ 128 1) ≠ -2 ∧ μ (mm_tr 2 + 1) (μ 128 2) ≠ -2)) ↔ ((0 ≤ l ∧ l < μ 129 8) ∧ 0 ≤ rhere μ) := by rw [hjn.1, hc1]
  by_cases a : (0 ≤ l ∧ l < μ 95 1) ∧ (μ (mm_tr 0 + 1) (μ 128 0) ≠ -2 ∧ μ (mm_tr 1 + 1) (μ 128 1) ≠ -2 ∧ μ (mm_tr 2 + 1) (μ 128 2) ≠ -2)
  · have a' := hiff.mp a
    obtain ⟨e1, e2⟩ := hc2 a'.2
    rw [if_neg (fun z => z a)]
    by_cases c : -2000000000 ≤ v ∧ v ≤ 2000000000
    · rw [if_neg (fun z => z c), e1, J_inner hJ e2]
      have hib := rin_b (μ := μ) (c := rhere μ)
      by_cases i : rinner μ (rhere μ) = -1
      · rw [if_neg (fun z => z (by rw [i]; rfl)), bk_n, b_14_6 hq]
        refine hQ 0 _ X n nr_r fun Q2 hQ2 => ?_
        have hir := mm_inr_r l
        have eM : ∀ a, 129 ≤ a → mm_u (chk μ l) (mm_inr l) (cc (rhere μ)) v a = μ a := fun a ha => by rw [mm_uu (by omega), chk_o (by omega) (by omega) (by omega)]
        have g1 : rt_a (mm_u (chk μ l) (mm_inr l) (cc (rhere μ)) v) := fun e e0 e1 m m0 m1 => by rw [eM 130 (by decide), eM 131 (by decide)]; exact J_rt hJ e e0 e1 m m0 m1
        have g2 : rg_r (mm_u (chk μ l) (mm_inr l) (cc (rhere μ)) v) := by unfold rg_r; rw [eM 129 (by decide), eM 137 (by decide), eM 138 (by decide)]; exact J_rg hJ
        have g3 : rh_r (mm_u (chk μ l) (mm_inr l) (cc (rhere μ)) v) := by unfold rh_r; rw [eM 129 (by decide), eM 157 (by decide), eM 158 (by decide), eM 159 (by decide), eM 160 (by decide), eM 162 (by decide)]; exact hrh
        have g4 : rc_r (mm_u (chk μ l) (mm_inr l) (cc (rhere μ)) v) := fun e e0 e1 => by rw [eM 136 (by decide)]; exact J_rc hJ e e0 e1
        rw [href _ _ _ g1 g2 g3 g4, rhere_c (eM 130 (by decide)) (eM 136 (by decide)), eM 129 (by decide), if_neg (fun z => z a'), if_neg (fun z => z c), rinner_c (eM 130 (by decide)) (eM 131 (by decide)), if_neg (fun z => z i)]
        refine hQ2 _ (J_edit1 (M := mm_u (mm_u (chk μ l) (mm_inr l) (cc (rhere μ)) v) 129 0 0) (l := l) (c := rhere μ) (b := 1) (v := v) (x := v) hJ a.1 e2.1 (Or.inr rfl) c rfl (fun b j b0 b1 hb => ?_) (fun b b0 => ?_) (fun b j b0 b1 => rfl)) ?_
        · rw [mm_ux, if_neg (by omega), eM b b0]
        · rw [rchg_o (by omega) (by omega) (by omega), rnE_o ⟨by omega, by omega⟩, mm_uu (by omega)]
        · rw [rchg_o (by decide) (by decide) (by decide), rnE_f (by decide), mm_us]
      · have hi : ¬ rinner μ (rhere μ) < 0 := by omega
        rw [if_pos (by rw [if_neg hi]; omega)]
        refine ⟨n0_6 hn, ?_⟩
        rw [bk_h (hp := 15) (by decide +kernel), b_14_15 hq]
        refine hQ 3 _ X _ (nr_t hn) fun Q2 hQ2 => ?_
        rw [href _ _ _ (J_rt hJ) (J_rg hJ) hrh (J_rc hJ), if_neg (fun z => z a'), if_neg (fun z => z c), if_pos i]
        exact hQ2 _ (J_th hJ) mm_us
    · rw [if_pos c]
      refine ⟨n0_6 hn, ?_⟩
      rw [bk_h (hp := 12) (by decide +kernel), b_14_12 hq]
      refine hQ 2 _ X _ (nr_t hn) fun Q2 hQ2 => ?_
      rw [href _ _ _ (J_rt hJ) (J_rg hJ) hrh (J_rc hJ), if_neg (fun z => z a'), if_pos c]
      exact hQ2 _ (J_th hJ) mm_us
  · rw [if_pos a]
    refine ⟨n0_6 hn, ?_⟩
    rw [bk_h (hp := 9) (by decide +kernel), b_14_9 hq]
    refine hQ 1 _ X _ (nr_t hn) fun Q2 hQ2 => ?_
    rw [href _ _ _ (J_rt hJ) (J_rg hJ) hrh (J_rc hJ), if_pos (fun z => a (hiff.mpr z))]
    exact hQ2 _ (J_th hJ) mm_us
theorem L_erase (hq : mm_Q w) (hJ : J μ) (hn : n0 n) (h1 : -2147483648 ≤ l) (h2 : l ≤ 2147483647) : PRB w X n (d + 200) 7 [.ref 32, .int (Int32.ofInt (l)), .ref 178] 176 [.ref 129, .int (Int32.ofInt (l))] μ := by
  intro Q1 hQ
  have hp := mm_QP hq
  obtain ⟨hc1, hc2⟩ := J_ch hJ
  have hjn := J_jn hJ
  have hrh := (J_jh hJ).2.1
  have hch := (J_jh hJ).1
  rw [en_7 (d := d + 199), b_7_0 hq, c_33 (d := d + 195) hp (J_ct hJ) (J_cg1 hJ) (J_cc hJ) hch h1 h2]
  have href : ∀ (μ' : mm_M) (n : mm_N) (Q2 : am_Ou → am_G → Prop), rt_a μ' → rg_r μ' → rh_r μ' → rc_r μ' → (am_C (d + 200) 176 [.ref 129, .int (Int32.ofInt (l))] (mm_hp w μ' X n) Q2 ↔ _) := fun μ' n Q2 a1 a2 a3 a4 => c_176 (d := d + 196) (Q := Q2) (μ := μ') (X := X) (n := n) hp a1 a2 a3 a4 h1 h2
  have hiff : ((0 ≤ l ∧ l < μ 95 1) ∧ (μ (mm_tr 0 + 1) (μ 128 0) ≠ -2 ∧ μ (mm_tr 1 + 1) (μ 128 1) ≠ -2 ∧ μ (mm_tr 2 + 1) (μ 128 2) ≠ -2)) ↔ ((0 ≤ l ∧ l < μ 129 8) ∧ 0 ≤ rhere μ) := by rw [hjn.1, hc1]
  by_cases a : (0 ≤ l ∧ l < μ 95 1) ∧ (μ (mm_tr 0 + 1) (μ 128 0) ≠ -2 ∧ μ (mm_tr 1 + 1) (μ 128 1) ≠ -2 ∧ μ (mm_tr 2 + 1) (μ 128 2) ≠ -2)
  · have a' := hiff.mp a
    obtain ⟨e1, e2⟩ := hc2 a'.2
    obtain ⟨⟨g0, g1⟩, g2, g3, g4⟩ := hJ.2.2.1
    have q3 := g3 l (rhere μ) a.1.1 a.1.2 e2.1.1 e2.1.2
    have he2 := e2.1
    have q2 := g2 (216 * l + rhere μ) (by omega) (by omega)
    rw [if_neg (fun z => z a), e1]
    by_cases c : μ 137 (216 * l + rhere μ) = 0
    · rw [if_pos (by rw [q3, if_pos c]), bk_v, b_7_7 hq, if_pos rfl, b_7_15 hq, mm_w0, mm_gd (by decide)]
      refine hQ 0 _ X n nr_r fun Q2 hQ2 => ?_
      have hJo := J_o (k := 0) (v := 0) hJ
      rw [href _ _ _ (J_rt hJo) (J_rg hJo) (J_jh hJo).2.1 (J_rc hJo), rhere_c (mm_uu (by decide)) (mm_uu (by decide)), mm_uu (show (129 : Nat) ≠ 178 by decide), mm_uu (show (137 : Nat) ≠ 178 by decide), if_neg (fun z => z a'), if_pos c]
      refine hQ2 0 _ (J_th hJo) (Or.inl rfl) mm_us (fun _ => ?_)
      rw [mm_uu (by decide), mm_us]
    · rw [if_neg (by rw [q3, if_neg c]; omega), bk_v, b_7_7 hq, if_neg (by decide), b_7_15 hq, mm_w0, mm_gd (by decide)]
      refine hQ 0 _ X n nr_r fun Q2 hQ2 => ?_
      have hir := mm_inr_r l
      have eM : ∀ a, 129 ≤ a → a ≠ 178 → mm_u (mm_u (chk μ l) (mm_inr l) (cc (rhere μ)) (-2147483648)) 178 0 1 a = μ a := fun a ha ha2 => by rw [mm_uu ha2, mm_uu (by omega), chk_o (by omega) (by omega) (by omega)]
      have g1 : rt_a (mm_u (mm_u (chk μ l) (mm_inr l) (cc (rhere μ)) (-2147483648)) 178 0 1) := fun e e0 e1 m m0 m1 => by rw [eM 130 (by decide) (by decide), eM 131 (by decide) (by decide)]; exact J_rt hJ e e0 e1 m m0 m1
      have g2 : rg_r (mm_u (mm_u (chk μ l) (mm_inr l) (cc (rhere μ)) (-2147483648)) 178 0 1) := by unfold rg_r; rw [eM 129 (by decide) (by decide), eM 137 (by decide) (by decide), eM 138 (by decide) (by decide)]; exact J_rg hJ
      have g3' : rh_r (mm_u (mm_u (chk μ l) (mm_inr l) (cc (rhere μ)) (-2147483648)) 178 0 1) := by unfold rh_r; rw [eM 129 (by decide) (by decide), eM 157 (by decide) (by decide), eM 158 (by decide) (by decide), eM 159 (by decide) (by decide), eM 160 (by decide) (by decide), eM 162 (by decide) (by decide)]; exact hrh
      have g4' : rc_r (mm_u (mm_u (chk μ l) (mm_inr l) (cc (rhere μ)) (-2147483648)) 178 0 1) := fun e e0 e1 => by rw [eM 136 (by decide) (by decide)]; exact J_rc hJ e e0 e1
      rw [href _ _ _ g1 g2 g3' g4', rhere_c (eM 130 (by decide) (by decide)) (eM 136 (by decide) (by decide)), eM 129 (by decide) (by decide), eM 137 (by decide) (by decide), if_neg (fun z => z a'), if_neg c]
      refine hQ2 1 _ (J_edit1 (M := mm_u (mm_u (mm_u (chk μ l) (mm_inr l) (cc (rhere μ)) (-2147483648)) 178 0 1) 129 0 0) (l := l) (c := rhere μ) (b := 0) (v := 0) (x := -2147483648) hJ a.1 e2.1 (Or.inl rfl) (by decide) rfl (fun b j b0 b1 hb => ?_) (fun b b0 => ?_) (fun b j b0 b1 => rfl)) (Or.inr rfl) ?_ (fun _ => ?_)
      · rw [mm_ux, if_neg (by omega), eM b b0 (by omega)]
      · rw [rchg_o (by omega) (by omega) (by omega), rnE_o ⟨by omega, by omega⟩, mm_uu (by omega), mm_uu (by omega)]
      · rw [rchg_o (by decide) (by decide) (by decide), rnE_f (by decide), mm_us]
      · rw [rchg_o (by decide) (by decide) (by decide), rnE_o ⟨by omega, by omega⟩, mm_uu (by decide), mm_us]
  · rw [if_pos a]
    refine ⟨n0_6 hn, ?_⟩
    rw [bk_h (hp := 19) (by decide +kernel), b_7_19 hq]
    refine hQ 1 _ X _ (nr_t hn) fun Q2 hQ2 => ?_
    rw [href _ _ _ (J_rt hJ) (J_rg hJ) hrh (J_rc hJ), if_pos (fun z => a (hiff.mpr z))]
    exact hQ2 0 _ (J_th hJ) (Or.inl rfl) mm_us (fun z => absurd z (by decide))
end LC
