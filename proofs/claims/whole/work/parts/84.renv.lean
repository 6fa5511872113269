/-! The environment of both sides. -/
/-- the inputs of both sides -/
def J_g (μ : mm_M) : Prop := cg_r μ ∧ (∀ j, 0 ≤ j → j < 648 → (μ 137 j = 0 ∨ μ 137 j = 1) ∧ (-2000000000 ≤ μ 138 j ∧ μ 138 j ≤ 2000000000)) ∧ (∀ l c, 0 ≤ l → l < μ 95 1 → 0 ≤ c → c < 216 → μ (mm_inr l) (cc c) = if μ 137 (216 * l + c) = 0 then -2147483648 else μ 138 (216 * l + c)) ∧ ∀ j, 216 * μ 95 1 ≤ j → j < 648 → μ 137 j = 0
/-- the formulas of both sides -/
def J_k (μ : mm_M) : Prop := ∀ r, 0 ≤ r → r < μ 129 11 → (∃ h, ev_co (rNv μ) r h) ∧ ce_co μ (μ 54 r) (rNv μ) r
section RV
variable {μ μ' : mm_M} {c l e m r : Int}
theorem rin_b : -1 ≤ rinner μ c ∧ rinner μ c < 3 := by
  unfold rinner
  split
  · decide
  · split
    · decide
    · split <;> decide
theorem rin_fc (h : 0 ≤ rinner μ c) : sp_fc (rp μ (rinner μ c)) (rpart c (rinner μ c)) ≠ -1 := by
  revert h
  unfold rinner
  split
  · intro _; assumption
  · split
    · intro _; assumption
    · split
      · intro _; assumption
      · intro h; exact absurd h (by decide)
theorem rmv_cell (hc : rcell μ c) (he : 0 ≤ e ∧ e < 3) (hm : 0 ≤ m ∧ m < 6) (h : rp μ e m ≠ -2) : rcell μ (ev_mv c e m) := by
  refine ⟨rmv_b hc.1.1 hc.1.2 he hm, fun e' e0 e1 => ?_⟩
  unfold ev_mv
  rw [rmv_p hc.1.1 hc.1.2 he hm ⟨e0, e1⟩]
  split
  · rename_i q; rw [q]; exact h
  · exact hc.2 e' e0 e1
theorem rtg_6 : rtg μ e (sgd 6) m = if m ∈ fo_L (rp μ e) ∧ 0 < ((fo_L (rp μ e)).idxOf m : Int) then (fo_L (rp μ e)).getD ((fo_L (rp μ e)).idxOf m - 1) (-1) else -1 := by
  rw [show sgd 6 = 60 from rfl]
  unfold rtg
  rw [if_pos rfl]
theorem rtg_7 : rtg μ e (sgd 7) m = if m ∈ fo_L (rp μ e) then (fo_L (rp μ e)).getD ((fo_L (rp μ e)).idxOf m + 1) (-1) else -1 := by
  rw [show sgd 7 = 62 from rfl]
  unfold rtg
  rw [if_neg (by decide), if_pos rfl]
theorem rtg_8 : rtg μ e (sgd 8) m = rq μ e m := by
  rw [show sgd 8 = 94 from rfl]
  unfold rtg
  rw [if_neg (by decide), if_neg (by decide), if_pos rfl]
theorem rtg_d {s : Int} (h : 0 ≤ s ∧ s < 6) : rtg μ e (sgd s) m = if μ 130 (6 * e + s) = 0 then -1 else s := by
  have : sgd s = s + 48 := by unfold sgd; rw [if_neg (by omega), if_neg (by omega), if_neg (by omega), if_neg (by omega)]
  rw [this]
  unfold rtg
  rw [if_neg (by omega), if_neg (by omega), if_neg (by omega), if_neg (by omega), show s + 48 - 48 = s by omega]
theorem env_ok (hA : rA μ) (hk : ∀ r, 0 ≤ r → r < μ 129 11 → ∃ h, ev_co (rNv μ) r h) : ev_en (rNv μ) (rcell μ) := by
  have h11 := hA.2.1.1
  have hwf : ∀ e, 0 ≤ e → e < 3 → fo_wf (rp μ e) := fun e h0 h1 => (hA.1 e h0 h1).1
  refine ⟨fun c hc => hc.1, hA.2.2.2.2.2.2.1, fun c hc => ?_, fun c hc => ?_, fun c hc hw => ?_, fun c hc => rin_b, fun c e m hc e0 e1 hm => ?_, fun c e hc e0 e1 => ch_len, fun c hc hi => ?_, fun c e s hc e0 e1 s0 s9 => ?_⟩
  · show (if 0 ≤ rilay μ c then μ 138 (216 * rilay μ c + c) else -2147483648) = -2147483648 ∨ _
    have := rilay_b (c := c) hA
    have h1 := hc.1
    by_cases q : 0 ≤ rilay μ c
    · right
      show -2000000000 ≤ (if 0 ≤ rilay μ c then μ 138 (216 * rilay μ c + c) else -2147483648) ∧ (if 0 ≤ rilay μ c then μ 138 (216 * rilay μ c + c) else -2147483648) ≤ 2000000000
      rw [if_pos q]
      exact hA.2.2.2.1 _ (by omega) (by omega)
    · left; rw [if_neg q]
  · have := rwin_b (μ := μ) (c := c) (μ 129 11).toNat
    show -1 ≤ rwin μ c (μ 129 11).toNat ∧ rwin μ c (μ 129 11).toNat < 8
    omega
  · have := rwin_b (μ := μ) (c := c) (μ 129 11).toNat
    have hw : 0 ≤ rwin μ c (μ 129 11).toNat := hw
    exact hk _ hw (show rwin μ c (μ 129 11).toNat < μ 129 11 by omega)
  · have hm : m ∈ fo_ch (rp μ e) (rpart c e) := hm
    have h1 := fo_mem_ch.mp hm
    have hp := rpart_b (e := e) hc.1.1 hc.1.2
    exact ⟨h1.1, rmv_cell hc ⟨e0, e1⟩ h1.1 (by omega)⟩
  · have hi : 0 ≤ rinner μ c := hi
    show fo_ch (rp μ (rinner μ c)) (rpart c (rinner μ c)) ≠ []
    intro q
    have := rin_fc hi
    rw [← fo_ch0, q] at this
    exact this rfl
  · have hp := rpart_b (e := e) hc.1.1 hc.1.2
    have ho := hA.1 e e0 e1
    have hL := fo_Lin (hwf e e0 e1)
    have hcp := hc.2 e e0 e1
    have hx := @List.idxOf_lt_length_iff Int _ _ (fo_L (rp μ e)) (rpart c e)
    show rtg μ e (sgd s) (rpart c e) < 0 ∨ ((0 ≤ rtg μ e (sgd s) (rpart c e) ∧ rtg μ e (sgd s) (rpart c e) < 6) ∧ rcell μ (ev_mv c e (rtg μ e (sgd s) (rpart c e))))
    have fin : ∀ v, v = rtg μ e (sgd s) (rpart c e) → (v < 0 ∨ ((0 ≤ v ∧ v < 6) ∧ rp μ e v ≠ -2)) → rtg μ e (sgd s) (rpart c e) < 0 ∨ ((0 ≤ rtg μ e (sgd s) (rpart c e) ∧ rtg μ e (sgd s) (rpart c e) < 6) ∧ rcell μ (ev_mv c e (rtg μ e (sgd s) (rpart c e)))) := by
      rintro _ rfl (q | q)
      · exact Or.inl q
      · exact Or.inr ⟨q.1, rmv_cell hc ⟨e0, e1⟩ q.1 q.2⟩
    have hLg : ∀ i : Nat, (fo_L (rp μ e)).getD i (-1) < 0 ∨ ((0 ≤ (fo_L (rp μ e)).getD i (-1) ∧ (fo_L (rp μ e)).getD i (-1) < 6) ∧ rp μ e ((fo_L (rp μ e)).getD i (-1)) ≠ -2) := by
      intro i
      by_cases hi : i < (fo_L (rp μ e)).length
      · exact Or.inr (fo_getD_in (P := fun x => (0 ≤ x ∧ x < 6) ∧ rp μ e x ≠ -2) (fun x hx => by have := ((hL.2.1 x).mp hx).1; exact ⟨⟨this.1, this.2.1⟩, this.2.2⟩) hi)
      · rw [List.getD_eq_getElem?_getD, List.getElem?_eq_none (by omega)]
        exact Or.inl (show (-1 : Int) < 0 by decide)
    refine fin _ rfl ?_
    rcases (by omega : s = 6 ∨ s = 7 ∨ s = 8 ∨ (s ≠ 6 ∧ s ≠ 7 ∧ s ≠ 8 ∧ s < 6)) with rfl | rfl | rfl | hs
    · rw [rtg_6]
      split
      · exact hLg _
      · exact Or.inl (by decide)
    · rw [rtg_7]
      split
      · exact hLg _
      · exact Or.inl (by decide)
    · rw [rtg_8, rp_q' hcp]
      have := hwf e e0 e1 (rpart c e) hp.1 hp.2
      by_cases q : rp μ e (rpart c e) < 0
      · exact Or.inl q
      · exact Or.inr ⟨⟨by omega, by omega⟩, this.2.1 (by omega)⟩
    · rw [rtg_d (by omega)]
      by_cases q : μ 130 (6 * e + s) = 0
      · rw [if_pos q]; exact Or.inl (by decide)
      · rw [if_neg q]
        exact Or.inr ⟨⟨by omega, by omega⟩, (rp_th (hA.1 e e0 e1).2.1 s0 (by omega)).mpr q⟩
theorem csee_lay (hg : J_g μ) (hc : 0 ≤ c ∧ c < 216) : ∀ k : Nat, (k : Int) ≤ μ 95 1 → csee μ (cc c) k = if 0 ≤ rlay μ c k then μ 138 (216 * rlay μ c k + c) else -2147483648 := by
  intro k
  induction k with
  | zero => intro _; rfl
  | succ k ih =>
    intro hk
    have g3 := hg.2.2.1 k c (by omega) (by omega) hc.1 hc.2
    have hl3 := hg.1.1
    have g2 := (hg.2.1 (216 * k + c) (by omega) (by omega)).2
    unfold csee rlay
    rw [g3]
    by_cases q : μ 137 (216 * (k : Int) + c) = 0
    · rw [if_pos q, if_pos q, if_pos rfl]
      exact ih (by omega)
    · rw [if_neg q, if_neg q, if_neg (by omega), if_pos (by omega)]
/-- the class's rows say what the reference's say -/
theorem env_ce (hA : rA μ) (ht : J_t μ) (hp : J_p μ) (hg : J_g μ) (hk : J_k μ) (h6 : μ 122 6 = μ 129 46) (h7 : μ 122 6 < μ 95 1) : ce_0 μ (rNv μ) (rcell μ) := by
  have h46 := hA.2.2.2.2.2.1
  have hwf : ∀ e, 0 ≤ e → e < 3 → fo_wf (rp μ e) := fun e h0 h1 => (hA.1 e h0 h1).1
  refine ⟨fun e e0 e1 => (ht e e0 e1).2.1, hp.2.1, hg.1, fun c hc => ?_, by omega, fun c hc hi => ?_, fun c hc hi => ?_, fun c hc => ?_, fun c hc hi => ?_, fun e m e0 e1 m0 m1 => ?_, fun c hc hw => ?_, fun c e s hc e0 e1 s0 s9 => ?_⟩
  · show cinner μ (cc c) = if rinner μ c < 0 then 3 else rinner μ c
    have b := fun e => rpart_b (e := e) hc.1.1 hc.1.2
    have l0 := J_leaf ht (e := 0) (by decide) (b 0).1 (b 0).2 (hc.2 0 (by decide) (by decide))
    have l1 := J_leaf ht (e := 1) (by decide) (b 1).1 (b 1).2 (hc.2 1 (by decide) (by decide))
    have l2 := J_leaf ht (e := 2) (by decide) (b 2).1 (b 2).2 (hc.2 2 (by decide) (by decide))
    unfold cinner rinner
    rw [cc_p hc.1.1 hc.1.2, cc_p hc.1.1 hc.1.2, cc_p hc.1.1 hc.1.2]
    by_cases q0 : sp_fc (rp μ 0) (rpart c 0) = -1
    · have c0 : ¬ μ (mm_tr 0 + 4) (rpart c 0) = -1 := fun q => l0.mp q q0
      by_cases q1 : sp_fc (rp μ 1) (rpart c 1) = -1
      · have c1 : ¬ μ (mm_tr 1 + 4) (rpart c 1) = -1 := fun q => l1.mp q q1
        by_cases q2 : sp_fc (rp μ 2) (rpart c 2) = -1
        · have c2 : ¬ μ (mm_tr 2 + 4) (rpart c 2) = -1 := fun q => l2.mp q q2
          simp only [ne_eq, c0, q0, c1, q1, c2, q2, not_true_eq_false, not_false_eq_true, ↓reduceIte, Int.reduceLT, Int.reduceNeg]
        · have c2 : μ (mm_tr 2 + 4) (rpart c 2) = -1 := l2.mpr q2
          simp only [ne_eq, c0, q0, c1, q1, c2, q2, not_true_eq_false, not_false_eq_true, ↓reduceIte, Int.reduceLT, Int.reduceNeg]
      · have c1 : μ (mm_tr 1 + 4) (rpart c 1) = -1 := l1.mpr q1
        simp only [ne_eq, c0, q0, c1, q1, not_true_eq_false, not_false_eq_true, ↓reduceIte, Int.reduceLT, Int.reduceNeg]
    · have c0 : μ (mm_tr 0 + 4) (rpart c 0) = -1 := l0.mpr q0
      simp only [ne_eq, c0, q0, not_true_eq_false, not_false_eq_true, ↓reduceIte, Int.reduceLT, Int.reduceNeg]
  · have hi : rinner μ c < 0 := hi
    show csee μ (cc c) (μ 122 6 + 1).toNat = if 0 ≤ rilay μ c then μ 138 (216 * rilay μ c + c) else -2147483648
    have hb := rin_b (μ := μ) (c := c)
    have : rilay μ c = rlay μ c (μ 129 46 + 1).toNat := by unfold rilay; rw [if_pos (by omega)]
    rw [this, h6]
    exact csee_lay hg hc.1 _ (by omega)
  · have hi : ¬ rinner μ c < 0 := hi
    show (if 0 ≤ rilay μ c then μ 138 (216 * rilay μ c + c) else -2147483648) = -2147483648
    have : rilay μ c = -1 := by unfold rilay; rw [if_neg (by omega)]
    rw [if_neg (by omega)]
  · show _ = rwin μ c (μ 129 11).toNat
    have h11 := hp.1.1
    have := (J_win ht hp hc (μ 129 11).toNat (by omega)).1
    rw [hp.2.2.1]
    exact this
  · have hi : ¬ rinner μ c < 0 := hi
    show μ (mm_tr (rinner μ c) + 2) (rpart c (rinner μ c)) = μ 132 (6 * rinner μ c + rpart c (rinner μ c))
    have hb := rin_b (μ := μ) (c := c)
    have hb2 := rpart_b (e := rinner μ c) hc.1.1 hc.1.2
    exact (ht (rinner μ c) (by omega) (by omega)).2.2.2.2.1 _ hb2.1 hb2.2 (hc.2 _ (by omega) (by omega))
  · exact ag_ch (ht e e0 e1).2.2.2.1
  · have := rwin_b (μ := μ) (c := c) (μ 129 11).toNat
    have hw : 0 ≤ rwin μ c (μ 129 11).toNat := hw
    exact (hk _ hw (show rwin μ c (μ 129 11).toNat < μ 129 11 by omega)).2
  · have hp2 := rpart_b (e := e) hc.1.1 hc.1.2
    obtain ⟨⟨t1, t2, t3, t4, t5⟩, -, ⟨o1, o2, o3, o4⟩, ha, -⟩ := ht e e0 e1
    have hcp := hc.2 e e0 e1
    have hL := ag_L ha
    have hin := fo_Lin o1
    have hx := @List.idxOf_lt_length_iff Int _ _ (fo_L (rp μ e)) (rpart c e)
    rw [hL] at t2 t3 t4
    have h4 := t4 (rpart c e) hp2.1 hp2.2
    show rtg μ e (sgd s) (rpart c e) = _
    rw [h4]
    rcases (by omega : s = 6 ∨ s = 7 ∨ s = 8 ∨ (s ≠ 6 ∧ s ≠ 7 ∧ s ≠ 8 ∧ s < 6)) with rfl | rfl | rfl | hs
    · rw [rtg_6, if_pos (show (6 : Int) = 6 from rfl)]
      by_cases q : rpart c e ∈ fo_L (rp μ e)
      · have q2 := hx.mpr q
        rw [if_pos q]
        by_cases q3 : 0 < ((fo_L (rp μ e)).idxOf (rpart c e) : Int)
        · rw [if_pos ⟨q, q3⟩, if_neg (by omega), t3 _ (by omega) (by omega)]
          congr 1
          omega
        · rw [if_neg (fun z => q3 z.2), if_pos (by omega)]
      · rw [if_neg q, if_neg (fun z => q z.1), if_pos (Or.inl rfl)]
    · rw [rtg_7, if_neg (show ¬ (7 : Int) = 6 by decide), if_pos (show (7 : Int) = 7 from rfl)]
      by_cases q : rpart c e ∈ fo_L (rp μ e)
      · have q2 := hx.mpr q
        rw [if_pos q, if_pos q]
        by_cases q3 : (fo_L (rp μ e)).idxOf (rpart c e) + 1 < (fo_L (rp μ e)).length
        · rw [if_neg (by omega), t3 _ (by omega) (by omega)]
          congr 1
        · rw [if_pos (by omega), List.getD_eq_getElem?_getD, List.getElem?_eq_none (by omega)]
          rfl
      · rw [if_neg q, if_neg q, if_pos (Or.inl rfl)]
    · rw [rtg_8, if_neg (show ¬ (8 : Int) = 6 by decide), if_neg (show ¬ (8 : Int) = 7 by decide), if_pos (show (8 : Int) = 8 from rfl), rp_q' hcp, ha _ hp2.1 hp2.2]
    · rw [rtg_d (by omega), if_neg (show ¬ s = 6 from hs.1), if_neg (show ¬ s = 7 from hs.2.1), if_neg (show ¬ s = 8 from hs.2.2.1), ha s s0 (by omega)]
      have := rp_th o2 s0 (show s < 6 by omega)
      by_cases q : μ 130 (6 * e + s) = 0
      · rw [if_pos q, if_neg (fun z => (this.mp z) q)]
      · rw [if_neg q, if_pos (this.mpr q)]
end RV
