/-! The reference's trees. -/
def rp (μ : mm_M) (e : Int) : Int → Int := fun m => if μ 130 (6 * e + m) = 1 then μ 131 (6 * e + m) else -2
def rq (μ : mm_M) (e : Int) : Int → Int := fun m => μ 131 (6 * e + m)
/-- the reference's tree of a dimension is in range -/
def rt_r (μ : mm_M) (e : Int) : Prop := ∀ m, 0 ≤ m → m < 6 → (μ 130 (6 * e + m) = 0 ∨ μ 130 (6 * e + m) = 1) ∧ (-1 ≤ μ 131 (6 * e + m) ∧ μ 131 (6 * e + m) ≤ 5)
def rt_u (q : Int → Int) (t : Int) : Nat → Int → Int
  | 0, v => v
  | k + 1, v => if v < 0 then v else if v = t then v else rt_u q t k (q v)
def rt_many (p : Int → Int) : Int := (fo_rg.filter (fun c => decide (p c ≠ -2))).length
section RT
variable {d : Nat} {Q : am_Ou → am_G → Prop} {w : mm_Z} {μ : mm_M} {X : mm_X} {n : mm_N} {e m : Int}
theorem rp_m (hr : rt_r μ e) {c m : Int} (h0 : 0 ≤ c) (h6 : c < 6) (hm : m ≠ -2) : rp μ e c = m ↔ μ 130 (6 * e + c) ≠ 0 ∧ μ 131 (6 * e + c) = m := by
  have := hr c h0 h6
  unfold rp
  split <;> omega
theorem rp_th (hr : rt_r μ e) {c : Int} (h0 : 0 ≤ c) (h6 : c < 6) : rp μ e c ≠ -2 ↔ μ 130 (6 * e + c) ≠ 0 := by
  have := hr c h0 h6
  unfold rp
  split <;> omega
theorem rp_q (hr : rt_r μ e) {c : Int} (h : rp μ e c ≠ -2) : rq μ e c = rp μ e c := by
  unfold rp at h ⊢
  split at h
  · rename_i e1; rw [if_pos e1]; rfl
  · exact absurd rfl h
theorem c_164_6 (hq : mm_P w) (he : 0 ≤ e ∧ e < 3) (h1 : -1 ≤ m) (h2 : m ≤ 5) {k0 : Int} (hr : rt_r μ e) : ∀ (j : Nat) (l : Int), j ≤ 6 → 0 ≤ l → l ≤ 100 → (am_E d 164 Q (6, [some (.ref 129), some (.int (Int32.ofInt (e))), some (.int (Int32.ofInt (m))), some (.int (Int32.ofInt (k0))), some (.int (Int32.ofInt (l))), some (.int (Int32.ofInt (6 - (j : Int))))], [], mm_hp w μ X n) ↔ Q (.inl (some (.int (Int32.ofInt (((fo_rk j).filter (fun c => decide (rp μ e c = m))).getD l.toNat (-1)))))) (mm_hp w μ X n)) := by
  intro j
  induction j with
  | zero =>
    intro l _ h3 h4
    rw [b_164_6 hq]
    simp (disch := omega) only [and_self, true_and, mm_ltx, mm_lex, mm_eqx, mm_wv, mm_gd, ↓reduceIte, Int.reduceAdd, Int.reduceSub, Int.reduceNeg, Int.reduceLE, Int.reduceLT, Int.reduceMul, if_pos, if_neg]
    rfl
  | succ j ih =>
    intro l hj h3 h4
    have g0 : 0 ≤ 6 - ((j + 1 : Nat) : Int) := by omega
    have g6 : 6 - ((j + 1 : Nat) : Int) < 6 := by omega
    have e1 : 6 - ((j + 1 : Nat) : Int) + 1 = 6 - (j : Int) := by omega
    rw [b_164_6 hq]
    unfold fo_rk
    generalize hm : 6 - ((j + 1 : Nat) : Int) = c at *
    have hrc := hr c g0 g6
    have hrm := rp_m hr g0 g6 (show m ≠ -2 by omega)
    by_cases a : rp μ e c = m
    · obtain ⟨a1, a2⟩ := hrm.mp a
      rw [List.filter_cons_of_pos (by simp [a])]
      simp (disch := omega) only [and_self, true_and, mm_ltx, mm_lex, mm_eqx, mm_wv, mm_gd, ↓reduceIte, Int.reduceAdd, Int.reduceSub, Int.reduceNeg, Int.reduceLE, Int.reduceLT, Int.reduceMul, if_pos, if_neg]
      simp only [a2, if_true, b_164_53 hq]
      by_cases h : l = 0
      · subst h
        simp (disch := omega) only [and_self, true_and, mm_ltx, mm_lex, mm_eqx, mm_wv, mm_gd, ↓reduceIte, Int.reduceAdd, Int.reduceSub, Int.reduceNeg, Int.reduceLE, Int.reduceLT, Int.reduceMul, if_pos, if_neg]
        rfl
      · rw [show l.toNat = (l - 1).toNat + 1 by omega, List.getD_cons_succ, ← ih (l - 1) (by omega) (by omega) (by omega)]
        simp (disch := omega) only [and_self, true_and, mm_ltx, mm_lex, mm_eqx, mm_wv, mm_gd, ↓reduceIte, Int.reduceAdd, Int.reduceSub, Int.reduceNeg, Int.reduceLE, Int.reduceLT, Int.reduceMul, if_pos, if_neg]
        rw [e1]
    · rw [List.filter_cons_of_neg (by simp [a])]
      rw [← ih l (by omega) h3 h4]
      have fin : am_E d 164 Q (51, [some (.ref 129), some (.int (Int32.ofInt (e))), some (.int (Int32.ofInt (m))), some (.int (Int32.ofInt (k0))), some (.int (Int32.ofInt (l))), some (.int (Int32.ofInt (c)))], [], mm_hp w μ X n) ↔ am_E d 164 Q (6, [some (.ref 129), some (.int (Int32.ofInt (e))), some (.int (Int32.ofInt (m))), some (.int (Int32.ofInt (k0))), some (.int (Int32.ofInt (l))), some (.int (Int32.ofInt (6 - (j : Int))))], [], mm_hp w μ X n) := by
        simp only [b_164_51 hq, b_164_53 hq]
        simp (disch := omega) only [and_self, true_and, mm_ltx, mm_lex, mm_eqx, mm_wv, mm_gd, ↓reduceIte, Int.reduceAdd, Int.reduceSub, Int.reduceNeg, Int.reduceLE, Int.reduceLT, Int.reduceMul, if_pos, if_neg]
        rw [e1]
      by_cases h : μ 130 (6 * e + c) = 0
      · simp (disch := omega) only [and_self, true_and, mm_ltx, mm_lex, mm_eqx, mm_wv, mm_gd, ↓reduceIte, Int.reduceAdd, Int.reduceSub, Int.reduceNeg, Int.reduceLE, Int.reduceLT, Int.reduceMul, if_pos, if_neg]
        exact fin
      · have h' : ¬ μ 131 (6 * e + c) = m := fun q => a (hrm.mpr ⟨h, q⟩)
        simp (disch := omega) only [and_self, true_and, mm_ltx, mm_lex, mm_eqx, mm_wv, mm_gd, ↓reduceIte, Int.reduceAdd, Int.reduceSub, Int.reduceNeg, Int.reduceLE, Int.reduceLT, Int.reduceMul, if_pos, if_neg]
        exact fin
theorem c_164 (hq : mm_P w) (he : 0 ≤ e ∧ e < 3) (h1 : -1 ≤ m) (h2 : m ≤ 5) {k : Int} (h3 : 0 ≤ k) (h4 : k ≤ 100) (hr : rt_r μ e) : am_C (d + 1) 164 [.ref 129, .int (Int32.ofInt (e)), .int (Int32.ofInt (m)), .int (Int32.ofInt (k))] (mm_hp w μ X n) Q ↔ Q (.inl (some (.int (Int32.ofInt ((fo_ch (rp μ e) m).getD k.toNat (-1)))))) (mm_hp w μ X n) := by
  simp only [en_164, b_164_0 hq]
  exact c_164_6 hq he h1 h2 hr 6 k (by omega) h3 h4
theorem fo_ch0 {p : Int → Int} : (fo_ch p m).getD 0 (-1) = sp_fc p m := by
  have h : ∀ (a : Int) (l : List Int), ((a :: l).filter (fun c => decide (p c = m))).getD 0 (-1) = if p a = m then a else (l.filter (fun c => decide (p c = m))).getD 0 (-1) := by
    intro a l
    by_cases e : p a = m
    · rw [List.filter_cons_of_pos (by simp [e]), if_pos e]; rfl
    · rw [List.filter_cons_of_neg (by simp [e]), if_neg e]
  unfold fo_ch fo_rg sp_fc
  rw [h, h, h, h, h, h]
  rfl
theorem c_194 (hq : mm_P w) (he : 0 ≤ e ∧ e < 3) (h1 : -1 ≤ m) (h2 : m ≤ 5) (hr : rt_r μ e) : am_C (d + 2) 194 [.ref 129, .int (Int32.ofInt (e)), .int (Int32.ofInt (m))] (mm_hp w μ X n) Q ↔ Q (.inl (some (.int (Int32.ofInt (if sp_fc (rp μ e) m = -1 then 1 else 0))))) (mm_hp w μ X n) := by
  have hb := sp_fc_b (p := rp μ e) (m := m)
  simp only [en_194 (d := d + 1), b_194_0 hq, c_164 (d := d) hq he h1 h2 (show (0 : Int) ≤ 0 by decide) (by decide) hr, bk_v, Nat.reduceAdd, b_194_7 hq]
  rw [show (Int.toNat 0) = 0 from rfl, fo_ch0]
  by_cases h : sp_fc (rp μ e) m = -1
  · simp (disch := omega) only [and_self, true_and, mm_ltx, mm_lex, mm_eqx, mm_wv, mm_gd, ↓reduceIte, Int.reduceAdd, Int.reduceSub, Int.reduceNeg, Int.reduceLE, Int.reduceLT, Int.reduceMul, if_pos, if_neg]
  · simp (disch := omega) only [and_self, true_and, mm_ltx, mm_lex, mm_eqx, mm_wv, mm_gd, ↓reduceIte, Int.reduceAdd, Int.reduceSub, Int.reduceNeg, Int.reduceLE, Int.reduceLT, Int.reduceMul, if_pos, if_neg]
theorem c_168_8 (hq : mm_P w) (he : 0 ≤ e ∧ e < 3) (hr : rt_r μ e) : ∀ (k : Nat) (v : Int), k ≤ 6 → 0 ≤ v → v < 6 → (am_E d 168 Q (8, [some (.ref 129), some (.int (Int32.ofInt (e))), some (.int (Int32.ofInt (m))), some (.int (Int32.ofInt (6 - (k : Int)))), some (.int (Int32.ofInt (v))), some (.int (Int32.ofInt (6 - (k : Int))))], [], mm_hp w μ X n) ↔ Q (.inl (some (.int (Int32.ofInt (6 - (k : Int) + fo_dp (rq μ e) k v))))) (mm_hp w μ X n)) := by
  intro k
  induction k with
  | zero =>
    intro v _ _ _
    rw [b_168_8 hq]
    simp (disch := omega) only [and_self, true_and, mm_ltx, mm_lex, mm_eqx, mm_wv, mm_gd, ↓reduceIte, Int.reduceAdd, Int.reduceSub, Int.reduceNeg, Int.reduceLE, Int.reduceLT, Int.reduceMul, if_pos, if_neg]
    rfl
  | succ k ih =>
    intro v hk v0 v6
    have hv := (hr v v0 v6).2
    rw [b_168_8 hq]
    unfold fo_dp
    by_cases a : rq μ e v < 0
    · have a' : μ 131 (6 * e + v) < 0 := a
      simp (disch := omega) only [and_self, true_and, mm_ltx, mm_lex, mm_eqx, mm_wv, mm_gd, ↓reduceIte, Int.reduceAdd, Int.reduceSub, Int.reduceNeg, Int.reduceLE, Int.reduceLT, Int.reduceMul, if_pos, if_neg]
      rw [Int.add_zero]
    · have a' : ¬ μ 131 (6 * e + v) < 0 := a
      simp (disch := omega) only [and_self, true_and, mm_ltx, mm_lex, mm_eqx, mm_wv, mm_gd, ↓reduceIte, Int.reduceAdd, Int.reduceSub, Int.reduceNeg, Int.reduceLE, Int.reduceLT, Int.reduceMul, if_pos, if_neg]
      have hi := ih (rq μ e v) (by omega) (by omega) (by unfold rq; omega)
      rw [show (6 : Int) - ((k + 1 : Nat) : Int) + 1 = 6 - (k : Int) by omega]
      refine Iff.trans hi ?_
      rw [show 6 - (k : Int) + fo_dp (rq μ e) k (rq μ e v) = 6 - ((k + 1 : Nat) : Int) + (fo_dp (rq μ e) k (rq μ e v) + 1) by omega]
theorem c_168 (hq : mm_P w) (he : 0 ≤ e ∧ e < 3) (h1 : 0 ≤ m) (h2 : m < 6) (hr : rt_r μ e) : am_C (d + 1) 168 [.ref 129, .int (Int32.ofInt (e)), .int (Int32.ofInt (m))] (mm_hp w μ X n) Q ↔ Q (.inl (some (.int (Int32.ofInt (fo_dp (rq μ e) 6 m))))) (mm_hp w μ X n) := by
  simp only [en_168, b_168_0 hq]
  have := c_168_8 (d := d) (Q := Q) (X := X) (n := n) (m := m) hq he hr 6 m (by omega) h1 h2
  rw [show (6 : Int) - ((6 : Nat) : Int) = 0 from rfl, Int.zero_add] at this
  exact this
theorem c_238_6 (hq : mm_P w) (he : 0 ≤ e ∧ e < 3) {t : Int} (ht : 0 ≤ t ∧ t ≤ 5) (hr : rt_r μ e) : ∀ (k : Nat) (v : Int), k ≤ 6 → -1 ≤ v → v < 6 → (am_E d 238 Q (6, [some (.ref 129), some (.int (Int32.ofInt (e))), some (.int (Int32.ofInt (m))), some (.int (Int32.ofInt (t))), some (.int (Int32.ofInt (v))), some (.int (Int32.ofInt (6 - (k : Int))))], [], mm_hp w μ X n) ↔ Q (.inl (some (.int (Int32.ofInt (if rt_u (rq μ e) t k v = t then 1 else 0))))) (mm_hp w μ X n)) := by
  have fin : ∀ v j : Int, -1 ≤ v → v < 6 → (am_E d 238 Q (44, [some (.ref 129), some (.int (Int32.ofInt (e))), some (.int (Int32.ofInt (m))), some (.int (Int32.ofInt (t))), some (.int (Int32.ofInt (v))), some (.int (Int32.ofInt (j)))], [], mm_hp w μ X n) ↔ Q (.inl (some (.int (Int32.ofInt (if v = t then 1 else 0))))) (mm_hp w μ X n)) := by
    intro v j _ _
    rw [b_238_44 hq]
    simp (disch := omega) only [and_self, true_and, mm_ltx, mm_lex, mm_eqx, mm_wv, mm_gd, ↓reduceIte, Int.reduceAdd, Int.reduceSub, Int.reduceNeg, Int.reduceLE, Int.reduceLT, Int.reduceMul, mm_qi (Q := Q)]
  intro k
  induction k with
  | zero =>
    intro v _ v0 v6
    rw [b_238_6 hq]
    simp (disch := omega) only [and_self, true_and, mm_ltx, mm_lex, mm_eqx, mm_wv, mm_gd, ↓reduceIte, Int.reduceAdd, Int.reduceSub, Int.reduceNeg, Int.reduceLE, Int.reduceLT, Int.reduceMul, if_pos, if_neg]
    exact fin v _ v0 v6
  | succ k ih =>
    intro v hk v0 v6
    rw [b_238_6 hq]
    unfold rt_u
    by_cases a : v < 0
    · simp (disch := omega) only [and_self, true_and, mm_ltx, mm_lex, mm_eqx, mm_wv, mm_gd, ↓reduceIte, Int.reduceAdd, Int.reduceSub, Int.reduceNeg, Int.reduceLE, Int.reduceLT, Int.reduceMul, if_pos, if_neg]
      exact (fin v _ v0 v6).trans (by rw [if_neg (by omega)])
    · by_cases b : v = t
      · simp (disch := omega) only [and_self, true_and, mm_ltx, mm_lex, mm_eqx, mm_wv, mm_gd, ↓reduceIte, Int.reduceAdd, Int.reduceSub, Int.reduceNeg, Int.reduceLE, Int.reduceLT, Int.reduceMul, if_pos, if_neg]
        exact (fin v _ v0 v6).trans (by rw [if_pos b])
      · have hv := (hr v (by omega) v6).2
        simp (disch := omega) only [and_self, true_and, mm_ltx, mm_lex, mm_eqx, mm_wv, mm_gd, ↓reduceIte, Int.reduceAdd, Int.reduceSub, Int.reduceNeg, Int.reduceLE, Int.reduceLT, Int.reduceMul, if_pos, if_neg]
        rw [show (6 : Int) - ((k + 1 : Nat) : Int) + 1 = 6 - (k : Int) by omega]
        exact ih (μ 131 (6 * e + v)) (by omega) (by omega) (by omega)
theorem d_238 (hq : mm_P w) (he : 0 ≤ e ∧ e < 3) {t : Int} (ht : 0 ≤ t ∧ t ≤ 5) (h1 : -1 ≤ m) (h2 : m < 6) (hr : rt_r μ e) : am_C (d + 1) 238 [.ref 129, .int (Int32.ofInt (e)), .int (Int32.ofInt (m)), .int (Int32.ofInt (t))] (mm_hp w μ X n) Q ↔ Q (.inl (some (.int (Int32.ofInt (if rt_u (rq μ e) t 6 m = t then 1 else 0))))) (mm_hp w μ X n) := by
  simp only [en_238, b_238_0 hq]
  exact c_238_6 hq he ht hr 6 m (by omega) h1 h2
theorem c_204_4 (hq : mm_P w) (he : 0 ≤ e ∧ e < 3) (hr : rt_r μ e) : ∀ (k : Nat) (c : Int), k ≤ 6 → 0 ≤ c → c + k ≤ 6 → (am_E d 204 Q (4, [some (.ref 129), some (.int (Int32.ofInt (e))), some (.int (Int32.ofInt (c))), some (.int (Int32.ofInt (6 - (k : Int))))], [], mm_hp w μ X n) ↔ Q (.inl (some (.int (Int32.ofInt (c + ((fo_rk k).filter (fun c => decide (rp μ e c ≠ -2))).length))))) (mm_hp w μ X n)) := by
  intro k
  induction k with
  | zero =>
    intro c _ _ _
    rw [b_204_4 hq]
    simp (disch := omega) only [and_self, true_and, mm_ltx, mm_lex, mm_eqx, mm_wv, mm_gd, ↓reduceIte, Int.reduceAdd, Int.reduceSub, Int.reduceNeg, Int.reduceLE, Int.reduceLT, Int.reduceMul, if_pos, if_neg]
    rw [show c + (((fo_rk 0).filter (fun c => decide (rp μ e c ≠ -2))).length : Int) = c from Int.add_zero c]
  | succ k ih =>
    intro c hk h0 h1
    have g0 : 0 ≤ 6 - ((k + 1 : Nat) : Int) := by omega
    have g6 : 6 - ((k + 1 : Nat) : Int) < 6 := by omega
    have e1 : 6 - ((k + 1 : Nat) : Int) + 1 = 6 - (k : Int) := by omega
    rw [b_204_4 hq]
    unfold fo_rk
    generalize hm : 6 - ((k + 1 : Nat) : Int) = x at *
    have hrx := hr x g0 g6
    have ht := rp_th hr g0 g6
    by_cases a : μ 130 (6 * e + x) = 0
    · rw [List.filter_cons_of_neg (by simp; exact Decidable.not_not.mp (fun q => ht.mp q a))]
      simp (disch := omega) only [and_self, true_and, mm_ltx, mm_lex, mm_eqx, mm_wv, mm_gd, ↓reduceIte, Int.reduceAdd, Int.reduceSub, Int.reduceNeg, Int.reduceLE, Int.reduceLT, Int.reduceMul, if_pos, if_neg]
      rw [b_204_31 hq, e1]
      exact ih c (by omega) h0 (by omega)
    · rw [List.filter_cons_of_pos (by simp; exact ht.mpr a)]
      simp (disch := omega) only [and_self, true_and, mm_ltx, mm_lex, mm_eqx, mm_wv, mm_gd, ↓reduceIte, Int.reduceAdd, Int.reduceSub, Int.reduceNeg, Int.reduceLE, Int.reduceLT, Int.reduceMul, if_pos, if_neg]
      rw [b_204_31 hq, e1]
      · refine (ih (c + 1) (by omega) (by omega) (by omega)).trans ?_
        rw [List.length_cons]
        rw [show c + 1 + (((fo_rk k).filter (fun c => decide (rp μ e c ≠ -2))).length : Int) = c + (((((fo_rk k).filter (fun c => decide (rp μ e c ≠ -2))).length + 1 : Nat)) : Int) by omega]
theorem c_204 (hq : mm_P w) (he : 0 ≤ e ∧ e < 3) (hr : rt_r μ e) : am_C (d + 1) 204 [.ref 129, .int (Int32.ofInt (e))] (mm_hp w μ X n) Q ↔ Q (.inl (some (.int (Int32.ofInt (rt_many (rp μ e)))))) (mm_hp w μ X n) := by
  simp only [en_204, b_204_0 hq]
  have := c_204_4 (d := d) (Q := Q) (X := X) (n := n) hq he hr 6 0 (by omega) (by omega) (by omega)
  rw [Int.zero_add, fo_rk6] at this
  exact this
/-- the reference's leaves of a dimension are as the walk has them -/
def rt_ok (μ : mm_M) (e : Int) : Prop := fo_wf (rp μ e) ∧ rt_r μ e ∧ μ 134 e = (fo_L (rp μ e)).length ∧ ∀ j : Int, 0 ≤ j → j < (fo_L (rp μ e)).length → μ 133 (6 * e + j) = (fo_L (rp μ e)).getD j.toNat (-1)
theorem fo_Lin {p : Int → Int} (hw : fo_wf p) : (fo_L p).Nodup ∧ (∀ m, m ∈ fo_L p ↔ (0 ≤ m ∧ m < 6 ∧ p m ≠ -2) ∧ sp_fc p m = -1) ∧ (fo_L p).length ≤ 6 := by
  have ha := fo_all hw
  have h1 : (fo_L p).Nodup := List.Nodup.sublist List.filter_sublist ha.1
  have h2 : ∀ m, m ∈ fo_L p ↔ (0 ≤ m ∧ m < 6 ∧ p m ≠ -2) ∧ sp_fc p m = -1 := by
    intro m
    unfold fo_L
    rw [List.mem_filter, ha.2.1]
    simp
  exact ⟨h1, h2, fo_len 6 _ h1 (fun x hx => by have := (h2 x).mp hx; exact ⟨this.1.1, by omega⟩)⟩
theorem fo_getD_in {l : List Int} {P : Int → Prop} (h : ∀ x ∈ l, P x) {j : Nat} (hj : j < l.length) : P (l.getD j (-1)) := by
  rw [List.getD_eq_getElem?_getD, List.getElem?_eq_getElem hj]
  exact h _ (List.getElem_mem hj)
theorem c_201_2 (hq : mm_P w) (he : 0 ≤ e ∧ e < 3) (h1 : 0 ≤ m) (h2 : m < 6) (ho : rt_ok μ e) : ∀ (k i : Nat), i + k = (fo_L (rp μ e)).length → (am_E d 201 Q (2, [some (.ref 129), some (.int (Int32.ofInt (e))), some (.int (Int32.ofInt (m))), some (.int (Int32.ofInt ((i : Int))))], [], mm_hp w μ X n) ↔ Q (.inl (some (.int (Int32.ofInt (if m ∈ (fo_L (rp μ e)).drop i then (i : Int) + (((fo_L (rp μ e)).drop i).idxOf m : Int) else -1))))) (mm_hp w μ X n)) := by
  obtain ⟨o1, o2, o3, o4⟩ := ho
  have hL := fo_Lin o1
  intro k
  induction k with
  | zero =>
    intro i hi
    rw [b_201_2 hq, List.drop_of_length_le (by omega), if_neg List.not_mem_nil]
    simp (disch := omega) only [and_self, true_and, mm_ltx, mm_lex, mm_eqx, mm_wv, mm_gd, ↓reduceIte, Int.reduceAdd, Int.reduceSub, Int.reduceNeg, Int.reduceLE, Int.reduceLT, Int.reduceMul, if_pos, if_neg]
  | succ k ih =>
    intro i hi
    have hd : (fo_L (rp μ e)).drop i = (fo_L (rp μ e)).getD i (-1) :: (fo_L (rp μ e)).drop (i + 1) := by
      rw [List.drop_eq_getElem_cons (show i < _ by omega), List.getD_eq_getElem?_getD, List.getElem?_eq_getElem (show i < _ by omega)]
      rfl
    have h4 := o4 i (by omega) (by omega)
    rw [show ((i : Int)).toNat = i by omega] at h4
    have h5 := fo_getD_in (P := fun x => 0 ≤ x ∧ x < 6) (fun x hx => by have := (hL.2.1 x).mp hx; exact ⟨this.1.1, this.1.2.1⟩) (show i < (fo_L (rp μ e)).length by omega)
    rw [b_201_2 hq, hd]
    generalize (fo_L (rp μ e)).getD i (-1) = y at *
    by_cases a : y = m
    · subst a
      rw [if_pos List.mem_cons_self, List.idxOf_cons_self]
      simp (disch := omega) only [and_self, true_and, mm_ltx, mm_lex, mm_eqx, mm_wv, mm_gd, ↓reduceIte, Int.reduceAdd, Int.reduceSub, Int.reduceNeg, Int.reduceLE, Int.reduceLT, Int.reduceMul, if_pos, if_neg]
      simp
    · have hi' := ih (i + 1) (by omega)
      simp (disch := omega) only [and_self, true_and, mm_ltx, mm_lex, mm_eqx, mm_wv, mm_gd, ↓reduceIte, Int.reduceAdd, Int.reduceSub, Int.reduceNeg, Int.reduceLE, Int.reduceLT, Int.reduceMul, if_pos, if_neg]
      rw [show (i : Int) + 1 = ((i + 1 : Nat) : Int) by omega]
      refine hi'.trans ?_
      by_cases b : m ∈ (fo_L (rp μ e)).drop (i + 1)
      · rw [if_pos b, if_pos (List.mem_cons_of_mem _ b), List.idxOf_cons]
        have : (y == m) = false := by simp; exact a
        rw [this]
        simp only [cond_false]
        rw [show ((i + 1 : Nat) : Int) + ((fo_L (rp μ e)).drop (i + 1)).idxOf m = (i : Int) + ((((fo_L (rp μ e)).drop (i + 1)).idxOf m + 1 : Nat) : Int) by omega]
      · rw [if_neg b, if_neg (by intro q; rcases List.mem_cons.mp q with q | q; exact a q.symm; exact b q)]
theorem c_201 (hq : mm_P w) (he : 0 ≤ e ∧ e < 3) (h1 : 0 ≤ m) (h2 : m < 6) (ho : rt_ok μ e) : am_C (d + 1) 201 [.ref 129, .int (Int32.ofInt (e)), .int (Int32.ofInt (m))] (mm_hp w μ X n) Q ↔ Q (.inl (some (.int (Int32.ofInt (if m ∈ fo_L (rp μ e) then ((fo_L (rp μ e)).idxOf m : Int) else -1))))) (mm_hp w μ X n) := by
  simp only [en_201, b_201_0 hq]
  have := c_201_2 (d := d) (Q := Q) (X := X) (n := n) hq he h1 h2 ho (fo_L (rp μ e)).length 0 (by omega)
  rw [List.drop_zero] at this
  refine this.trans ?_
  simp
end RT
