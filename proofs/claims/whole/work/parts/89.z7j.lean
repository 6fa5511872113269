/-! Spread: the class's cells; nothing rules them; all is summed. -/
def clf (μ : mm_M) (e p : Int) : Int := if μ (mm_tr e) 5 ≤ p then -1 else μ (mm_tr e + 5) p
/-- the class's leaf cell at the places of v, or -1 -/
def cla (μ : mm_M) (v : Int) : Int := if clf μ 0 (cpart v 0) < 0 then -1 else if clf μ 1 (cpart v 1) < 0 then -1 else if clf μ 2 (cpart v 2) < 0 then -1 else 36 * clf μ 0 (cpart v 0) + 6 * clf μ 1 (cpart v 1) + clf μ 2 (cpart v 2)
def cin (μ : mm_M) (c : Int) : Bool := cin1 μ c 0 && cin1 μ c 1 && cin1 μ c 2
def cgt (μ : mm_M) (v : Int) : List Int := if 0 ≤ cla μ v ∧ cin μ (cla μ v) = true then [cla μ v] else []
def cgs (μ : mm_M) : List Int := ls (cgt μ) 216 0
def cgm (μ : mm_M) (l : List Int) : mm_M := mm_u (mm_pl μ 126 l) 125 5 l.length
section SC
variable {d : Nat} {Q : am_Ou → am_G → Prop} {w : mm_Z} {μ : mm_M} {X : mm_X} {n : mm_N} {e m c v i : Int} {l : List Int}
theorem clf_b (ht : ct_a μ) (he : 0 ≤ e ∧ e < 3) (h : 0 ≤ m ∧ m < 6) : -1 ≤ clf μ e m ∧ clf μ e m ≤ 5 := by
  have := ((ht e he.1 he.2).1 m h.1 h.2).2.2.2.2
  unfold clf
  split <;> omega
theorem cla_b (ht : ct_a μ) (h0 : 0 ≤ v) (h1 : v < 216) : -1 ≤ cla μ v ∧ cla μ v < 216 := by
  have a := clf_b ht (e := 0) (by decide) (cpart_b (e := 0) h0 h1)
  have b := clf_b ht (e := 1) (by decide) (cpart_b (e := 1) h0 h1)
  have c := clf_b ht (e := 2) (by decide) (cpart_b (e := 2) h0 h1)
  unfold cla
  (repeat' split) <;> omega
theorem c_139 (hq : mm_P w) (ht : ct_a μ) (h0 : 0 ≤ v) (h1 : v < 216) : am_C (d + 2) 139 [.ref 125, .int (Int32.ofInt (v))] (mm_hp w μ X n) Q ↔ Q (.inl (some (.int (Int32.ofInt (cla μ v))))) (mm_hp w μ X n) := by
  have a := clf_b ht (e := 0) (by decide) (cpart_b (e := 0) h0 h1)
  have b := clf_b ht (e := 1) (by decide) (cpart_b (e := 1) h0 h1)
  have c := clf_b ht (e := 2) (by decide) (cpart_b (e := 2) h0 h1)
  have step : ∀ (k x2 : Int) (e4 : Option Value), am_n2 e4 = true → 0 ≤ k → k < 3 → (am_E (d + 1) 139 Q (4, [some (.ref 125), some (.int (Int32.ofInt (v))), some (.int (Int32.ofInt (x2))), some (.int (Int32.ofInt (k))), e4], [], mm_hp w μ X n) ↔ if clf μ k (cpart v k) < 0 then Q (.inl (some (.int (Int32.ofInt (-1))))) (mm_hp w μ X n) else am_E (d + 1) 139 Q (4, [some (.ref 125), some (.int (Int32.ofInt (v))), some (.int (Int32.ofInt (x2 + clf μ k (cpart v k) * mm_span k))), some (.int (Int32.ofInt (k + 1))), some (.int (Int32.ofInt (clf μ k (cpart v k))))], [], mm_hp w μ X n)) := by
    intro k x2 e4 he k0 k3
    have hp := cpart_b (e := k) h0 h1
    have hb := clf_b ht (e := k) ⟨k0, k3⟩ hp
    rw [b_139_4 hq he, if_neg (by rw [mm_lex, mm_wv (by omega) (by omega), mm_wv (by omega) (by omega)]; omega), c_131 (d := d) hq h0 h1 ⟨k0, k3⟩, bk_v, b_139_23 hq he]
    simp (disch := omega) only [and_self, true_and, mm_ltx, mm_lex, mm_eqx, mm_wv, mm_gd, ↓reduceIte, Int.reduceAdd, Int.reduceSub, Int.reduceNeg, Int.reduceLE, Int.reduceLT, Int.reduceMul, Int.reduceEq]
    rw [c_153 (d := d) (mm_PT (e := k) hq) hp.1 (by omega) (ht k k0 k3), bk_v, b_139_26 hq he]
    have ec : (if μ (mm_tr k) 5 ≤ cpart v k then -1 else μ (mm_tr k + 5) (cpart v k)) = clf μ k (cpart v k) := rfl
    rw [ec]
    by_cases q : clf μ k (cpart v k) < 0
    · rw [if_neg (by rw [mm_lex, mm_wv (by omega) (by omega), mm_wv (by omega) (by omega)]; omega), if_pos q]
    · rw [if_pos (by rw [mm_lex, mm_wv (by omega) (by omega), mm_wv (by omega) (by omega)]; omega), if_neg q]
      simp (disch := omega) only [and_self, true_and, mm_ltx, mm_lex, mm_eqx, mm_wv, mm_gd, ↓reduceIte, Int.reduceAdd, Int.reduceSub, Int.reduceNeg, Int.reduceLE, Int.reduceLT, Int.reduceMul, Int.reduceEq]
  rw [en_139 (d := d + 1), b_139_0 hq, step 0 0 none rfl (by decide) (by decide)]
  unfold cla
  by_cases q0 : clf μ 0 (cpart v 0) < 0
  · rw [if_pos q0, if_pos q0]
  · rw [if_neg q0, if_neg q0, step (0 + 1) _ _ rfl (by decide) (by decide)]
    rw [show (0 : Int) + 1 = 1 from rfl]
    by_cases q1 : clf μ 1 (cpart v 1) < 0
    · rw [if_pos q1, if_pos q1]
    · rw [if_neg q1, if_neg q1, step (1 + 1) _ _ rfl (by decide) (by decide)]
      rw [show (1 : Int) + 1 = 2 from rfl]
      by_cases q2 : clf μ 2 (cpart v 2) < 0
      · rw [if_pos q2, if_pos q2]
      · rw [if_neg q2, if_neg q2, b_139_4 hq rfl, if_pos (by decide), show mm_span 0 = 36 from rfl, show mm_span 1 = 6 from rfl, show mm_span 2 = 1 from rfl, show 0 + clf μ 0 (cpart v 0) * 36 + clf μ 1 (cpart v 1) * 6 + clf μ 2 (cpart v 2) * 1 = 36 * clf μ 0 (cpart v 0) + 6 * clf μ 1 (cpart v 1) + clf μ 2 (cpart v 2) by omega]
theorem cgm_o {a : Nat} (h : a ≠ 125 ∧ a ≠ 126) : cgm μ l a = μ a := by
  unfold cgm
  rw [mm_uu h.1, pl_o h.2]
theorem cgm_ct (ht : ct_a μ) : ct_a (cgm μ l) := fun e e0 e1 => by
  have hr := mm_tr_r ⟨e0, e1⟩
  have := ht e e0 e1
  unfold mm_tw at this ⊢
  rw [cgm_o (by omega), cgm_o (by omega), cgm_o (by omega), cgm_o (by omega), cgm_o (by omega), cgm_o (by omega)]
  exact this
theorem cla_cg : cla (cgm μ l) v = cla μ v := by
  have h : ∀ e p, 0 ≤ e ∧ e < 3 → clf (cgm μ l) e p = clf μ e p := fun e p he => by
    have hr := mm_tr_r he
    unfold clf
    rw [cgm_o (by omega), cgm_o (by omega)]
  unfold cla
  rw [h 0 _ (by decide), h 1 _ (by decide), h 2 _ (by decide)]
theorem cin_c {μ' : mm_M} (h : ∀ a, 35 ≤ a → a ≤ 52 → μ' a = μ a) (h8 : μ' 128 = μ 128) : cin μ' c = cin μ c := by
  have := mm_tr_v
  unfold cin cin1
  rw [h8, h (mm_tr 0 + 1) (by omega) (by omega), h (mm_tr 1 + 1) (by omega) (by omega), h (mm_tr 2 + 1) (by omega) (by omega)]
theorem cgt_l : (cgt μ v).length ≤ 1 := by
  unfold cgt
  split
  · exact Nat.le_refl 1
  · exact Nat.zero_le 1
theorem cgm_s : mm_u (mm_u (cgm μ l) 126 (l.length) v) 125 5 ((l.length : Int) + 1) = cgm μ (l ++ [v]) := by
  unfold cgm
  rw [← pl_s, List.length_append, List.length_singleton]
  funext x j
  rw [mm_ux, mm_ux, mm_ux, mm_ux, mm_ux]
  by_cases a : x = 125 ∧ j = 5
  · rw [if_pos a, if_pos a]
    omega
  · rw [if_neg a, if_neg a, if_neg a]
theorem c_136 (hq : mm_P w) (ht : ct_a μ) (hc : cc_r μ) : am_C (d + 4) 136 [.ref 125, .ref 128] (mm_hp w μ X n) Q ↔ Q (.inl none) (mm_hp w (cgm μ (cgs μ)) X n) := by
  have key : ∀ (k : Nat) (i : Int) (l : List Int) (e3 : Option Value), am_n2 e3 = true → 0 ≤ i → i + k = 216 → (l.length : Int) ≤ i → (am_E (d + 3) 136 Q (7, [some (.ref 125), some (.ref 128), some (.int (Int32.ofInt (i))), e3], [], mm_hp w (cgm μ l) X n) ↔ Q (.inl none) (mm_hp w (cgm μ (l ++ ls (cgt μ) k i)) X n)) := by
    intro k
    induction k with
    | zero =>
      intro i l e3 he i0 i1 hl
      rw [b_136_7 hq he, if_pos (by rw [mm_lex, mm_wv (by omega) (by omega), mm_wv (by omega) (by omega)]; omega)]
      unfold ls
      rw [List.append_nil]
    | succ k ih =>
      intro i l e3 he i0 i1 hl
      have ht' := cgm_ct (l := l) ht
      have hb := cla_b ht i0 (show i < 216 by omega)
      have hend : ∀ l' : List Int, l' = l ++ cgt μ i → (am_E (d + 3) 136 Q (56, [some (.ref 125), some (.ref 128), some (.int (Int32.ofInt (i))), some (.int (Int32.ofInt (cla μ i)))], [], mm_hp w (cgm μ l') X n) ↔ Q (.inl none) (mm_hp w (cgm μ (l ++ ls (cgt μ) (k + 1) i)) X n)) := by
        rintro l' rfl
        have := cgt_l (μ := μ) (v := i)
        rw [b_136_56 hq, ih (i + 1) _ _ rfl (by omega) (by omega) (by rw [List.length_append]; omega)]
        rw [show ls (cgt μ) (k + 1) i = cgt μ i ++ ls (cgt μ) k (i + 1) from rfl, List.append_assoc]
      rw [b_136_7 hq he, if_neg (by rw [mm_lex, mm_wv (by omega) (by omega), mm_wv (by omega) (by omega)]; omega), c_139 (d := d + 1) hq ht' i0 (by omega), cla_cg, bk_v, b_136_19 hq he]
      by_cases p : cla μ i < 0
      · rw [if_pos (by rw [mm_ltx, mm_wv (by omega) (by omega), mm_wv (by omega) (by omega)]; omega)]
        exact hend l (by unfold cgt; rw [if_neg (by omega), List.append_nil])
      · rw [if_neg (by rw [mm_ltx, mm_wv (by omega) (by omega), mm_wv (by omega) (by omega)]; omega), c_130 (d := d + 1) hq ht' (by rw [cgm_o (by decide)]; exact hc) (by omega) (by omega), bk_v, b_136_33 hq]
        have ein : (cin1 (cgm μ l) (cla μ i) 0 && cin1 (cgm μ l) (cla μ i) 1 && cin1 (cgm μ l) (cla μ i) 2) = cin μ (cla μ i) := cin_c (fun a a0 a1 => cgm_o (by omega)) (cgm_o (by decide))
        rw [ein]
        by_cases q : cin μ (cla μ i) = true
        · have e5 : cgm μ l 125 5 = l.length := mm_us
          rw [if_pos q, if_neg (by decide), mm_uu (show (125 : Nat) ≠ 126 by decide), e5]
          simp (disch := omega) only [and_self, true_and, mm_ltx, mm_lex, mm_eqx, mm_wv, mm_gd, ↓reduceIte, Int.reduceAdd, Int.reduceSub, Int.reduceNeg, Int.reduceLE, Int.reduceLT, Int.reduceMul, Int.reduceEq]
          rw [cgm_s]
          exact hend _ (by unfold cgt; rw [if_pos ⟨by omega, q⟩])
        · rw [if_neg q, if_pos (by decide)]
          exact hend l (by unfold cgt; rw [if_neg (fun z => q z.2), List.append_nil])
  rw [en_136 (d := d + 3), b_136_0 hq]
  have := key 216 0 [] none rfl (by decide) (by decide) (by decide)
  have e0 : cgm μ [] = mm_u μ 125 5 0 := by unfold cgm; rw [pl_nil]; rfl
  rw [e0] at this
  exact this
/-- no rule of the class reaches a cell within the cursor -/
def cpl1 (μ : mm_M) (c : Int) : Bool := !(cin μ c && decide (0 ≤ (cbest μ c (μ 53 1).toNat).1))
theorem cbest_i : ∀ k : Nat, -1 ≤ (cbest μ c k).1 ∧ (cbest μ c k).1 < k ∨ (k = 0 ∧ (cbest μ c k).1 = -1) := by
  intro k
  induction k with
  | zero => exact Or.inr ⟨rfl, rfl⟩
  | succ k ih =>
    refine Or.inl ?_
    unfold cbest
    split
    · exact ⟨by show (-1 : Int) ≤ (k : Int); omega, by show (k : Int) < ((k + 1 : Nat) : Int); omega⟩
    · rcases ih with ih | ih <;> omega
theorem c_137 (hq : mm_P w) (ht : ct_a μ) (hr : cr_r μ) (hc : cc_r μ) : am_C (d + 5) 137 [.ref 125, .ref 128] (mm_hp w μ X n) Q ↔ Q (.inl (some (.int (Int32.ofInt (if bl (cpl1 μ) 216 0 = true then 0 else 1))))) (mm_hp w μ X n) := by
  have key : ∀ (k : Nat) (i : Int), 0 ≤ i → i + k = 216 → (am_E (d + 4) 137 Q (2, [some (.ref 125), some (.ref 128), some (.int (Int32.ofInt (i)))], [], mm_hp w μ X n) ↔ Q (.inl (some (.int (Int32.ofInt (if bl (cpl1 μ) k i = true then 0 else 1))))) (mm_hp w μ X n)) := by
    intro k
    induction k with
    | zero =>
      intro i i0 i1
      rw [b_137_2 hq, if_pos (by rw [mm_lex, mm_wv (by omega) (by omega), mm_wv (by omega) (by omega)]; omega)]
      rfl
    | succ k ih =>
      intro i i0 i1
      have hcb := cbest_i (μ := μ) (c := i) (μ 53 1).toNat
      have h53 := hr.1
      have ein : (cin1 μ i 0 && cin1 μ i 1 && cin1 μ i 2) = cin μ i := rfl
      rw [b_137_2 hq, if_neg (by rw [mm_lex, mm_wv (by omega) (by omega), mm_wv (by omega) (by omega)]; omega), c_130 (d := d + 2) hq ht hc i0 (by omega), ein, bk_v, b_137_18 hq]
      have hno : cpl1 μ i = true → (am_E (d + 4) 137 Q (38, [some (.ref 125), some (.ref 128), some (.int (Int32.ofInt (i)))], [], mm_hp w μ X n) ↔ Q (.inl (some (.int (Int32.ofInt (if bl (cpl1 μ) (k + 1) i = true then 0 else 1))))) (mm_hp w μ X n)) := fun h => by
        rw [b_137_38 hq, ih (i + 1) (by omega) (by omega)]
        rw [show bl (cpl1 μ) (k + 1) i = (cpl1 μ i && bl (cpl1 μ) k (i + 1)) from rfl, h, Bool.true_and]
      by_cases p : cin μ i = true
      · rw [if_pos p, if_neg (by decide), c_120 (d := d + 1) hq ht hr i0 (by omega), bk_v, b_137_33 hq]
        by_cases q : (cbest μ i (μ 53 1).toNat).1 < 0
        · rw [if_pos (by rw [mm_ltx, mm_wv (by omega) (by omega), mm_wv (by omega) (by omega)]; omega)]
          exact hno (by unfold cpl1; rw [p, decide_eq_false (by omega)]; rfl)
        · rw [if_neg (by rw [mm_ltx, mm_wv (by omega) (by omega), mm_wv (by omega) (by omega)]; omega)]
          rw [show bl (cpl1 μ) (k + 1) i = (cpl1 μ i && bl (cpl1 μ) k (i + 1)) from rfl]
          have : cpl1 μ i = false := by unfold cpl1; rw [p, decide_eq_true (by omega)]; rfl
          rw [this, Bool.false_and, if_neg (by decide)]
      · rw [if_neg p, if_pos (by decide)]
        exact hno (by unfold cpl1; rw [Bool.eq_false_iff.mpr p]; rfl)
  rw [en_137 (d := d + 4), b_137_0 hq]
  exact key 216 0 (by decide) (by decide)
end SC
