/-! What arranging leaves behind; grow, hang, cut. -/
def fo_L (p : Int → Int) : List Int := (fo_pr p 6 (-1)).filter (fun m => decide (sp_fc p m = -1))
def tr_arr (z : Int) (μ : mm_M) : mm_M := (fo_pr (μ (mm_tr z + 1)) 6 (-1)).foldl (tr_vis z (μ (mm_tr z + 1))) (mm_u (mm_fi μ (mm_tr z + 4) 6 (-1)) (mm_tr z) 5 0)
def sp_fr (p : Int → Int) : Int := if p 0 = -2 then 0 else if p 1 = -2 then 1 else if p 2 = -2 then 2 else if p 3 = -2 then 3 else if p 4 = -2 then 4 else 5
section T3
variable {d : Nat} {Q : am_Ou → am_G → Prop} {w : mm_Z} {μ : mm_M} {X : mm_X} {n : mm_N} {z m : Int} {p : Int → Int}
theorem mm_ux {μ : mm_M} {a b : Nat} {k z j : Int} : mm_u μ a k z b j = if b = a ∧ j = k then z else μ b j := rfl
theorem tr_fold (hL : True) : ∀ (l : List Int) (μ : mm_M), l.Nodup → (∀ m ∈ l, 0 ≤ m ∧ m < 6) →
    (∀ b, b ≠ mm_tr z → b ≠ mm_tr z + 3 → b ≠ mm_tr z + 4 → b ≠ mm_tr z + 5 → l.foldl (tr_vis z p) μ b = μ b) ∧
    (∀ k, k ≠ 5 → l.foldl (tr_vis z p) μ (mm_tr z) k = μ (mm_tr z) k) ∧
    l.foldl (tr_vis z p) μ (mm_tr z) 5 = μ (mm_tr z) 5 + (l.filter (fun m => decide (sp_fc p m = -1))).length ∧
    (∀ j, l.foldl (tr_vis z p) μ (mm_tr z + 5) j = if μ (mm_tr z) 5 ≤ j ∧ j < μ (mm_tr z) 5 + (l.filter (fun m => decide (sp_fc p m = -1))).length then (l.filter (fun m => decide (sp_fc p m = -1))).getD (j - μ (mm_tr z) 5).toNat (-1) else μ (mm_tr z + 5) j) ∧
    (∀ m, l.foldl (tr_vis z p) μ (mm_tr z + 4) m = if m ∈ l.filter (fun m => decide (sp_fc p m = -1)) then μ (mm_tr z) 5 + (l.filter (fun m => decide (sp_fc p m = -1))).idxOf m else μ (mm_tr z + 4) m) ∧
    (∀ m, l.foldl (tr_vis z p) μ (mm_tr z + 3) m = if m ∈ l then fo_dp p 6 m else μ (mm_tr z + 3) m) := by
  intro l
  induction l with
  | nil =>
    intro μ _ _
    refine ⟨fun _ _ _ _ _ => rfl, fun _ _ => rfl, by simp, fun j => ?_, fun m => by simp, fun m => by simp⟩
    rw [if_neg (by rw [List.filter_nil, List.length_nil]; omega)]
    rfl
  | cons a l ih =>
    intro μ hn hr
    obtain ⟨ha, hn⟩ := List.nodup_cons.mp hn
    obtain ⟨i1, i2, i3, i4, i5, i6⟩ := ih (tr_vis z p μ a) hn (fun m hm => hr m (List.mem_cons_of_mem _ hm))
    have ha0 := hr a List.mem_cons_self
    rw [List.foldl_cons]
    by_cases e : sp_fc p a = -1
    · have hf : (a :: l).filter (fun m => decide (sp_fc p m = -1)) = a :: l.filter (fun m => decide (sp_fc p m = -1)) := List.filter_cons_of_pos (by simp [e])
      have hv : tr_vis z p μ a = mm_u (mm_u (mm_u (mm_u μ (mm_tr z + 3) a (fo_dp p 6 a)) (mm_tr z + 4) a (μ (mm_tr z) 5)) (mm_tr z + 5) (μ (mm_tr z) 5) a) (mm_tr z) 5 (μ (mm_tr z) 5 + 1) := if_pos e
      have h5 : tr_vis z p μ a (mm_tr z) 5 = μ (mm_tr z) 5 + 1 := by rw [tr_vis5, if_pos e]
      rw [hf, List.length_cons]
      refine ⟨fun b b0 b3 b4 b5 => ?_, fun k hk => ?_, ?_, fun j => ?_, fun m => ?_, fun m => ?_⟩
      · rw [i1 b b0 b3 b4 b5, hv, mm_uu b0, mm_uu b5, mm_uu b4, mm_uu b3]
      · rw [i2 k hk, hv, mm_un hk, mm_uu (by omega), mm_uu (by omega), mm_uu (by omega)]
      · rw [i3, h5]; omega
      · rw [i4 j, h5]
        have hb : tr_vis z p μ a (mm_tr z + 5) j = if j = μ (mm_tr z) 5 then a else μ (mm_tr z + 5) j := by
          rw [hv, mm_uu (by omega), mm_ux, mm_uu (by omega), mm_uu (by omega)]
          simp
        rw [hb]
        by_cases c1 : μ (mm_tr z) 5 + 1 ≤ j ∧ j < μ (mm_tr z) 5 + 1 + (l.filter (fun m => decide (sp_fc p m = -1))).length
        · rw [if_pos c1, if_pos (by omega), show (j - μ (mm_tr z) 5).toNat = (j - (μ (mm_tr z) 5 + 1)).toNat + 1 by omega, List.getD_cons_succ]
        · rw [if_neg c1]
          by_cases c2 : j = μ (mm_tr z) 5
          · rw [if_pos c2, if_pos (by omega), c2, Int.sub_self]
            rfl
          · rw [if_neg c2, if_neg (by omega)]
      · rw [i5 m, h5]
        have hb : tr_vis z p μ a (mm_tr z + 4) m = if m = a then μ (mm_tr z) 5 else μ (mm_tr z + 4) m := by
          rw [hv, mm_uu (by omega), mm_uu (by omega), mm_ux, mm_uu (by omega)]
          simp
        rw [hb]
        by_cases c1 : m = a
        · subst c1
          have hx : m ∉ l.filter (fun m => decide (sp_fc p m = -1)) := fun q => ha (List.mem_filter.mp q).1
          rw [if_neg hx, if_pos rfl, if_pos List.mem_cons_self, List.idxOf_cons_self]
          simp
        · by_cases c2 : m ∈ l.filter (fun m => decide (sp_fc p m = -1))
          · rw [if_pos c2, if_pos (List.mem_cons_of_mem _ c2), List.idxOf_cons]
            have : (a == m) = false := by simp; omega
            rw [this]
            simp
            omega
          · rw [if_neg c2, if_neg c1, if_neg (by intro q; rcases List.mem_cons.mp q with q | q; exact c1 q; exact c2 q)]
      · rw [i6 m]
        have hb : tr_vis z p μ a (mm_tr z + 3) m = if m = a then fo_dp p 6 a else μ (mm_tr z + 3) m := by
          rw [hv, mm_uu (by omega), mm_uu (by omega), mm_uu (by omega), mm_ux]
          simp
        rw [hb]
        by_cases c2 : m ∈ l
        · rw [if_pos c2, if_pos (List.mem_cons_of_mem _ c2)]
        · rw [if_neg c2]
          by_cases c1 : m = a
          · rw [if_pos c1, if_pos (by rw [c1]; exact List.mem_cons_self), c1]
          · rw [if_neg c1, if_neg (by intro q; rcases List.mem_cons.mp q with q | q; exact c1 q; exact c2 q)]
    · have hf : (a :: l).filter (fun m => decide (sp_fc p m = -1)) = l.filter (fun m => decide (sp_fc p m = -1)) := List.filter_cons_of_neg (by simp [e])
      have hv : tr_vis z p μ a = mm_u μ (mm_tr z + 3) a (fo_dp p 6 a) := if_neg e
      have h5 : tr_vis z p μ a (mm_tr z) 5 = μ (mm_tr z) 5 := by rw [tr_vis5, if_neg e]
      rw [hf]
      refine ⟨fun b b0 b3 b4 b5 => ?_, fun k hk => ?_, ?_, fun j => ?_, fun m => ?_, fun m => ?_⟩
      · rw [i1 b b0 b3 b4 b5, hv, mm_uu b3]
      · rw [i2 k hk, hv, mm_uu (by omega)]
      · rw [i3, h5]
      · rw [i4 j, h5, hv, mm_uu (show mm_tr z + 5 ≠ mm_tr z + 3 by omega)]
      · rw [i5 m, h5, hv, mm_uu (show mm_tr z + 4 ≠ mm_tr z + 3 by omega)]
      · rw [i6 m]
        have hb : tr_vis z p μ a (mm_tr z + 3) m = if m = a then fo_dp p 6 a else μ (mm_tr z + 3) m := by
          rw [hv, mm_ux]
          simp
        rw [hb]
        by_cases c2 : m ∈ l
        · rw [if_pos c2, if_pos (List.mem_cons_of_mem _ c2)]
        · rw [if_neg c2]
          by_cases c1 : m = a
          · rw [if_pos c1, if_pos (by rw [c1]; exact List.mem_cons_self), c1]
          · rw [if_neg c1, if_neg (by intro q; rcases List.mem_cons.mp q with q | q; exact c1 q; exact c2 q)]
theorem mm_fi_ne {a b : Nat} {N v : Int} (h : b ≠ a) : mm_fi μ a N v b = μ b := funext fun j => if_neg fun q => h q.1
theorem mm_fi_at {a : Nat} {N v j : Int} (h0 : 0 ≤ j) (h : j < N) : mm_fi μ a N v a j = v := if_pos ⟨rfl, h0, h⟩
/-- a tree stands arranged -/
def tr_ok (μ : mm_M) (z : Int) : Prop := fo_wf (μ (mm_tr z + 1)) ∧ μ (mm_tr z) 5 = (fo_L (μ (mm_tr z + 1))).length ∧ (∀ j : Int, 0 ≤ j → j < (fo_L (μ (mm_tr z + 1))).length → μ (mm_tr z + 5) j = (fo_L (μ (mm_tr z + 1))).getD j.toNat (-1)) ∧ (∀ m, 0 ≤ m → m < 6 → μ (mm_tr z + 4) m = if m ∈ fo_L (μ (mm_tr z + 1)) then ((fo_L (μ (mm_tr z + 1))).idxOf m : Int) else -1) ∧ (∀ m, 0 ≤ m → m < 6 → μ (mm_tr z + 1) m ≠ -2 → μ (mm_tr z + 3) m = fo_dp (μ (mm_tr z + 1)) 6 m)
theorem tr_arr_row {b : Nat} (hw : fo_wf (μ (mm_tr z + 1))) (b0 : b ≠ mm_tr z) (b3 : b ≠ mm_tr z + 3) (b4 : b ≠ mm_tr z + 4) (b5 : b ≠ mm_tr z + 5) : tr_arr z μ b = μ b := by
  have ha := fo_all hw
  unfold tr_arr
  rw [(tr_fold trivial _ _ ha.1 (fun m hm => by have := (ha.2.1 m).mp hm; omega)).1 b b0 b3 b4 b5, mm_uu b0, mm_fi_ne b4]
theorem tr_arr_fld {k : Int} (hw : fo_wf (μ (mm_tr z + 1))) (hk : k ≠ 5) : tr_arr z μ (mm_tr z) k = μ (mm_tr z) k := by
  have ha := fo_all hw
  unfold tr_arr
  rw [(tr_fold trivial _ _ ha.1 (fun m hm => by have := (ha.2.1 m).mp hm; omega)).2.1 k hk, mm_un hk, mm_fi_ne (by omega)]
theorem tr_arr_ok (hw : fo_wf (μ (mm_tr z + 1))) : tr_ok (tr_arr z μ) z := by
  have ha := fo_all hw
  have hr := tr_arr_row (z := z) (μ := μ) hw (b := mm_tr z + 1) (by omega) (by omega) (by omega) (by omega)
  unfold tr_ok
  rw [hr]
  obtain ⟨i1, i2, i3, i4, i5, i6⟩ := tr_fold (z := z) (p := μ (mm_tr z + 1)) trivial (fo_pr (μ (mm_tr z + 1)) 6 (-1)) (mm_u (mm_fi μ (mm_tr z + 4) 6 (-1)) (mm_tr z) 5 0) ha.1 (fun m hm => by have := (ha.2.1 m).mp hm; omega)
  rw [mm_us] at i3 i4 i5
  refine ⟨hw, ?_, fun j j0 jl => ?_, fun m m0 m6 => ?_, fun m m0 m6 hm => ?_⟩
  · unfold tr_arr
    rw [i3, Int.zero_add]
    rfl
  · unfold tr_arr
    rw [i4 j, if_pos ⟨j0, by rw [Int.zero_add]; exact jl⟩, Int.sub_zero]
    rfl
  · unfold tr_arr
    rw [i5 m, mm_uu (by omega), mm_fi_at m0 m6]
    show (if m ∈ fo_L (μ (mm_tr z + 1)) then (0 : Int) + ((fo_L (μ (mm_tr z + 1))).idxOf m : Int) else -1) = _
    rw [Int.zero_add]
  · unfold tr_arr
    rw [i6 m, if_pos ((ha.2.1 m).mpr ⟨m0, m6, hm⟩)]
theorem c_143 (hq : mm_T w z) (hw : fo_wf (μ (mm_tr z + 1))) : am_C (d + 9) 143 [.ref (mm_tr z)] (mm_hp w μ X n) Q ↔ Q (.inl none) (mm_hp w (tr_arr z μ) X n) := by
  have ha := fo_all hw
  have hb := mm_tr_b (z := z)
  have hm : ∀ μ' : mm_M, μ' = mm_u (mm_fi μ (mm_tr z + 4) 6 (-1)) (mm_tr z) 5 0 → μ' (mm_tr z + 1) = μ (mm_tr z + 1) ∧ μ' (mm_tr z) 5 = 0 := by
    rintro _ rfl
    exact ⟨by rw [mm_uu (by omega), mm_fi_ne (by omega)], mm_us⟩
  obtain ⟨e1, e2⟩ := hm _ rfl
  have h := c_155 (d := d) (X := X) (n := n) hq hw 6 (Nat.le_refl 6) (-1) (mm_u (mm_fi μ (mm_tr z + 4) 6 (-1)) (mm_tr z) 5 0) (by decide) (by decide) e1 (by omega) (by rw [e2]; have := ha.2.2; omega) (fun c _ _ hc => by rw [fo_dp0 (by omega)]; rfl)
  simp only [en_143 (d := d + 8), b_143_0 hq, c_311 (d := d + 7) (a := mm_tr z + 4) (N := 6) (by omega) (hq 4 (by decide)) mm_tr_sh.2.2.2.2.1 (by decide), bk_n, Nat.reduceAdd, b_143_8 hq]
  rw [show (.int (Int32.ofInt 0) : Value) = .int (Int32.ofInt (6 - ((6 : Nat) : Int))) from rfl]
  have h' := h (am_bk 143 16 [some (.ref (mm_tr z))] [] (am_E (d + 8) 143 Q) Q)
  refine Iff.trans h' ?_
  rw [bk_n, b_143_19 hq]
  rfl
theorem sp_fr_b : 0 ≤ sp_fr p ∧ sp_fr p ≤ 5 := by
  unfold sp_fr
  repeat (split; · decide)
  decide
theorem c_146 (hq : mm_T w z) {b r : Int} (hr : mm_tp μ z) (hw : fo_wf (mm_u μ (mm_tr z + 1) (sp_fr (μ (mm_tr z + 1))) b (mm_tr z + 1))) : am_C (d + 10) 146 [.ref (mm_tr z), .int (Int32.ofInt (b)), .int (Int32.ofInt (r))] (mm_hp w μ X n) Q ↔ Q (.inl (some (.int (Int32.ofInt (sp_fr (μ (mm_tr z + 1))))))) (mm_hp w (tr_arr z (mm_u (mm_u (mm_u μ (mm_tr z + 1) (sp_fr (μ (mm_tr z + 1))) b) (mm_tr z + 2) (sp_fr (μ (mm_tr z + 1))) r) (mm_tr z) 6 (μ (mm_tr z) 6 + 1))) X n) := by
  have q0 := hr 0 (by decide) (by decide)
  have q1 := hr 1 (by decide) (by decide)
  have q2 := hr 2 (by decide) (by decide)
  have q3 := hr 3 (by decide) (by decide)
  have q4 := hr 4 (by decide) (by decide)
  have q5 := hr 5 (by decide) (by decide)
  have key : ∀ m, sp_fr (μ (mm_tr z + 1)) = m → (am_E (d + 9) 146 Q (24, [some (.ref (mm_tr z)), some (.int (Int32.ofInt (b))), some (.int (Int32.ofInt (r))), some (.int (Int32.ofInt (m)))], [], mm_hp w μ X n) ↔ Q (.inl (some (.int (Int32.ofInt (sp_fr (μ (mm_tr z + 1))))))) (mm_hp w (tr_arr z (mm_u (mm_u (mm_u μ (mm_tr z + 1) (sp_fr (μ (mm_tr z + 1))) b) (mm_tr z + 2) (sp_fr (μ (mm_tr z + 1))) r) (mm_tr z) 6 (μ (mm_tr z) 6 + 1))) X n)) := by
    intro m hm
    rw [hm] at hw ⊢
    have hb := sp_fr_b (p := μ (mm_tr z + 1))
    have hw2 : fo_wf ((mm_u (mm_u (mm_u μ (mm_tr z + 1) m b) (mm_tr z + 2) m r) (mm_tr z) 6 (μ (mm_tr z) 6 + 1)) (mm_tr z + 1)) := by
      rw [mm_uu (by omega), mm_uu (by omega)]
      exact hw
    simp (disch := omega) only [b_146_24 hq, and_self, true_and, mm_ltx, mm_lex, mm_eqx, mm_wv, mm_gd, ↓reduceIte, Int.reduceAdd, Int.reduceSub, Int.reduceNeg, Int.reduceLE, Int.reduceLT, Int.reduceMul]
    rw [mm_uu (show mm_tr z ≠ mm_tr z + 2 by omega), mm_uu (show mm_tr z ≠ mm_tr z + 1 by omega), c_143 (d := d) hq hw2, bk_n, b_146_52 hq]
  simp only [en_146 (d := d + 9), b_146_0 hq]
  by_cases a0 : μ (mm_tr z + 1) 0 = -2
  · simp (disch := omega) only [b_146_2 hq, and_self, true_and, mm_ltx, mm_lex, mm_eqx, mm_wv, mm_gd, ↓reduceIte, Int.reduceAdd, Int.reduceSub, Int.reduceNeg, Int.reduceLE, Int.reduceLT, Int.reduceMul, if_pos, if_neg]
    exact key 0 (by unfold sp_fr; rw [if_pos a0])
  · by_cases a1 : μ (mm_tr z + 1) 1 = -2
    · simp (disch := omega) only [b_146_2 hq, and_self, true_and, mm_ltx, mm_lex, mm_eqx, mm_wv, mm_gd, ↓reduceIte, Int.reduceAdd, Int.reduceSub, Int.reduceNeg, Int.reduceLE, Int.reduceLT, Int.reduceMul, if_pos, if_neg]
      exact key 1 (by unfold sp_fr; rw [if_neg a0, if_pos a1])
    · by_cases a2 : μ (mm_tr z + 1) 2 = -2
      · simp (disch := omega) only [b_146_2 hq, and_self, true_and, mm_ltx, mm_lex, mm_eqx, mm_wv, mm_gd, ↓reduceIte, Int.reduceAdd, Int.reduceSub, Int.reduceNeg, Int.reduceLE, Int.reduceLT, Int.reduceMul, if_pos, if_neg]
        exact key 2 (by unfold sp_fr; rw [if_neg a0, if_neg a1, if_pos a2])
      · by_cases a3 : μ (mm_tr z + 1) 3 = -2
        · simp (disch := omega) only [b_146_2 hq, and_self, true_and, mm_ltx, mm_lex, mm_eqx, mm_wv, mm_gd, ↓reduceIte, Int.reduceAdd, Int.reduceSub, Int.reduceNeg, Int.reduceLE, Int.reduceLT, Int.reduceMul, if_pos, if_neg]
          exact key 3 (by unfold sp_fr; rw [if_neg a0, if_neg a1, if_neg a2, if_pos a3])
        · by_cases a4 : μ (mm_tr z + 1) 4 = -2
          · simp (disch := omega) only [b_146_2 hq, and_self, true_and, mm_ltx, mm_lex, mm_eqx, mm_wv, mm_gd, ↓reduceIte, Int.reduceAdd, Int.reduceSub, Int.reduceNeg, Int.reduceLE, Int.reduceLT, Int.reduceMul, if_pos, if_neg]
            exact key 4 (by unfold sp_fr; rw [if_neg a0, if_neg a1, if_neg a2, if_neg a3, if_pos a4])
          · simp (disch := omega) only [b_146_2 hq, and_self, true_and, mm_ltx, mm_lex, mm_eqx, mm_wv, mm_gd, ↓reduceIte, Int.reduceAdd, Int.reduceSub, Int.reduceNeg, Int.reduceLE, Int.reduceLT, Int.reduceMul, if_pos, if_neg]
            exact key 5 (by unfold sp_fr; rw [if_neg a0, if_neg a1, if_neg a2, if_neg a3, if_neg a4])
theorem c_147 (hq : mm_T w z) {b : Int} (h1 : 0 ≤ m) (h2 : m < 6) (hw : fo_wf (mm_u μ (mm_tr z + 1) m b (mm_tr z + 1))) : am_C (d + 10) 147 [.ref (mm_tr z), .int (Int32.ofInt (m)), .int (Int32.ofInt (b))] (mm_hp w μ X n) Q ↔ Q (.inl none) (mm_hp w (tr_arr z (mm_u μ (mm_tr z + 1) m b)) X n) := by
  simp only [en_147 (d := d + 9), b_147_0 hq]
  simp (disch := omega) only [and_self, true_and, mm_ltx, mm_lex, mm_eqx, mm_wv, mm_gd, ↓reduceIte, Int.reduceAdd, Int.reduceSub, Int.reduceNeg, Int.reduceLE, Int.reduceLT, Int.reduceMul]
  rw [c_143 (d := d) hq hw, bk_n, b_147_11 hq]
theorem c_144 (hq : mm_T w z) (h1 : 0 ≤ m) (h2 : m < 6) (hw : fo_wf (mm_u μ (mm_tr z + 1) m (-2) (mm_tr z + 1))) : am_C (d + 10) 144 [.ref (mm_tr z), .int (Int32.ofInt (m))] (mm_hp w μ X n) Q ↔ Q (.inl none) (mm_hp w (tr_arr z (mm_u (mm_u μ (mm_tr z + 1) m (-2)) (mm_tr z) 6 (μ (mm_tr z) 6 - 1))) X n) := by
  have hw2 : fo_wf ((mm_u (mm_u μ (mm_tr z + 1) m (-2)) (mm_tr z) 6 (μ (mm_tr z) 6 - 1)) (mm_tr z + 1)) := by
    rw [mm_uu (by omega)]
    exact hw
  simp only [en_144 (d := d + 9), b_144_0 hq]
  simp (disch := omega) only [and_self, true_and, mm_ltx, mm_lex, mm_eqx, mm_wv, mm_gd, ↓reduceIte, Int.reduceAdd, Int.reduceSub, Int.reduceNeg, Int.reduceLE, Int.reduceLT, Int.reduceMul]
  rw [mm_uu (show mm_tr z ≠ mm_tr z + 1 by omega), c_143 (d := d) hq hw2, bk_n, b_144_22 hq]
end T3
