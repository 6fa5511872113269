/-! The reference finds the leaves of a dimension: a stack of members that wait. -/
def rf_ws (v : Int → Int) : List Int → Prop
  | [] => True
  | x :: t => v t.length = x ∧ rf_ws v t
def rf_lo : Nat → List Int
  | 0 => []
  | k + 1 => rf_lo k ++ [(k : Int)]
def rf_R (p : Int → Int) (t : List Int) : List Int := t.flatMap (fun m => m :: fo_pr p 6 m)
/-- what finding leaves leaves alone -/
def rf_fr (e : Int) (μ μ' : mm_M) : Prop := (∀ b, b ≠ 133 → b ≠ 134 → b ≠ 135 → μ' b = μ b) ∧ (∀ j, j < 6 * e ∨ 6 * e + 6 ≤ j → μ' 133 j = μ 133 j) ∧ (∀ j, j ≠ e → μ' 134 j = μ 134 j)
section RL
variable {d : Nat} {Q : am_Ou → am_G → Prop} {w : mm_Z} {μ : mm_M} {X : mm_X} {n : mm_N} {e m : Int} {p : Int → Int}
theorem rf_ws_c {v v' : Int → Int} : ∀ (t : List Int), rf_ws v t → (∀ i : Int, 0 ≤ i → i < t.length → v' i = v i) → rf_ws v' t := by
  intro t
  induction t with
  | nil => intro _ _; exact trivial
  | cons x t ih =>
    intro h hv
    exact ⟨by rw [hv _ (by omega) (by rw [List.length_cons]; omega)]; exact h.1, ih h.2 (fun i h0 h1 => hv i h0 (by rw [List.length_cons]; omega))⟩
theorem rf_ws_p {t : List Int} {x : Int} (h : rf_ws (μ 135) t) : rf_ws (mm_u μ 135 t.length x 135) (x :: t) := ⟨mm_us, rf_ws_c t h (fun i _ h1 => mm_un (by omega))⟩
theorem fo_prS (hw : fo_wf p) : ∀ (f : Nat) (m : Int), 0 ≤ m → m < 6 → 5 ≤ f + fo_dp p 6 m → fo_pr p (f + 1) m = fo_pr p f m := by
  intro f
  induction f with
  | zero =>
    intro m h0 h6 h
    have : fo_ch p m = [] := by
      refine List.eq_nil_iff_forall_not_mem.mpr fun c hc => ?_
      obtain ⟨⟨c0, c6⟩, cp⟩ := fo_mem_ch.mp hc
      have h1 := fo_dp1 hw c0 c6 (by omega)
      have h2 := fo_dp5 hw c0 c6 (by omega)
      rw [cp] at h1
      omega
    unfold fo_pr
    rw [this]
    rfl
  | succ f ih =>
    intro m h0 h6 h
    have hc : ∀ c ∈ fo_ch p m, fo_pr p (f + 1) c = fo_pr p f c := by
      intro c hc
      obtain ⟨⟨c0, c6⟩, cp⟩ := fo_mem_ch.mp hc
      have h1 := fo_dp1 hw c0 c6 (by omega)
      rw [cp] at h1
      exact ih c c0 c6 (by omega)
    show (fo_ch p m).flatMap (fun c => c :: fo_pr p (f + 1) c) = (fo_ch p m).flatMap (fun c => c :: fo_pr p f c)
    rw [List.flatMap_def, List.flatMap_def, List.map_congr_left (fun c hc' => by rw [hc c hc'])]
theorem rf_R_cons (hw : fo_wf p) {t : List Int} (h0 : 0 ≤ m) (h6 : m < 6) : rf_R p (m :: t) = m :: rf_R p (fo_ch p m ++ t) := by
  unfold rf_R
  rw [List.flatMap_cons, List.flatMap_append]
  have hc : (fo_ch p m).flatMap (fun c => c :: fo_pr p 6 c) = fo_pr p 6 m := by
    show _ = (fo_ch p m).flatMap (fun c => c :: fo_pr p 5 c)
    rw [List.flatMap_def, List.flatMap_def, List.map_congr_left (fun c hc => by
      obtain ⟨⟨c0, c6⟩, cp⟩ := fo_mem_ch.mp hc
      have := (fo_dp_le (p := p) 6 c).1
      rw [fo_prS hw 5 c c0 c6 (by omega)])]
  rw [hc]
  rfl
theorem rf_R_ch (hw : fo_wf p) : rf_R p (fo_ch p (-1)) = fo_pr p 6 (-1) := by
  unfold rf_R
  show _ = (fo_ch p (-1)).flatMap (fun c => c :: fo_pr p 5 c)
  rw [List.flatMap_def, List.flatMap_def, List.map_congr_left (fun c hc => by
    obtain ⟨⟨c0, c6⟩, cp⟩ := fo_mem_ch.mp hc
    have := (fo_dp_le (p := p) 6 c).1
    rw [fo_prS hw 5 c c0 c6 (by omega)])]
theorem rf_R_len {t : List Int} : t.length ≤ (rf_R p t).length := by
  unfold rf_R
  induction t with
  | nil => exact Nat.le_refl 0
  | cons a t ih =>
    rw [List.flatMap_cons, List.length_append, List.length_cons, List.length_cons]
    omega
theorem rf_lo6 : rf_lo 6 = fo_rg := by decide
theorem rf_lo_in : ∀ (k : Nat) (x : Int), x ∈ rf_lo k ↔ 0 ≤ x ∧ x < k := by
  intro k
  induction k with
  | zero => intro x; unfold rf_lo; exact ⟨fun h => absurd h List.not_mem_nil, fun h => by omega⟩
  | succ k ih =>
    intro x
    unfold rf_lo
    rw [List.mem_append, ih, List.mem_singleton]
    omega
/-- the members below m, or the roots, are put on the stack -/
theorem c_179_36 (hq : mm_P w) (he : 0 ≤ e ∧ e < 3) : ∀ (k : Nat) (t : List Int) (μ : mm_M), k ≤ 6 → rt_r μ e → rf_ws (μ 135) t → (((rf_lo k).filter (fun c => decide (rp μ e c = -1))) ++ t).length ≤ 6 → ∀ (Q : am_Ou → am_G → Prop), (∀ μ', (∀ b, b ≠ 135 → μ' b = μ b) → rf_ws (μ' 135) (((rf_lo k).filter (fun c => decide (rp μ e c = -1))) ++ t) → am_E d 179 Q (88, [some (.ref 129), some (.int (Int32.ofInt (e))), some (.int (Int32.ofInt (0))), some (.int (Int32.ofInt (((((rf_lo k).filter (fun c => decide (rp μ e c = -1))) ++ t).length : Int)))), some (.int (Int32.ofInt (-1))), none], [], mm_hp w μ' X n)) → am_E d 179 Q (36, [some (.ref 129), some (.int (Int32.ofInt (e))), some (.int (Int32.ofInt (0))), some (.int (Int32.ofInt ((t.length : Int)))), some (.int (Int32.ofInt ((k : Int) - 1))), none], [], mm_hp w μ X n) := by
  intro k
  induction k with
  | zero =>
    intro t μ _ _ hs hl Q hQ
    have := hQ μ (fun _ _ => rfl) hs
    rw [b_179_36 hq]
    simp (disch := omega) only [and_self, true_and, mm_ltx, mm_lex, mm_eqx, mm_wv, mm_gd, ↓reduceIte, Int.reduceAdd, Int.reduceSub, Int.reduceNeg, Int.reduceLE, Int.reduceLT, Int.reduceMul, if_pos, if_neg]
    exact this
  | succ k ih =>
    intro t μ hk hr hs hl Q hQ
    have hrk := hr (k : Int) (by omega) (by omega)
    have hrm := rp_m hr (show 0 ≤ (k : Int) by omega) (by omega) (show (-1 : Int) ≠ -2 by decide)
    unfold rf_lo at hl hQ
    rw [List.filter_append, List.append_assoc] at hl hQ
    rw [b_179_36 hq, show ((k + 1 : Nat) : Int) - 1 = (k : Int) by omega]
    by_cases a : rp μ e k = -1
    · obtain ⟨a1, a2⟩ := hrm.mp a
      rw [show [(k : Int)].filter (fun c => decide (rp μ e c = -1)) = [(k : Int)] from List.filter_cons_of_pos (by simp [a])] at hl hQ
      have ht : t.length ≤ 5 := by
        rw [List.length_append, List.length_append, List.length_singleton] at hl
        omega
      have hrow : ∀ b, b ≠ 135 → mm_u μ 135 (t.length : Int) (k : Int) b = μ b := fun b hb => mm_uu hb
      have hrp : rp (mm_u μ 135 (t.length : Int) (k : Int)) e = rp μ e := by unfold rp; rw [hrow 130 (by decide), hrow 131 (by decide)]
      have hi := ih ((k : Int) :: t) (mm_u μ 135 (t.length : Int) (k : Int)) (by omega) (by intro m h0 h6; rw [hrow 130 (by decide), hrow 131 (by decide)]; exact hr m h0 h6) (rf_ws_p hs) (by rw [hrp]; exact hl) Q (fun μ' h1 h2 => by
        rw [hrp] at h2 ⊢
        exact hQ μ' (fun b hb => by rw [h1 b hb, hrow b hb]) h2)
      simp (disch := omega) only [and_self, true_and, mm_ltx, mm_lex, mm_eqx, mm_wv, mm_gd, ↓reduceIte, Int.reduceAdd, Int.reduceSub, Int.reduceNeg, Int.reduceLE, Int.reduceLT, Int.reduceMul, if_pos, if_neg]
      rw [b_179_82 hq]
      rw [List.length_cons] at hi
      rw [show (t.length : Int) + 1 = ((t.length + 1 : Nat) : Int) by omega, show (k : Int) + (-1) = (k : Int) - 1 by omega]
      exact hi
    · rw [show [(k : Int)].filter (fun c => decide (rp μ e c = -1)) = [] from List.filter_cons_of_neg (by simp [a])] at hl hQ
      have hi := ih t μ (by omega) hr hs hl Q hQ
      have fin : am_E d 179 Q (82, [some (.ref 129), some (.int (Int32.ofInt (e))), some (.int (Int32.ofInt (0))), some (.int (Int32.ofInt ((t.length : Int)))), some (.int (Int32.ofInt ((k : Int)))), none], [], mm_hp w μ X n) := by
        rw [b_179_82 hq, show (k : Int) + (-1) = (k : Int) - 1 by omega]
        exact hi
      by_cases h : μ 130 (6 * e + k) = 0
      · simp (disch := omega) only [and_self, true_and, mm_ltx, mm_lex, mm_eqx, mm_wv, mm_gd, ↓reduceIte, Int.reduceAdd, Int.reduceSub, Int.reduceNeg, Int.reduceLE, Int.reduceLT, Int.reduceMul, if_pos, if_neg]
        exact fin
      · have h' : 0 ≤ μ 131 (6 * e + k) := by
          have : ¬ μ 131 (6 * e + k) = -1 := fun q => a (hrm.mpr ⟨h, q⟩)
          omega
        simp (disch := omega) only [and_self, true_and, mm_ltx, mm_lex, mm_eqx, mm_wv, mm_gd, ↓reduceIte, Int.reduceAdd, Int.reduceSub, Int.reduceNeg, Int.reduceLE, Int.reduceLT, Int.reduceMul, if_pos, if_neg]
        exact fin
theorem c_179_132 (hq : mm_P w) (he : 0 ≤ e ∧ e < 3) (h1 : 0 ≤ m) (h2 : m < 6) {nn : Int} : ∀ (k : Nat) (t : List Int) (μ : mm_M), k ≤ 6 → rt_r μ e → rf_ws (μ 135) t → (((rf_lo k).filter (fun c => decide (rp μ e c = m))) ++ t).length ≤ 6 → ∀ (Q : am_Ou → am_G → Prop), (∀ μ', (∀ b, b ≠ 135 → μ' b = μ b) → rf_ws (μ' 135) (((rf_lo k).filter (fun c => decide (rp μ e c = m))) ++ t) → am_E d 179 Q (88, [some (.ref 129), some (.int (Int32.ofInt (e))), some (.int (Int32.ofInt (nn))), some (.int (Int32.ofInt (((((rf_lo k).filter (fun c => decide (rp μ e c = m))) ++ t).length : Int)))), some (.int (Int32.ofInt (m))), some (.int (Int32.ofInt (-1)))], [], mm_hp w μ' X n)) → am_E d 179 Q (132, [some (.ref 129), some (.int (Int32.ofInt (e))), some (.int (Int32.ofInt (nn))), some (.int (Int32.ofInt ((t.length : Int)))), some (.int (Int32.ofInt (m))), some (.int (Int32.ofInt ((k : Int) - 1)))], [], mm_hp w μ X n) := by
  intro k
  induction k with
  | zero =>
    intro t μ _ _ hs hl Q hQ
    have := hQ μ (fun _ _ => rfl) hs
    rw [b_179_132 hq]
    simp (disch := omega) only [and_self, true_and, mm_ltx, mm_lex, mm_eqx, mm_wv, mm_gd, ↓reduceIte, Int.reduceAdd, Int.reduceSub, Int.reduceNeg, Int.reduceLE, Int.reduceLT, Int.reduceMul, if_pos, if_neg]
    exact this
  | succ k ih =>
    intro t μ hk hr hs hl Q hQ
    have hrk := hr (k : Int) (by omega) (by omega)
    have hrm := rp_m hr (show 0 ≤ (k : Int) by omega) (by omega) (show m ≠ -2 by omega)
    unfold rf_lo at hl hQ
    rw [List.filter_append, List.append_assoc] at hl hQ
    rw [b_179_132 hq, show ((k + 1 : Nat) : Int) - 1 = (k : Int) by omega]
    by_cases a : rp μ e k = m
    · obtain ⟨a1, a2⟩ := hrm.mp a
      rw [show [(k : Int)].filter (fun c => decide (rp μ e c = m)) = [(k : Int)] from List.filter_cons_of_pos (by simp [a])] at hl hQ
      have ht : t.length ≤ 5 := by
        rw [List.length_append, List.length_append, List.length_singleton] at hl
        omega
      have hrow : ∀ b, b ≠ 135 → mm_u μ 135 (t.length : Int) (k : Int) b = μ b := fun b hb => mm_uu hb
      have hrp : rp (mm_u μ 135 (t.length : Int) (k : Int)) e = rp μ e := by unfold rp; rw [hrow 130 (by decide), hrow 131 (by decide)]
      have hi := ih ((k : Int) :: t) (mm_u μ 135 (t.length : Int) (k : Int)) (by omega) (by intro m h0 h6; rw [hrow 130 (by decide), hrow 131 (by decide)]; exact hr m h0 h6) (rf_ws_p hs) (by rw [hrp]; exact hl) Q (fun μ' h1 h2 => by
        rw [hrp] at h2 ⊢
        exact hQ μ' (fun b hb => by rw [h1 b hb, hrow b hb]) h2)
      simp (disch := omega) only [and_self, true_and, mm_ltx, mm_lex, mm_eqx, mm_wv, mm_gd, ↓reduceIte, Int.reduceAdd, Int.reduceSub, Int.reduceNeg, Int.reduceLE, Int.reduceLT, Int.reduceMul, if_pos, if_neg]
      rw [b_179_180 hq]
      rw [List.length_cons] at hi
      rw [show (t.length : Int) + 1 = ((t.length + 1 : Nat) : Int) by omega, show (k : Int) + (-1) = (k : Int) - 1 by omega]
      exact hi
    · rw [show [(k : Int)].filter (fun c => decide (rp μ e c = m)) = [] from List.filter_cons_of_neg (by simp [a])] at hl hQ
      have hi := ih t μ (by omega) hr hs hl Q hQ
      have fin : am_E d 179 Q (180, [some (.ref 129), some (.int (Int32.ofInt (e))), some (.int (Int32.ofInt (nn))), some (.int (Int32.ofInt ((t.length : Int)))), some (.int (Int32.ofInt (m))), some (.int (Int32.ofInt ((k : Int))))], [], mm_hp w μ X n) := by
        rw [b_179_180 hq, show (k : Int) + (-1) = (k : Int) - 1 by omega]
        exact hi
      by_cases h : μ 130 (6 * e + k) = 0
      · simp (disch := omega) only [and_self, true_and, mm_ltx, mm_lex, mm_eqx, mm_wv, mm_gd, ↓reduceIte, Int.reduceAdd, Int.reduceSub, Int.reduceNeg, Int.reduceLE, Int.reduceLT, Int.reduceMul, if_pos, if_neg]
        exact fin
      · have h' : ¬ μ 131 (6 * e + k) = m := fun q => a (hrm.mpr ⟨h, q⟩)
        simp (disch := omega) only [and_self, true_and, mm_ltx, mm_lex, mm_eqx, mm_wv, mm_gd, ↓reduceIte, Int.reduceAdd, Int.reduceSub, Int.reduceNeg, Int.reduceLE, Int.reduceLT, Int.reduceMul, if_pos, if_neg]
        exact fin
theorem rf_getD_app {A : List Int} {x : Int} {j : Nat} : (A ++ [x]).getD j (-1) = if j = A.length then x else A.getD j (-1) := by
  rw [List.getD_eq_getElem?_getD, List.getD_eq_getElem?_getD]
  by_cases h : j < A.length
  · rw [List.getElem?_append_left h, if_neg (by omega)]
  · rw [List.getElem?_append_right (by omega)]
    by_cases h2 : j = A.length
    · rw [if_pos h2, h2, Nat.sub_self]; rfl
    · rw [if_neg h2, List.getElem?_eq_none (by rw [List.length_singleton]; omega), List.getElem?_eq_none (by omega)]
theorem c_179_88 (hq : mm_P w) (he : 0 ≤ e ∧ e < 3) (hw : fo_wf p) : ∀ (N : Nat) (t A : List Int) (μ : mm_M) (x4 : Int) (e5 : Option Value), am_n2 e5 = true → (rf_R p t).length = N → rp μ e = p → rt_r μ e → rf_ws (μ 135) t → (∀ m ∈ t, 0 ≤ m ∧ m < 6) → A.length + N ≤ 6 → (∀ j : Int, 0 ≤ j → j < 6 → μ 133 (6 * e + j) = A.getD j.toNat (-1)) → ∀ (Q : am_Ou → am_G → Prop), (∀ μ', rf_fr e μ μ' → μ' 134 e = (A ++ (rf_R p t).filter (fun m => decide (sp_fc p m = -1))).length → (∀ j : Int, 0 ≤ j → j < 6 → μ' 133 (6 * e + j) = (A ++ (rf_R p t).filter (fun m => decide (sp_fc p m = -1))).getD j.toNat (-1)) → Q (.inl none) (mm_hp w (μ') X n)) → am_E (d + 2) 179 Q (88, [some (.ref 129), some (.int (Int32.ofInt (e))), some (.int (Int32.ofInt ((A.length : Int)))), some (.int (Int32.ofInt ((t.length : Int)))), some (.int (Int32.ofInt (x4))), e5], [], mm_hp w μ X n) := by
  intro N
  induction N with
  | zero =>
    intro t A μ x4 e5 h5 hN hp hr hs ht hA hm Q hQ
    have : t = [] := by
      have := rf_R_len (p := p) (t := t)
      exact List.eq_nil_of_length_eq_zero (by omega)
    subst this
    rw [show (rf_R p []) = [] from rfl, List.filter_nil, List.append_nil] at hQ
    rw [b_179_88 hq h5, List.length_nil]
    simp (disch := omega) only [and_self, true_and, mm_ltx, mm_lex, mm_eqx, mm_wv, mm_gd, ↓reduceIte, Int.reduceAdd, Int.reduceSub, Int.reduceNeg, Int.reduceLE, Int.reduceLT, Int.reduceMul, if_pos, if_neg]
    exact hQ _ ⟨fun b _ h4 _ => mm_uu h4, fun j _ => by rw [mm_uu (by decide)], fun j hj => mm_un hj⟩ mm_us (fun j j0 j6 => by rw [mm_uu (by decide)]; exact hm j j0 j6)
  | succ N ih =>
    intro t A μ x4 e5 h5 hN hp hr hs ht hA hm Q hQ
    cases t with
    | nil => exact absurd hN (by rw [show (rf_R p []) = [] from rfl]; exact fun h => by cases h)
    | cons m t =>
      obtain ⟨m0, m6⟩ := ht m List.mem_cons_self
      rw [rf_R_cons hw m0 m6] at hN hQ
      rw [List.length_cons] at hN
      have htl := rf_R_len (p := p) (t := fo_ch p m ++ t)
      rw [List.length_append] at htl
      have hb := sp_fc_b (p := p) (m := m)
      rw [b_179_88 hq h5, List.length_cons]
      have hs1 : μ 135 (t.length : Int) = m := hs.1
      have e1 : ((t.length + 1 : Nat) : Int) + (-1) = (t.length : Int) := by omega
      simp only [e1]
      rw [mm_wv (show -2147483648 ≤ (t.length : Int) by omega) (by omega), hs1]
      simp (disch := omega) only [and_self, true_and, mm_ltx, mm_lex, mm_eqx, mm_wv, mm_gd, ↓reduceIte, Int.reduceAdd, Int.reduceSub, Int.reduceNeg, Int.reduceLE, Int.reduceLT, Int.reduceMul, if_pos, if_neg]
      rw [c_194 (d := d) hq he (by omega) (by omega) hr, bk_v, hp, b_179_110 hq h5]
      -- what follows behind the leaf
      have rest : ∀ (A' : List Int) (μ1 : mm_M), (∀ b, b ≠ 133 → μ1 b = μ b) → (∀ j, j < 6 * e ∨ 6 * e + 6 ≤ j → μ1 133 j = μ 133 j) → A'.length + N ≤ 6 → (∀ j : Int, 0 ≤ j → j < 6 → μ1 133 (6 * e + j) = A'.getD j.toNat (-1)) → A' ++ (rf_R p (fo_ch p m ++ t)).filter (fun m => decide (sp_fc p m = -1)) = A ++ (m :: rf_R p (fo_ch p m ++ t)).filter (fun m => decide (sp_fc p m = -1)) → am_E (d + 2) 179 Q (129, [some (.ref 129), some (.int (Int32.ofInt (e))), some (.int (Int32.ofInt ((A'.length : Int)))), some (.int (Int32.ofInt ((t.length : Int)))), some (.int (Int32.ofInt (m))), e5], [], mm_hp w μ1 X n) := by
        intro A' μ1 g1 g2 g3 g4 g5
        have hp1 : rp μ1 e = p := by rw [← hp]; unfold rp; rw [g1 130 (by decide), g1 131 (by decide)]
        have hr1 : rt_r μ1 e := by intro m h0 h6; rw [g1 130 (by decide), g1 131 (by decide)]; exact hr m h0 h6
        have hf : (rf_lo 6).filter (fun c => decide (rp μ1 e c = m)) = fo_ch p m := by rw [hp1, rf_lo6]; rfl
        rw [b_179_129 hq h5]
        refine c_179_132 (d := d + 2) (nn := (A'.length : Int)) hq he m0 m6 6 t μ1 (Nat.le_refl 6) hr1 (by rw [g1 135 (by decide)]; exact hs.2) (by rw [hf, List.length_append]; omega) Q ?_
        rw [hf]
        intro μ' k1 k2
        have hp2 : rp μ' e = p := by rw [← hp1]; unfold rp; rw [k1 130 (by decide), k1 131 (by decide)]
        refine ih (fo_ch p m ++ t) A' μ' m (some (.int (Int32.ofInt (-1)))) rfl (by omega) hp2 (by intro m h0 h6; rw [k1 130 (by decide), k1 131 (by decide)]; exact hr1 m h0 h6) k2 ?_ g3 (by intro j j0 j6; rw [k1 133 (by decide)]; exact g4 j j0 j6) Q ?_
        · intro c hc
          rcases List.mem_append.mp hc with hc | hc
          · exact (fo_mem_ch.mp hc).1
          · exact ht c (List.mem_cons_of_mem _ hc)
        · intro μ2 l1 l2 l3
          rw [g5] at l2 l3
          refine hQ μ2 ⟨fun b b3 b4 b5 => ?_, fun j hj => ?_, fun j hj => ?_⟩ l2 l3
          · rw [l1.1 b b3 b4 b5, k1 b b5, g1 b b3]
          · rw [l1.2.1 j hj, k1 133 (by decide), g2 j hj]
          · rw [l1.2.2 j hj, k1 134 (by decide), g1 134 (by decide)]
      by_cases c : sp_fc p m = -1
      · rw [if_pos c, if_neg (by decide)]
        have hx := rest (A ++ [m]) (mm_u μ 133 (6 * e + A.length) m) (fun b hb => mm_uu hb) (fun j hj => mm_un (by omega)) (by rw [List.length_append, List.length_singleton]; omega) (by
          intro j j0 j6
          rw [rf_getD_app, mm_ux, hm j j0 j6]
          by_cases hj : j = A.length
          · rw [if_pos ⟨rfl, by omega⟩, if_pos (by omega)]
          · rw [if_neg (by omega), if_neg (by omega)]) (by
          rw [List.filter_cons_of_pos (by simp [c]), List.append_assoc]
          rfl)
        rw [List.length_append, List.length_singleton] at hx
        simp (disch := omega) only [and_self, true_and, mm_ltx, mm_lex, mm_eqx, mm_wv, mm_gd, ↓reduceIte, Int.reduceAdd, Int.reduceSub, Int.reduceNeg, Int.reduceLE, Int.reduceLT, Int.reduceMul, if_pos, if_neg]
        rw [show (A.length : Int) + 1 = ((A.length + 1 : Nat) : Int) by omega]
        exact hx
      · rw [if_neg c, if_pos rfl]
        exact rest A μ (fun _ _ => rfl) (fun _ _ => rfl) (by omega) hm (by rw [List.filter_cons_of_neg (by simp [c])])
theorem rt_ok_of {μ' : mm_M} (hw : fo_wf (rp μ e)) (hr : rt_r μ e) (h1 : rf_fr e μ μ') (h2 : μ' 134 e = (fo_L (rp μ e)).length) (h3 : ∀ j : Int, 0 ≤ j → j < 6 → μ' 133 (6 * e + j) = (fo_L (rp μ e)).getD j.toNat (-1)) : rt_ok μ' e := by
  have hp : rp μ' e = rp μ e := by unfold rp; rw [h1.1 130 (by decide) (by decide) (by decide), h1.1 131 (by decide) (by decide) (by decide)]
  have hl := (fo_Lin hw).2.2
  unfold rt_ok
  rw [hp]
  refine ⟨hw, ?_, h2, fun j j0 jl => h3 j j0 (by omega)⟩
  intro m h0 h6
  rw [h1.1 130 (by decide) (by decide) (by decide), h1.1 131 (by decide) (by decide) (by decide)]
  exact hr m h0 h6
theorem c_179 (hq : mm_P w) (he : 0 ≤ e ∧ e < 3) (hw : fo_wf (rp μ e)) (hr : rt_r μ e) {Q : am_Ou → am_G → Prop} (hQ : ∀ μ', rf_fr e μ μ' → rt_ok μ' e → rp μ' e = rp μ e → (∀ j : Int, 0 ≤ j → j < 6 → μ' 133 (6 * e + j) = (fo_L (rp μ e)).getD j.toNat (-1)) → Q (.inl none) (mm_hp w (μ') X n)) : am_C (d + 3) 179 [.ref 129, .int (Int32.ofInt (e))] (mm_hp w μ X n) Q := by
  have hall := fo_all hw
  rw [en_179 (d := d + 2), b_179_0 hq]
  have hfi : ∀ (μ0 : mm_M), (∀ b, b ≠ 133 → μ0 b = μ b) → (∀ j, j < 6 * e ∨ 6 * e + 6 ≤ j → μ0 133 j = μ 133 j) → (∀ j : Int, 0 ≤ j → j < 6 → μ0 133 (6 * e + j) = -1) → am_E (d + 2) 179 Q (36, [some (.ref 129), some (.int (Int32.ofInt (e))), some (.int (Int32.ofInt (0))), some (.int (Int32.ofInt (0))), some (.int (Int32.ofInt (5))), none], [], mm_hp w μ0 X n) := by
    intro μ0 g1 g2 g3
    have hp0 : rp μ0 e = rp μ e := by unfold rp; rw [g1 130 (by decide), g1 131 (by decide)]
    have hr0 : rt_r μ0 e := by intro m h0 h6; rw [g1 130 (by decide), g1 131 (by decide)]; exact hr m h0 h6
    have hf : (rf_lo 6).filter (fun c => decide (rp μ0 e c = -1)) ++ [] = fo_ch (rp μ e) (-1) := by rw [hp0, rf_lo6, List.append_nil]; rfl
    have hR := rf_R_ch hw
    have hlen := rf_R_len (p := rp μ e) (t := fo_ch (rp μ e) (-1))
    rw [hR] at hlen
    refine c_179_36 (d := d + 2) hq he 6 [] μ0 (Nat.le_refl 6) hr0 trivial (by rw [hf]; omega) Q ?_
    rw [hf]
    intro μ1 k1 k2
    refine c_179_88 hq he hw (fo_pr (rp μ e) 6 (-1)).length (fo_ch (rp μ e) (-1)) [] μ1 (-1) none rfl (by rw [hR]) (by rw [← hp0]; unfold rp; rw [k1 130 (by decide), k1 131 (by decide)]) (by intro m h0 h6; rw [k1 130 (by decide), k1 131 (by decide)]; exact hr0 m h0 h6) k2 (fun c hc => (fo_mem_ch.mp hc).1) (by rw [List.length_nil]; omega) (by
      intro j j0 j6
      rw [k1 133 (by decide), g3 j j0 j6]
      rfl) Q ?_
    rw [hR, List.nil_append]
    intro μ' l1 l2 l3
    have fr : rf_fr e μ μ' := by
      refine ⟨fun b b3 b4 b5 => by rw [l1.1 b b3 b4 b5, k1 b b5, g1 b b3], fun j hj => by rw [l1.2.1 j hj, k1 133 (by decide), g2 j hj], fun j hj => by rw [l1.2.2 j hj, k1 134 (by decide), g1 134 (by decide)]⟩
    exact hQ μ' fr (rt_ok_of hw hr fr l2 l3) (by unfold rp; rw [fr.1 130 (by decide) (by decide) (by decide), fr.1 131 (by decide) (by decide) (by decide)]) l3
  simp (disch := omega) only [b_179_7 hq, and_self, true_and, mm_ltx, mm_lex, mm_eqx, mm_wv, mm_gd, ↓reduceIte, Int.reduceAdd, Int.reduceSub, Int.reduceNeg, Int.reduceLE, Int.reduceLT, Int.reduceMul]
  refine hfi _ (fun b hb => ?_) (fun j hj => ?_) (fun j j0 j6 => ?_)
  · simp only [mm_uu hb]
  · simp only [mm_ux]
    repeat rw [if_neg (by omega)]
  · rcases (by omega : j = 0 ∨ j = 1 ∨ j = 2 ∨ j = 3 ∨ j = 4 ∨ j = 5) with rfl | rfl | rfl | rfl | rfl | rfl
    · simp only [mm_ux]; simp
    · simp only [mm_ux]; simp
    · simp only [mm_ux]; simp
    · simp only [mm_ux]; simp
    · simp only [mm_ux]; simp
    · simp only [mm_ux]; simp
end RL
