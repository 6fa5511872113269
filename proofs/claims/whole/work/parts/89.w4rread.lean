/-! The reference's reader: its state stays in bounds. Pure. -/
def rd_p1 (q : rd_Q) : Nat := if q.1 = 1 ∨ q.1 = 2 ∨ q.1 = 3 then 1 else 0
def rd_p2 (q : rd_Q) : Nat := if q.1 = 2 then 1 else 0
/-- behind k signs -/
def rd_RI (k : Nat) (σ : rd_T) : Prop := rd_bt σ.2.1 ∧ (∀ x, x ∈ σ.2.1 → rd_xb σ.2.2.2.1.1 x) ∧ σ.2.1.length ≤ 1 + k ∧ σ.2.2.2.1.1 + σ.2.2.1.length + rd_p1 σ.1 ≤ k ∧ σ.2.2.2.2.1 + rd_p2 σ.1 ≤ k ∧ (∀ o, o ∈ σ.2.2.1 → 2 ≤ o ∧ o ≤ 5)
section RI
variable {C C' : rd_C} {S S' : rd_S} {a b c o e z R base least : Int} {L : List rd_X} {l : List Int} {x : rd_X} {q : rd_Q} {k : Nat} {σ σ' : rd_T}
theorem rd_unit_b : (rd_unit q C S).1 ≤ C.1 + rd_p1 q ∧ C.1 ≤ (rd_unit q C S).1 := by
  unfold rd_unit rd_p1
  by_cases g1 : q.1 = 1
  · rw [if_pos g1, if_pos (Or.inl g1)]
    exact ⟨Nat.le_refl _, Nat.le_succ _⟩
  · rw [if_neg g1]
    by_cases g3 : q.1 = 3
    · rw [if_pos g3, if_pos (Or.inr (Or.inr g3))]
      exact ⟨Nat.le_refl _, Nat.le_succ _⟩
    · rw [if_neg g3]
      exact ⟨Nat.le_add_right _ _, Nat.le_refl _⟩
theorem rd_bt_ne (h : rd_bt L) : ∃ x X, L = x :: X := by
  cases L with
  | nil => exact absurd h (fun z => z)
  | cons x X => exact ⟨x, X, rfl⟩
theorem rd_ends_t : ∀ (L : List rd_X) (l : List Int) (C : rd_C), rd_bt L → ∃ x X, (rd_ends L l C).1 = x :: X ∧ x.1 ≠ 3 ∧ x.1 = rd_enc L ∧ rd_bt (x :: X) ∧ (∀ y, y ∈ x :: X → y ∈ L) ∧ (x :: X).length ≤ L.length ∧ C.1 ≤ (rd_ends L l C).2.2.1 ∧ (rd_ends L l C).2.2.1 + (rd_ends L l C).2.1.length = C.1 + l.length ∧ ∀ o, o ∈ (rd_ends L l C).2.1 → o ∈ l := by
  intro L
  induction L with
  | nil => intro l C h; exact absurd h (fun z => z)
  | cons x L ih =>
    intro l C h
    unfold rd_ends rd_enc
    by_cases g : x.1 = 3
    · rw [if_pos g, if_pos g]
      have hne : L ≠ [] := fun z => by have := h.1 z; omega
      have hp := rd_pour_b (least := 1) (base := x.2.2.1) l C
      obtain ⟨y, Y, i1, i2, i3, i4, i5, i6, i7, i8, i9⟩ := ih (rd_pour 1 x.2.2.1 l C).1 (rd_pb (rd_pa (rd_pour 1 x.2.2.1 l C).2 x.2.2.2.1 (rd_pour 1 x.2.2.1 l C).2.1) x.2.2.2.2 (rd_pour 1 x.2.2.1 l C).2.1) (h.2 hne)
      have e1 : (rd_pb (rd_pa (rd_pour 1 x.2.2.1 l C).2 x.2.2.2.1 (rd_pour 1 x.2.2.1 l C).2.1) x.2.2.2.2 (rd_pour 1 x.2.2.1 l C).2.1).1 = (rd_pour 1 x.2.2.1 l C).2.1 := rfl
      rw [e1] at i7 i8
      exact ⟨y, Y, i1, i2, i3, i4, fun z hz => List.mem_cons_of_mem _ (i5 z hz), by rw [List.length_cons (as := L)]; omega, by omega, by omega, fun o ho => hp.2.2 o (i9 o ho)⟩
    · rw [if_neg g, if_neg g]
      exact ⟨x, L, rfl, g, rfl, h, fun _ hy => hy, Nat.le_refl _, Nat.le_refl _, rfl, fun _ ho => ho⟩
theorem rd_clo_b (h : rd_bt L) : C.1 ≤ (rd_clo L l C).2.1 ∧ (rd_clo L l C).2.1 + (rd_clo L l C).1.length = C.1 + l.length ∧ ∀ o, o ∈ (rd_clo L l C).1 → o ∈ l := by
  obtain ⟨x, X, -, -, -, -, -, -, i7, i8, i9⟩ := rd_ends_t L l C h
  have hp := rd_pour_b (least := 1) (base := (rd_top (rd_ends L l C).1).2.2.1) (rd_ends L l C).2.1 (rd_ends L l C).2.2
  unfold rd_clo
  exact ⟨by omega, by omega, fun o ho => i9 o (hp.2.2 o ho)⟩
theorem rd_RI_fol (hb : rd_bt L) (hx : ∀ x, x ∈ L → rd_xb C.1 x) (hl : L.length ≤ 1 + k) (hc : C.1 + l.length ≤ k) (hS : S.1 ≤ k) (ho : ∀ o, o ∈ l → 2 ≤ o ∧ o ≤ 5) (hk : k ≤ 40) (h : rd_fol L l C S c = some σ') : rd_RI (k + 1) σ' := by
  obtain ⟨x, X, rfl⟩ := rd_bt_ne hb
  have hx0 := hx x List.mem_cons_self
  unfold rd_fol at h
  by_cases g1 : rd_op c
  · rw [rd_if1 g1] at h
    have hp := rd_pour_b (least := rd_rk (rd_opc c)) (base := (rd_top (x :: X)).2.2.1) l C
    cases h
    refine ⟨hb, fun y hy => rd_xb_m (hx y hy) hp.1, Nat.le_succ_of_le hl, ?_, Nat.le_succ_of_le hS, fun o h => ?_⟩
    · show _ + (_ :: (rd_pour (rd_rk (rd_opc c)) (rd_top (x :: X)).2.2.1 l C).1).length + 0 ≤ k + 1
      rw [List.length_cons]
      show (rd_pour (rd_rk (rd_opc c)) (rd_top (x :: X)).2.2.1 l C).2.1 + _ + 0 ≤ k + 1
      omega
    · rcases List.mem_cons.mp h with rfl | h
      · exact rd_opc_b
      · exact ho o (hp.2.2 o h)
  · rw [rd_if0 g1] at h
    by_cases g2 : c = 63 ∧ (rd_top (x :: X)).2.1 < 3
    · rw [rd_if1 g2] at h
      have hp := rd_pour_b (least := 1) (base := (rd_top (x :: X)).2.2.1) l C
      have ht : x.2.1 < 3 := g2.2
      cases h
      refine ⟨⟨fun z => (by cases z), fun _ => hb⟩, fun y hy => ?_, ?_, ?_, Nat.le_succ_of_le hS, fun o h => ho o (hp.2.2 o h)⟩
      · rcases List.mem_cons.mp hy with rfl | hy
        · refine ⟨⟨show (0 : Int) ≤ 2 by decide, show (2 : Int) ≤ 3 by decide⟩, ?_, ?_, fun z => absurd z (show ¬ (2 : Int) = 3 by decide), fun _ => ?_⟩
          · show 0 ≤ x.2.1 + 1 ∧ x.2.1 + 1 ≤ 3
            have := hx0.2.1; omega
          · show 0 ≤ ((rd_pour 1 (rd_top (x :: X)).2.2.1 l C).1.length : Int) ∧ ((rd_pour 1 (rd_top (x :: X)).2.2.1 l C).1.length : Int) ≤ 100
            omega
          · show 0 ≤ ((rd_pour 1 (rd_top (x :: X)).2.2.1 l C).2.1 : Int) ∧ ((rd_pour 1 (rd_top (x :: X)).2.2.1 l C).2.1 : Int) < (((rd_pour 1 (rd_top (x :: X)).2.2.1 l C).2.1 + 1 : Nat) : Int)
            omega
        · exact rd_xb_m (hx y hy) (Nat.le_succ_of_le hp.1)
      · show (_ :: x :: X).length ≤ 1 + (k + 1)
        rw [List.length_cons]; omega
      · show (rd_pour 1 (rd_top (x :: X)).2.2.1 l C).2.1 + 1 + (rd_pour 1 (rd_top (x :: X)).2.2.1 l C).1.length + 0 ≤ k + 1
        omega
    · rw [rd_if0 g2] at h
      obtain ⟨y, Y, i1, i2, i3, i4, i5, i6, i7, i8, i9⟩ := rd_ends_t (x :: X) l C hb
      have hcl := rd_clo_b (l := l) (C := C) hb
      by_cases g3 : c = 58 ∧ rd_enc (x :: X) = 2
      · rw [rd_if1 g3, i1] at h
        have hy0 := hx y (i5 y List.mem_cons_self)
        have hy2 : y.1 = 2 := by rw [i3]; exact g3.2
        cases h
        have e1 : (rd_pa (rd_emit (rd_clo (x :: X) l C).2 7 0 0) (rd_top (y :: Y)).2.2.2.1 ((rd_clo (x :: X) l C).2.1 + 1)).1 = (rd_clo (x :: X) l C).2.1 + 1 := rfl
        refine ⟨⟨fun z => ?_, fun z => ?_⟩, fun v hv => ?_, ?_, ?_, Nat.le_succ_of_le hS, fun o h => ho o (hcl.2.2 o h)⟩
        · have := i4.1 z; omega
        · exact i4.2 z
        · show rd_xb (rd_pa (rd_emit (rd_clo (x :: X) l C).2 7 0 0) (rd_top (y :: Y)).2.2.2.1 ((rd_clo (x :: X) l C).2.1 + 1)).1 v
          rw [e1]
          rcases List.mem_cons.mp hv with rfl | hv
          · have ho5 := hy0.2.2.2.2 hy2
            refine ⟨⟨show (0 : Int) ≤ 3 by decide, show (3 : Int) ≤ 3 by decide⟩, hy0.2.1, hy0.2.2.1, fun _ => ⟨?_, ?_⟩, fun z => absurd z (show ¬ (3 : Int) = 2 by decide)⟩
            · show 0 ≤ ((rd_clo (x :: X) l C).2.1 : Int) ∧ ((rd_clo (x :: X) l C).2.1 : Int) < (((rd_clo (x :: X) l C).2.1 + 1 : Nat) : Int)
              omega
            · show 0 ≤ y.2.2.2.1 ∧ y.2.2.2.1 < (((rd_clo (x :: X) l C).2.1 + 1 : Nat) : Int)
              omega
          · exact rd_xb_m (hx v (i5 v (List.mem_cons_of_mem _ hv))) (by omega)
        · show (_ :: Y).length ≤ 1 + (k + 1)
          rw [List.length_cons] at i6 ⊢; omega
        · show (rd_clo (x :: X) l C).2.1 + 1 + (rd_clo (x :: X) l C).1.length + 0 ≤ k + 1
          omega
      · rw [rd_if0 g3] at h
        by_cases g4 : c = 41 ∧ rd_enc (x :: X) = 1
        · rw [rd_if1 g4, i1] at h
          cases h
          have hY : Y ≠ [] := fun z => by have := i4.1 z; omega
          refine ⟨i4.2 hY, fun v hv => rd_xb_m (hx v (i5 v (List.mem_cons_of_mem _ hv))) hcl.1, ?_, ?_, Nat.le_succ_of_le hS, fun o h => ho o (hcl.2.2 o h)⟩
          · show Y.length ≤ 1 + (k + 1)
            rw [List.length_cons] at i6; omega
          · show (rd_clo (x :: X) l C).2.1 + (rd_clo (x :: X) l C).1.length + 0 ≤ k + 1
            omega
        · rw [rd_if0 g4] at h
          cases h
/-- a sign more -/
theorem rd_RI_s (hI : rd_RI k σ) (hk : k ≤ 40) (h : rd_step σ c = some σ') : rd_RI (k + 1) σ' := by
  obtain ⟨⟨r, nn, ww, fr, pd⟩, L, l, C, S⟩ := σ
  obtain ⟨h1, h2, h3, h4, h5, h6⟩ := hI
  dsimp only at h1 h2 h3 h4 h5 h6
  rw [rd_stepq] at h
  by_cases r0 : r = 0
  · rw [if_pos r0] at h
    have e1 : rd_p1 (r, nn, ww, fr, pd) = 0 := by unfold rd_p1; rw [if_neg (by show ¬ (r = 1 ∨ r = 2 ∨ r = 3); omega)]
    have e2 : rd_p2 (r, nn, ww, fr, pd) = 0 := by unfold rd_p2; rw [if_neg (by show ¬ r = 2; omega)]
    rw [e1] at h4
    rw [e2] at h5
    unfold rd_beg at h
    by_cases g1 : rd_dg c
    · rw [rd_if1 g1] at h
      cases h
      exact ⟨h1, h2, Nat.le_succ_of_le h3, by show C.1 + l.length + 1 ≤ k + 1; omega, by show S.1 + 0 ≤ k + 1; omega, h6⟩
    · rw [rd_if0 g1] at h
      by_cases g2 : rd_lt c
      · rw [rd_if1 g2] at h
        cases h
        exact ⟨h1, h2, Nat.le_succ_of_le h3, by show C.1 + l.length + 1 ≤ k + 1; omega, by show S.1 + 1 ≤ k + 1; omega, h6⟩
      · rw [rd_if0 g2] at h
        by_cases g3 : c = 40 ∧ (rd_top L).2.1 < 3
        · rw [rd_if1 g3] at h
          obtain ⟨x, X, rfl⟩ := rd_bt_ne h1
          have hx0 := h2 x List.mem_cons_self
          have ht : x.2.1 < 3 := g3.2
          cases h
          refine ⟨⟨fun z => (by cases z), fun _ => h1⟩, fun y hy => ?_, ?_, by show C.1 + l.length + 0 ≤ k + 1; omega, by show S.1 + 0 ≤ k + 1; omega, h6⟩
          · rcases List.mem_cons.mp hy with rfl | hy
            · refine ⟨⟨show (0 : Int) ≤ 1 by decide, show (1 : Int) ≤ 3 by decide⟩, ?_, ?_, fun z => absurd z (show ¬ (1 : Int) = 3 by decide), fun z => absurd z (show ¬ (1 : Int) = 2 by decide)⟩
              · show 0 ≤ x.2.1 + 1 ∧ x.2.1 + 1 ≤ 3
                have := hx0.2.1; omega
              · show 0 ≤ (l.length : Int) ∧ (l.length : Int) ≤ 100
                omega
            · exact h2 y hy
          · show (_ :: x :: X).length ≤ 1 + (k + 1)
            rw [List.length_cons]; omega
        · rw [rd_if0 g3] at h
          cases h
  · rw [if_neg r0] at h
    by_cases r2 : r = 2
    · rw [if_pos r2] at h
      have e1 : rd_p1 (r, nn, ww, fr, pd) = 1 := by unfold rd_p1; rw [if_pos (by show (r = 1 ∨ r = 2 ∨ r = 3); omega)]
      have e2 : rd_p2 (r, nn, ww, fr, pd) = 1 := by unfold rd_p2; rw [if_pos (by show r = 2; omega)]
      rw [e1] at h4
      rw [e2] at h5
      unfold rd_shf at h
      by_cases g1 : rd_way c < 0
      · rw [rd_if1 g1] at h; cases h
      · rw [rd_if0 g1] at h
        by_cases g2 : c = 36
        · rw [rd_if1 g2] at h
          cases h
          exact ⟨h1, fun y hy => rd_xb_m (h2 y hy) (Nat.le_succ _), Nat.le_succ_of_le h3, by show C.1 + 1 + l.length + 0 ≤ k + 1; omega, by show S.1 + 1 + 0 ≤ k + 1; omega, h6⟩
        · rw [rd_if0 g2] at h
          cases h
          exact ⟨h1, h2, Nat.le_succ_of_le h3, by show C.1 + l.length + 1 ≤ k + 1; omega, by show S.1 + 1 + 0 ≤ k + 1; omega, h6⟩
    · rw [if_neg r2] at h
      have e2 : rd_p2 (r, nn, ww, fr, pd) = 0 := by unfold rd_p2; rw [if_neg (by show ¬ r = 2; omega)]
      rw [e2] at h5
      by_cases g1 : r = 1 ∧ rd_dg c
      · rw [rd_if1 g1] at h
        have e1 : rd_p1 (r, nn, ww, fr, pd) = 1 := by unfold rd_p1; rw [if_pos (by show (r = 1 ∨ r = 2 ∨ r = 3); omega)]
        rw [e1] at h4
        split at h
        · cases h
          exact ⟨h1, h2, Nat.le_succ_of_le h3, by show C.1 + l.length + 1 ≤ k + 1; omega, by show S.1 + 0 ≤ k + 1; omega, h6⟩
        · cases h
      · rw [rd_if0 g1] at h
        by_cases g2 : r = 3 ∧ rd_lt c
        · rw [rd_if1 g2] at h
          have e1 : rd_p1 (r, nn, ww, fr, pd) = 1 := by unfold rd_p1; rw [if_pos (by show (r = 1 ∨ r = 2 ∨ r = 3); omega)]
          rw [e1] at h4
          cases h
          exact ⟨h1, h2, Nat.le_succ_of_le h3, by show C.1 + l.length + 1 ≤ k + 1; omega, by show S.1 + 1 ≤ k + 1; omega, h6⟩
        · rw [rd_if0 g2] at h
          have hu := rd_unit_b (q := (r, nn, ww, fr, pd)) (C := C) (S := S)
          exact rd_RI_fol h1 (fun y hy => rd_xb_m (h2 y hy) hu.2) h3 (by omega) (by omega) h6 hk h
end RI
