/-! The machine follows the descent. Pure. -/
section RG
variable {T : Nat → Int} {N p : Nat} {σ : rd_T} {q : rd_Q} {x : rd_X} {X : List rd_X} {l : List Int} {C : rd_C} {S : rd_S} {c o e k base fr : Int} {E : Option rd_E}
theorem rd_R_lt (h : p < N) : rd_R T N σ p = (rd_step σ (T p)).elim (none, (p : Int)) fun σ' => rd_R T N σ' (p + 1) := by
  unfold rd_R
  obtain ⟨f, hf⟩ : ∃ f, N - p = f + 1 := ⟨N - p - 1, by omega⟩
  rw [hf, show N - (p + 1) = f by omega]
  rfl
theorem rd_R_ge (h : N ≤ p) : rd_R T N σ p = rd_fin N σ := by
  unfold rd_R
  rw [show N - p = 0 by omega]
  rfl
theorem rd_ch1 (h : p < N) : rd_ch T N p = T p := if_pos h
theorem rd_ch0 (h : N ≤ p) : rd_ch T N p = 32 := if_neg (by omega)
theorem rd_pour0 (h : (l.length : Int) ≤ base) : rd_pour k base l C = (l, C) := by
  cases l with
  | nil => rfl
  | cons o l =>
    unfold rd_pour
    rw [List.length_cons] at h
    rw [if_neg (fun q => by omega)]
theorem rd_pourk (h : rd_rk o < k) : rd_pour k base (o :: l) C = (o :: l, C) := by
  unfold rd_pour
  rw [if_neg (fun q => by omega)]
theorem rd_pourc (h : base < l.length + 1) (h2 : k ≤ rd_rk o) : rd_pour k base (o :: l) C = rd_pour k base l (rd_emit C o 0 0) := by
  conv => lhs; unfold rd_pour
  rw [if_pos ⟨h, h2⟩]
theorem rd_rk_b : 1 ≤ rd_rk o ∧ rd_rk o ≤ 2 := by unfold rd_rk; split <;> decide
theorem rd_stepq {r n w pd : Int} : rd_step ((r, n, w, fr, pd), X, l, C, S) c = if r = 0 then rd_beg X l C S c else if r = 2 then rd_shf (r, n, w, fr, pd) X l C S c else rd_if (r = 1 ∧ rd_dg c) (if n + 1 ≤ 5 then some (rd_num1 (10 * w + c - 48) (n + 1), X, l, C, S) else none) (rd_if (r = 3 ∧ rd_lt c) (some ((2, 0, 0, fr, c - 120), X, l, C, S)) (rd_fol X l (rd_unit (r, n, w, fr, pd) C S) S c)) := rfl
theorem rd_step4 : rd_step (rd_q4, X, l, C, S) c = rd_fol X l C S c := by
  rw [show rd_q4 = (4, 0, 0, 0, 0) from rfl, rd_stepq, if_neg (show ¬ (4 : Int) = 0 by decide), if_neg (show ¬ (4 : Int) = 2 by decide), rd_if0 (fun h => absurd h.1 (show ¬ (4 : Int) = 1 by decide)), rd_if0 (fun h => absurd h.1 (show ¬ (4 : Int) = 3 by decide))]
  rfl
theorem rd_step0 : rd_step (rd_q0, X, l, C, S) c = rd_beg X l C S c := by
  rw [show rd_q0 = (0, 0, 0, 0, 0) from rfl, rd_stepq, if_pos (show (0 : Int) = 0 from rfl)]
theorem rd_fol0 (h : ¬ rd_op c) (h1 : c ≠ 63) (h2 : ¬ (c = 58 ∧ rd_enc X = 2)) (h3 : ¬ (c = 41 ∧ rd_enc X = 1)) : rd_fol X l C S c = none := by
  unfold rd_fol
  rw [rd_if0 h, rd_if0 (fun z => h1 z.1), rd_if0 h2, rd_if0 h3]
theorem rd_fin4 : rd_fin N (rd_q4, X, l, C, S) = if rd_enc X ≠ 0 then (none, (N : Int)) else (some ((rd_clo X l C).2, S), -1) := by
  unfold rd_fin
  by_cases h : rd_enc X ≠ 0
  · rw [if_pos (Or.inr (Or.inr h)), if_pos h]
  · rw [if_neg (fun z => by rcases z with z | z | z; exact absurd z (show ¬ (4 : Int) = 0 by decide); exact absurd z (show ¬ (4 : Int) = 2 by decide); exact h z), if_neg h]
    rfl
theorem rd_fin0 : rd_fin N (rd_q0, X, l, C, S) = (none, (N : Int)) := if_pos (Or.inl rfl)
theorem rd_enc1 {a b j t : Int} : rd_enc ((1, a, b, j, t) :: X) = 1 := rfl
theorem rd_enc2 {a b j t : Int} : rd_enc ((2, a, b, j, t) :: X) = 2 := rfl
theorem rd_enc0 {a b j t : Int} : rd_enc ((0, a, b, j, t) :: X) = 0 := rfl
theorem rd_done (hq : q.1 = 1 ∨ q.1 = 3) (h : p < N → rd_step (q, X, l, C, S) (T p) = rd_fol X l (rd_unit q C S) S (T p)) : rd_R T N (q, X, l, C, S) p = rd_R T N (rd_q4, X, l, rd_unit q C S, S) p := by
  by_cases hp : p < N
  · rw [rd_R_lt hp, rd_R_lt hp, h hp, rd_step4]
  · rw [rd_R_ge (by omega), rd_R_ge (by omega), rd_fin4]
    unfold rd_fin
    by_cases h : rd_enc X ≠ 0
    · rw [if_pos (Or.inr (Or.inr h)), if_pos h]
    · rw [if_neg (fun z => by rcases z with z | z | z; (have z : q.1 = 0 := z; omega); (have z : q.1 = 2 := z; omega); exact h z), if_neg h]
theorem rd_num_le : ∀ (k : Nat) (w : Int) (p : Nat), p ≤ N → p ≤ (rd_num T N k w p).2 ∧ (rd_num T N k w p).2 ≤ N := by
  intro k
  induction k with
  | zero => intro w p h; exact ⟨Nat.le_refl _, h⟩
  | succ k ih =>
    intro w p h
    unfold rd_num
    by_cases g : rd_dg (rd_ch T N p)
    · rw [rd_if1 g]
      have : p < N := by
        by_cases hp : p < N
        · exact hp
        · rw [rd_ch0 (by omega)] at g; unfold rd_dg at g; omega
      have := ih (w * 10 + (rd_ch T N p - 48)) (p + 1) (by omega)
      exact ⟨by omega, this.2⟩
    · rw [rd_if0 g]; exact ⟨Nat.le_refl _, h⟩
theorem rd_numR : ∀ (k : Nat) (w : Int) (p : Nat), k ≤ 4 → rd_R T N (rd_num1 w (5 - (k : Int)), X, l, C, S) p = rd_R T N (rd_q4, X, l, rd_emit C 0 (rd_num T N k w p).1 0, S) (rd_num T N k w p).2 := by
  intro k
  induction k with
  | zero =>
    intro w p _
    refine rd_done (q := rd_num1 w (5 - ((0 : Nat) : Int))) (Or.inl rfl) fun hp => ?_
    rw [rd_num1, rd_stepq, if_neg (show ¬ (1 : Int) = 0 by decide), if_neg (show ¬ (1 : Int) = 2 by decide)]
    by_cases g : rd_dg (T p)
    · rw [rd_if1 ⟨rfl, g⟩, if_neg (show ¬ (5 - ((0 : Nat) : Int)) + 1 ≤ 5 by decide), rd_fol0]
      · unfold rd_op; unfold rd_dg at g; omega
      · unfold rd_dg at g; omega
      · unfold rd_dg at g; omega
      · unfold rd_dg at g; omega
    · rw [rd_if0 (fun z => g z.2), rd_if0 (fun z => absurd z.1 (show ¬ (1 : Int) = 3 by decide))]
  | succ k ih =>
    intro w p hk
    by_cases g : rd_dg (rd_ch T N p)
    · have hp : p < N := by
        by_cases hp : p < N
        · exact hp
        · rw [rd_ch0 (by omega)] at g; unfold rd_dg at g; omega
      unfold rd_num
      rw [rd_if1 g, ← ih _ _ (by omega), rd_R_lt hp]
      rw [rd_ch1 hp] at g ⊢
      rw [rd_num1, rd_stepq, if_neg (show ¬ (1 : Int) = 0 by decide), if_neg (show ¬ (1 : Int) = 2 by decide), rd_if1 ⟨rfl, g⟩, if_pos (show (5 - ((k + 1 : Nat) : Int)) + 1 ≤ 5 by omega)]
      show rd_R T N (rd_num1 (10 * w + T p - 48) ((5 - ((k + 1 : Nat) : Int)) + 1), X, l, C, S) (p + 1) = _
      rw [show 10 * w + T p - 48 = w * 10 + (T p - 48) by omega, show (5 - ((k + 1 : Nat) : Int)) + 1 = 5 - (k : Int) by omega]
    · unfold rd_num
      rw [rd_if0 g]
      refine rd_done (q := rd_num1 w (5 - ((k + 1 : Nat) : Int))) (Or.inl rfl) fun hp => ?_
      rw [rd_ch1 hp] at g
      rw [rd_num1, rd_stepq, if_neg (show ¬ (1 : Int) = 0 by decide), if_neg (show ¬ (1 : Int) = 2 by decide), rd_if0 (fun z => g z.2), rd_if0 (fun z => absurd z.1 (show ¬ (1 : Int) = 3 by decide))]
theorem rd_way_9 : rd_way c = 9 ↔ c = 36 := by
  unfold rd_way
  constructor
  · intro h
    split at h
    · omega
    · split at h
      · omega
      · split at h
        · omega
        · split at h
          · assumption
          · split at h <;> omega
  · rintro rfl; rfl
theorem rd_refR : ∀ (k p : Nat) (S : rd_S), p < N → N ≤ p + k → ((rd_ref T N k p S).1 = true → rd_R T N ((2, 0, 0, fr, rd_ch T N p - 120), X, l, C, S) (p + 1) = rd_R T N (rd_q4, X, l, rd_emit C 1 fr ((rd_ref T N k p S).2.2.1 - fr), (rd_ref T N k p S).2.2) (rd_ref T N k p S).2.1 ∧ p ≤ (rd_ref T N k p S).2.1 ∧ (rd_ref T N k p S).2.1 ≤ N) ∧ ((rd_ref T N k p S).1 = false → rd_R T N ((2, 0, 0, fr, rd_ch T N p - 120), X, l, C, S) (p + 1) = (none, ((rd_ref T N k p S).2.1 : Int))) := by
  intro k
  induction k with
  | zero => intro p S h1 h2; omega
  | succ k ih =>
    intro p S h1 h2
    have hst : ∀ c, rd_step ((2, 0, 0, fr, rd_ch T N p - 120), X, l, C, S) c = rd_shf (2, 0, 0, fr, rd_ch T N p - 120) X l C S c := fun c => by
      rw [rd_stepq, if_neg (show ¬ (2 : Int) = 0 by decide), if_pos (show (2 : Int) = 2 from rfl)]
    unfold rd_ref
    by_cases a : rd_way (rd_ch T N (p + 1)) < 0
    · rw [rd_if1 a]
      refine ⟨fun z => Bool.noConfusion z, fun _ => ?_⟩
      by_cases hp : p + 1 < N
      · rw [rd_ch1 hp] at a
        rw [rd_R_lt hp, hst]
        unfold rd_shf
        rw [rd_if1 a]
        rfl
      · rw [rd_R_ge (by omega)]
        unfold rd_fin
        rw [if_pos (Or.inr (Or.inl rfl)), show N = p + 1 by omega]
    · have hp : p + 1 < N := by
        by_cases hp : p + 1 < N
        · exact hp
        · rw [rd_ch0 (by omega)] at a; exact absurd (by decide) a
      rw [rd_if0 a]
      have e1 : rd_ch T N (p + 1) = T (p + 1) := rd_ch1 hp
      rw [e1] at a ⊢
      rw [rd_R_lt hp, hst]
      unfold rd_shf
      rw [rd_if0 a]
      by_cases b : T (p + 1) = 36
      · rw [rd_if1 b, rd_if0 (fun z => z.1 (rd_way_9.mpr b))]
        exact ⟨fun _ => ⟨rfl, by show p ≤ p + 2; omega, by show p + 2 ≤ N; omega⟩, fun z => Bool.noConfusion z⟩
      · rw [rd_if0 b]
        by_cases g : rd_lt (rd_ch T N (p + 2))
        · rw [rd_if1 ⟨fun z => b (rd_way_9.mp z), g⟩]
          have hp2 : p + 2 < N := by
            by_cases hp : p + 2 < N
            · exact hp
            · rw [rd_ch0 (by omega)] at g; unfold rd_lt at g; omega
          have hI := ih (p + 2) (rd_push S (rd_ch T N p - 120, rd_way (T (p + 1)))) hp2 (by omega)
          have e2 : rd_R T N ((3, 0, 0, fr, 0), X, l, C, rd_push S (rd_ch T N p - 120, rd_way (T (p + 1)))) (p + 2) = rd_R T N ((2, 0, 0, fr, rd_ch T N (p + 2) - 120), X, l, C, rd_push S (rd_ch T N p - 120, rd_way (T (p + 1)))) (p + 2 + 1) := by
            rw [rd_R_lt hp2]
            rw [rd_ch1 hp2] at g ⊢
            rw [rd_stepq, if_neg (show ¬ (3 : Int) = 0 by decide), if_neg (show ¬ (3 : Int) = 2 by decide), rd_if0 (fun z => absurd z.1 (show ¬ (3 : Int) = 1 by decide)), rd_if1 ⟨rfl, g⟩]
            rfl
          rw [← e2] at hI
          exact ⟨fun z => ⟨(hI.1 z).1, by have := (hI.1 z).2.1; omega, (hI.1 z).2.2⟩, hI.2⟩
        · rw [rd_if0 (fun z => g z.2)]
          refine ⟨fun _ => ⟨?_, by show p ≤ p + 2; omega, by show p + 2 ≤ N; omega⟩, fun z => Bool.noConfusion z⟩
          refine rd_done (q := (3, 0, 0, fr, 0)) (Or.inr rfl) fun hp2 => ?_
          rw [rd_ch1 hp2] at g
          rw [rd_stepq, if_neg (show ¬ (3 : Int) = 0 by decide), if_neg (show ¬ (3 : Int) = 2 by decide), rd_if0 (fun z => absurd z.1 (show ¬ (3 : Int) = 1 by decide)), rd_if0 (fun z => g z.2)]
/-- a reading of the class that the machine follows -/
def rd_gd (T : Nat → Int) (N : Nat) (e : Int) (H : rd_X → List Int → Prop) (B : Int → Prop) (A : rd_E) : Prop := ∀ p C S x X l, p ≤ N → x.2.1 = e → H x l → ((A p C S).1 = true → rd_R T N (rd_q0, x :: X, l, C, S) p = rd_R T N (rd_q4, x :: X, l, (A p C S).2.2) (A p C S).2.1 ∧ p ≤ (A p C S).2.1 ∧ (A p C S).2.1 ≤ N ∧ B (rd_ch T N (A p C S).2.1)) ∧ ((A p C S).1 = false → rd_R T N (rd_q0, x :: X, l, C, S) p = (none, ((A p C S).2.1 : Int)))
def rd_B4 (c : Int) : Prop := ¬ rd_op c ∧ c ≠ 63
def rd_HU (_ : rd_X) (_ : List Int) : Prop := True
def rd_HP (x : rd_X) (l : List Int) : Prop := x.2.2.1 ≤ (l.length : Int) ∧ ∀ k C, k = 2 → rd_pour k x.2.2.1 l C = (l, C)
def rd_HS (x : rd_X) (l : List Int) : Prop := (l.length : Int) = x.2.2.1
/-- the formulas one deeper -/
def rd_in (T : Nat → Int) (N : Nat) (e : Int) (E : Option rd_E) : Prop := (E = none ∧ e = 3) ∨ ∃ E', E = some E' ∧ e < 3 ∧ rd_gd T N (e + 1) rd_HS rd_B4 E'
theorem rd_gd_u (hE : rd_in T N e E) (hN : N ≤ 24) : rd_gd T N e rd_HU (fun _ => True) (rd_unt T N E) := by
  intro p C S x X l hp hx _
  have hlt : ∀ c, rd_ch T N p = c → c ≠ 32 → p < N := fun c h1 h2 => by
    by_cases g : p < N
    · exact g
    · rw [rd_ch0 (by omega)] at h1; exact absurd h1.symm h2
  unfold rd_unt
  by_cases a : rd_dg (rd_ch T N p)
  · rw [rd_if1 a]
    have hpN := hlt _ rfl (by unfold rd_dg at a; omega)
    refine ⟨fun _ => ⟨?_, (rd_num_le 5 0 p hp).1, (rd_num_le 5 0 p hp).2, trivial⟩, fun z => Bool.noConfusion z⟩
    have e5 : rd_num T N 5 0 p = rd_num T N 4 (rd_ch T N p - 48) (p + 1) := by
      conv => lhs; unfold rd_num
      rw [rd_if1 a, show (0 : Int) * 10 + (rd_ch T N p - 48) = rd_ch T N p - 48 by omega]
    show _ = rd_R T N (rd_q4, x :: X, l, rd_emit C 0 (rd_num T N 5 0 p).1 0, S) (rd_num T N 5 0 p).2
    rw [e5, ← rd_numR 4 _ _ (by decide), rd_R_lt hpN, rd_step0]
    rw [rd_ch1 hpN] at a ⊢
    unfold rd_beg
    rw [rd_if1 a]
    rfl
  · rw [rd_if0 a]
    by_cases b : rd_ch T N p = 40
    · rw [rd_if1 b]
      have hpN := hlt _ b (by decide)
      have b' := b
      rw [rd_ch1 hpN] at a b'
      have nl : ¬ rd_lt (T p) := by unfold rd_lt; omega
      unfold rd_brk
      rw [rd_R_lt hpN, rd_step0]
      unfold rd_beg
      rw [rd_if0 a, rd_if0 nl]
      rcases hE with ⟨rfl, he⟩ | ⟨E', rfl, he, hE⟩
      · rw [rd_if0 (fun z => absurd z.2 (show ¬ x.2.1 < 3 by omega))]
        exact ⟨fun z => Bool.noConfusion z, fun _ => rfl⟩
      · rw [rd_if1 (c := T p = 40 ∧ (rd_top (x :: X)).2.1 < 3) ⟨b', show x.2.1 < 3 by omega⟩]
        obtain ⟨g1, g2⟩ := hE (p + 1) C S (1, x.2.1 + 1, (l.length : Int), 0, -1) (x :: X) l (by omega) (show x.2.1 + 1 = e + 1 by omega) rfl
        rw [show (some E' : Option rd_E).elim (false, p, C, S) (fun E => rd_if ((E (p + 1) C S).1 = true ∧ rd_ch T N (E (p + 1) C S).2.1 = 41) (true, (E (p + 1) C S).2.1 + 1, (E (p + 1) C S).2.2) (false, (E (p + 1) C S).2)) = rd_if ((E' (p + 1) C S).1 = true ∧ rd_ch T N (E' (p + 1) C S).2.1 = 41) (true, (E' (p + 1) C S).2.1 + 1, (E' (p + 1) C S).2.2) (false, (E' (p + 1) C S).2) from rfl]
        rw [show ((some (rd_q0, (1, (rd_top (x :: X)).2.1 + 1, (l.length : Int), 0, -1) :: x :: X, l, C, S) : Option rd_T).elim (none, (p : Int)) fun σ' => rd_R T N σ' (p + 1)) = rd_R T N (rd_q0, (1, x.2.1 + 1, (l.length : Int), 0, -1) :: x :: X, l, C, S) (p + 1) from rfl]
        revert g1 g2
        generalize E' (p + 1) C S = y
        intro g1 g2
        obtain ⟨yb, yp, yC, yS⟩ := y
        cases yb with
        | false =>
          rw [rd_if0 (fun z => Bool.noConfusion z.1)]
          exact ⟨fun z => Bool.noConfusion z, fun _ => g2 rfl⟩
        | true =>
          obtain ⟨h1, h2, h3, h4⟩ := g1 rfl
          have h1 : rd_R T N (rd_q0, (1, x.2.1 + 1, (l.length : Int), 0, -1) :: x :: X, l, C, S) (p + 1) = rd_R T N (rd_q4, (1, x.2.1 + 1, (l.length : Int), 0, -1) :: x :: X, l, yC, yS) yp := h1
          have h2 : p + 1 ≤ yp := h2
          have h3 : yp ≤ N := h3
          have h4 : rd_B4 (rd_ch T N yp) := h4
          rw [h1]
          by_cases d : rd_ch T N yp = 41
          · have hq : yp < N := by
              by_cases g : yp < N
              · exact g
              · rw [rd_ch0 (by omega)] at d; exact absurd d (by decide)
            rw [rd_if1 (c := true = true ∧ rd_ch T N yp = 41) ⟨rfl, d⟩]
            refine ⟨fun _ => ⟨?_, show p ≤ yp + 1 by omega, show yp + 1 ≤ N by omega, trivial⟩, fun z => Bool.noConfusion z⟩
            rw [rd_R_lt hq, rd_step4]
            rw [rd_ch1 hq] at d h4
            unfold rd_fol
            rw [rd_if0 h4.1, rd_if0 (fun z => h4.2 z.1), rd_if0 (fun z => by omega), rd_if1 (c := T yp = 41 ∧ rd_enc ((1, x.2.1 + 1, (l.length : Int), 0, -1) :: x :: X) = 1) ⟨d, rfl⟩]
            have hcl : rd_clo ((1, x.2.1 + 1, (l.length : Int), 0, -1) :: x :: X) l yC = (l, yC) := rd_pour0 (Int.le_refl _)
            rw [hcl]
            rfl
          · rw [rd_if0 (fun z => d z.2)]
            refine ⟨fun z => Bool.noConfusion z, fun _ => ?_⟩
            by_cases hq : yp < N
            · rw [rd_ch1 hq] at d h4
              rw [rd_R_lt hq, rd_step4, rd_fol0 h4.1 h4.2 (fun z => by have := z.2; rw [rd_enc1] at this; omega) (fun z => d z.1)]
              rfl
            · rw [rd_R_ge (by omega), rd_fin4, if_pos (by rw [rd_enc1]; decide), show N = yp by omega]
    · rw [rd_if0 b]
      by_cases g : rd_lt (rd_ch T N p)
      · rw [rd_if1 g]
        have hpN := hlt _ rfl (by unfold rd_lt at g; omega)
        have h1 := rd_refR (T := T) (N := N) (X := x :: X) (l := l) (C := C) (fr := (S.1 : Int)) 24 p S hpN (by omega)
        have e1 : rd_R T N (rd_q0, x :: X, l, C, S) p = rd_R T N ((2, 0, 0, (S.1 : Int), rd_ch T N p - 120), x :: X, l, C, S) (p + 1) := by
          rw [rd_R_lt hpN, rd_step0]
          rw [rd_ch1 hpN] at a g ⊢
          unfold rd_beg
          rw [rd_if0 a, rd_if1 g]
          rfl
        rw [e1]
        exact ⟨fun z => ⟨(h1.1 z).1, (h1.1 z).2.1, (h1.1 z).2.2, trivial⟩, h1.2⟩
      · rw [rd_if0 g]
        refine ⟨fun z => Bool.noConfusion z, fun _ => ?_⟩
        by_cases hq : p < N
        · rw [rd_R_lt hq, rd_step0]
          rw [rd_ch1 hq] at a b g
          unfold rd_beg
          rw [rd_if0 a, rd_if0 g, rd_if0 (fun z => b z.1)]
          rfl
        · rw [rd_R_ge (by omega), rd_fin0, show N = p by omega]
end RG
