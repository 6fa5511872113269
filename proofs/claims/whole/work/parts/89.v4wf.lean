/-! What the descent puts out makes sense. Pure. -/
def rd_ph (C : rd_C) : Nat → Int
  | 0 => 0
  | i + 1 => rd_ph C i + 1 + (if (C.2 i).1 = 1 then (C.2 i).2.2 else 0)
/-- a reference: shifts a .. a + b - 1, all children last alone -/
def rd_rf (S : rd_S) (a b : Int) : Prop := 0 ≤ a ∧ 1 ≤ b ∧ a + b ≤ S.1 ∧ ∀ j : Nat, a ≤ j → (j : Int) < a + b → ((0 ≤ (S.2 j).1 ∧ (S.2 j).1 < 3) ∧ (0 ≤ (S.2 j).2 ∧ (S.2 j).2 < 10)) ∧ ((S.2 j).2 = 9 → (j : Int) + 1 = a + b)
def rd_ok1 (C : rd_C) (S : rd_S) (h : Nat → Int) (n i : Nat) : Prop :=
  ((C.2 i).1 = 0 ∧ (0 ≤ (C.2 i).2.1 ∧ (C.2 i).2.1 ≤ 99999) ∧ h (i + 1) = h i + 1) ∨ ((C.2 i).1 = 1 ∧ h (i + 1) = h i + 1 ∧ rd_rf S (C.2 i).2.1 (C.2 i).2.2) ∨ ((2 ≤ (C.2 i).1 ∧ (C.2 i).1 ≤ 5) ∧ 2 ≤ h i ∧ h (i + 1) = h i - 1)
  ∨ ((C.2 i).1 = 6 ∧ 1 ≤ h i ∧ h (i + 1) = h i - 1 ∧ ((i : Int) < (C.2 i).2.1 ∧ (C.2 i).2.1 ≤ n) ∧ ((i : Int) < (C.2 i).2.2 ∧ (C.2 i).2.2 ≤ n) ∧ h (C.2 i).2.1.toNat = h i - 1 ∧ h (C.2 i).2.2.toNat = h i ∧ C.2 ((C.2 i).2.1.toNat - 1) = (7, (C.2 i).2.2, 0))
  ∨ ((C.2 i).1 = 7 ∧ ((i : Int) < (C.2 i).2.1 ∧ (C.2 i).2.1 ≤ n) ∧ h (C.2 i).2.1.toNat = h i)
def rd_seg (C : rd_C) (S : rd_S) (h : Nat → Int) (i0 i1 : Nat) : Prop := ∀ i, i0 ≤ i → i < i1 → rd_ok1 C S h i1 i
/-- the longer table of shifts -/
def rd_Sx (S S' : rd_S) : Prop := S.1 ≤ S'.1 ∧ ∀ j, j < S.1 → S'.2 j = S.2 j
def rd_wf1 (m : Int) (p : Nat) (C : rd_C) (S : rd_S) (r : rd_P) : Prop :=
  p ≤ r.2.1 ∧ C.1 < r.2.2.1.1 ∧ (∀ i, i < C.1 → r.2.2.1.2 i = C.2 i) ∧ rd_Sx S r.2.2.2 ∧ (rd_ph r.2.2.1 r.2.2.1.1 + p ≤ rd_ph C C.1 + r.2.1 ∧ (r.2.2.2.1 : Int) + p ≤ S.1 + r.2.1)
  ∧ (∀ j : Nat, S.1 ≤ j → j < r.2.2.2.1 → ∃ i, C.1 ≤ i ∧ i < r.2.2.1.1 ∧ (r.2.2.1.2 i).1 = 1 ∧ (r.2.2.1.2 i).2.1 ≤ j ∧ (j : Int) < (r.2.2.1.2 i).2.1 + (r.2.2.1.2 i).2.2)
  ∧ ∀ k : Int, 0 ≤ k → ∃ h : Nat → Int, h C.1 = k ∧ h r.2.2.1.1 = k + 1 ∧ (∀ i, C.1 ≤ i → i ≤ r.2.2.1.1 → 0 ≤ h i ∧ h i ≤ k + m) ∧ rd_seg r.2.2.1 r.2.2.2 h C.1 r.2.2.1.1
def rd_wf (N : Nat) (m : Int) (A : rd_E) : Prop := ∀ p C S, p ≤ N → (A p C S).1 = true → rd_wf1 m p C S (A p C S)
section RW
variable {T : Nat → Int} {N p : Nat} {C C' : rd_C} {S S' : rd_S} {c o e k m m' : Int} {E : Option rd_E} {h h' : Nat → Int}
theorem rd_ph_c : ∀ n : Nat, (∀ i, i < n → (C.2 i).1 = (C'.2 i).1 ∧ ((C.2 i).1 = 1 → (C.2 i).2.2 = (C'.2 i).2.2)) → rd_ph C n = rd_ph C' n := by
  intro n
  induction n with
  | zero => intro _; rfl
  | succ n ih =>
    intro g
    have g1 := g n (by omega)
    unfold rd_ph
    rw [ih (fun i hi => g i (by omega)), ← g1.1]
    by_cases a : (C.2 n).1 = 1
    · rw [if_pos a, if_pos a, g1.2 a]
    · rw [if_neg a, if_neg a]
theorem rd_emit_lt {a b : Int} {i : Nat} (g : i < C.1) : (rd_emit C o a b).2 i = C.2 i := if_neg (by omega)
theorem rd_emit_at {a b : Int} : (rd_emit C o a b).2 C.1 = (o, a, b) := if_pos rfl
theorem rd_ph_e {a b : Int} : rd_ph (rd_emit C o a b) (C.1 + 1) = rd_ph C C.1 + 1 + (if o = 1 then b else 0) := by
  have e1 : rd_ph (rd_emit C o a b) C.1 = rd_ph C C.1 := rd_ph_c _ fun i hi => by rw [rd_emit_lt hi]; exact ⟨rfl, fun _ => rfl⟩
  conv => lhs; unfold rd_ph
  rw [e1, rd_emit_at]
theorem rd_Sx_r : rd_Sx S S := ⟨Nat.le_refl _, fun _ _ => rfl⟩
theorem rd_Sx_t {S1 S2 S3 : rd_S} (a : rd_Sx S1 S2) (b : rd_Sx S2 S3) : rd_Sx S1 S3 := ⟨Nat.le_trans a.1 b.1, fun j hj => by rw [b.2 j (by have := a.1; omega), a.2 j hj]⟩
theorem rd_rf_x {a b : Int} (g : rd_rf S a b) (hs : rd_Sx S S') : rd_rf S' a b := by
  obtain ⟨g1, g2, g3, g4⟩ := g
  have h1 := hs.1
  refine ⟨g1, g2, by omega, fun j h2 h3 => ?_⟩
  rw [hs.2 j (by omega)]
  exact g4 j h2 h3
/-- a stretch of code stays good in longer code -/
theorem rd_seg_x {i0 i1 n : Nat} (g : rd_seg C S h i0 i1) (hs : rd_Sx S S') (hc : ∀ i, i0 ≤ i → i < i1 → C'.2 i = C.2 i) (hh : ∀ i, i0 ≤ i → i ≤ i1 → h' i = h i) (hn : i1 ≤ n) : ∀ i, i0 ≤ i → i < i1 → rd_ok1 C' S' h' n i := by
  intro i g0 g1
  have g2 := g i g0 g1
  unfold rd_ok1 at g2 ⊢
  rw [hc i g0 g1, hh i g0 (by omega), hh (i + 1) (by omega) (by omega)]
  rcases g2 with z | z | z | z | z
  · exact Or.inl z
  · exact Or.inr (Or.inl ⟨z.1, z.2.1, rd_rf_x z.2.2 hs⟩)
  · exact Or.inr (Or.inr (Or.inl z))
  · obtain ⟨z1, z2, z3, z4, z5, z6, z7, z8⟩ := z
    refine Or.inr (Or.inr (Or.inr (Or.inl ⟨z1, z2, z3, ⟨z4.1, by omega⟩, ⟨z5.1, by omega⟩, ?_, ?_, ?_⟩)))
    · rw [hh _ (by omega) (by omega)]; exact z6
    · rw [hh _ (by omega) (by omega)]; exact z7
    · rw [hc _ (by omega) (by omega)]; exact z8
  · obtain ⟨z1, z2, z3⟩ := z
    refine Or.inr (Or.inr (Or.inr (Or.inr ⟨z1, ⟨z2.1, by omega⟩, ?_⟩)))
    rw [hh _ (by omega) (by omega)]; exact z3
theorem rd_wf_m {p : Nat} {r : rd_P} (g : rd_wf1 m p C S r) (hm : m ≤ m') : rd_wf1 m' p C S r := by
  obtain ⟨g1, g2, g3, g4, g5, g6, g7⟩ := g
  refine ⟨g1, g2, g3, g4, g5, g6, fun k hk => ?_⟩
  obtain ⟨h, a1, a2, a3, a4⟩ := g7 k hk
  exact ⟨h, a1, a2, fun i i0 i1 => ⟨(a3 i i0 i1).1, by have := (a3 i i0 i1).2; omega⟩, a4⟩
/-- one new order that puts something on the stack -/
theorem rd_wf_1 {p p' : Nat} {a b : Int} {S' : rd_S} (hm : 1 ≤ m) (ho : (o = 0 ∧ (0 ≤ a ∧ a ≤ 99999)) ∨ (o = 1 ∧ a = S.1 ∧ a + b = S'.1 ∧ rd_rf S' a b)) (hp : p + 1 ≤ p') (hS : rd_Sx S S') (h0 : o = 0 → S' = S) (h1 : o = 1 → b + p + 1 ≤ p') : rd_wf1 m p C S (true, p', rd_emit C o a b, S') := by
  refine ⟨show p ≤ p' by omega, Nat.lt_succ_self _, fun i hi => rd_emit_lt hi, hS, ⟨?_, ?_⟩, fun j j0 j1 => ?_, fun k hk => ⟨fun i => if i ≤ C.1 then k else k + 1, if_pos (Nat.le_refl _), if_neg (by show ¬ C.1 + 1 ≤ C.1; omega), fun i i0 i1 => ?_, fun i i0 i1 => ?_⟩⟩
  · show rd_ph (rd_emit C o a b) (C.1 + 1) + p ≤ rd_ph C C.1 + p'
    rw [rd_ph_e]
    rcases ho with z | z
    · rw [if_neg (by omega)]; omega
    · rw [if_pos z.1]; have := h1 z.1; omega
  · show (S'.1 : Int) + p ≤ S.1 + p'
    rcases ho with z | z
    · rw [h0 z.1]; omega
    · have := h1 z.1; omega
  · rcases ho with z | z
    · have j1 : j < S'.1 := j1
      rw [h0 z.1] at j1; omega
    · refine ⟨C.1, Nat.le_refl _, Nat.lt_succ_self _, ?_⟩
      show ((rd_emit C o a b).2 C.1).1 = 1 ∧ _
      rw [rd_emit_at]
      have j1 : j < S'.1 := j1
      exact ⟨z.1, by show a ≤ j; omega, by show (j : Int) < a + b; omega⟩
  · show 0 ≤ (if i ≤ C.1 then k else k + 1) ∧ (if i ≤ C.1 then k else k + 1) ≤ k + m
    split <;> omega
  · have i1 : i < C.1 + 1 := i1
    obtain rfl : i = C.1 := by omega
    unfold rd_ok1
    show (((rd_emit C o a b).2 C.1).1 = 0 ∧ _) ∨ _
    rw [rd_emit_at]
    dsimp only
    rw [if_pos (Nat.le_refl _), if_neg (show ¬ C.1 + 1 ≤ C.1 by omega)]
    rcases ho with z | z
    · exact Or.inl ⟨z.1, z.2, rfl⟩
    · exact Or.inr (Or.inl ⟨z.1, rfl, z.2.2.2⟩)
theorem rd_num_b : ∀ (k : Nat) (w : Int) (p : Nat), 0 ≤ w → 0 ≤ (rd_num T N k w p).1 ∧ (rd_num T N k w p).1 + 1 ≤ (w + 1) * 10 ^ k := by
  intro k
  induction k with
  | zero => intro w p hw; exact ⟨hw, by show w + 1 ≤ (w + 1) * 1; omega⟩
  | succ k ih =>
    intro w p hw
    have hp : (0 : Int) < 10 ^ k := Int.pow_pos (by decide)
    unfold rd_num
    by_cases g : rd_dg (rd_ch T N p)
    · rw [rd_if1 g]
      unfold rd_dg at g
      have := ih (w * 10 + (rd_ch T N p - 48)) (p + 1) (by omega)
      refine ⟨this.1, ?_⟩
      have h2 : (w * 10 + (rd_ch T N p - 48) + 1) * 10 ^ k ≤ ((w + 1) * 10) * 10 ^ k := Int.mul_le_mul_of_nonneg_right (by omega) (by omega)
      rw [Int.pow_succ, Int.mul_comm (10 ^ k) 10, ← Int.mul_assoc]
      omega
    · rw [rd_if0 g]
      refine ⟨hw, ?_⟩
      have h2 : (w + 1) * 1 ≤ (w + 1) * 10 ^ (k + 1) := Int.mul_le_mul_of_nonneg_left (by have : (0 : Int) < 10 ^ (k + 1) := Int.pow_pos (by decide); omega) (by omega)
      show w + 1 ≤ (w + 1) * 10 ^ (k + 1)
      omega
theorem rd_way_b : -1 ≤ rd_way c ∧ rd_way c ≤ 9 := by
  unfold rd_way
  split
  · decide
  · split
    · decide
    · split
      · decide
      · split
        · decide
        · split <;> omega
theorem rd_ref_w : ∀ (k p : Nat) (S : rd_S), p < N → N ≤ p + k → rd_lt (rd_ch T N p) → (rd_ref T N k p S).1 = true → rd_Sx S (rd_ref T N k p S).2.2 ∧ S.1 < (rd_ref T N k p S).2.2.1 ∧ (rd_ref T N k p S).2.1 = p + 2 * ((rd_ref T N k p S).2.2.1 - S.1) ∧ ∀ j, S.1 ≤ j → j < (rd_ref T N k p S).2.2.1 → ((0 ≤ ((rd_ref T N k p S).2.2.2 j).1 ∧ ((rd_ref T N k p S).2.2.2 j).1 < 3) ∧ (0 ≤ ((rd_ref T N k p S).2.2.2 j).2 ∧ ((rd_ref T N k p S).2.2.2 j).2 < 10)) ∧ (((rd_ref T N k p S).2.2.2 j).2 = 9 → j + 1 = (rd_ref T N k p S).2.2.1) := by
  intro k
  induction k with
  | zero => intro p S h1 h2; omega
  | succ k ih =>
    intro p S h1 h2 hl
    have hw := @rd_way_b (rd_ch T N (p + 1))
    have hx : rd_Sx S (rd_push S (rd_ch T N p - 120, rd_way (rd_ch T N (p + 1)))) := ⟨Nat.le_succ _, fun j hj => if_neg (by omega)⟩
    have hat : (rd_push S (rd_ch T N p - 120, rd_way (rd_ch T N (p + 1)))).2 S.1 = (rd_ch T N p - 120, rd_way (rd_ch T N (p + 1))) := if_pos rfl
    unfold rd_lt at hl
    unfold rd_ref
    by_cases a : rd_way (rd_ch T N (p + 1)) < 0
    · rw [rd_if1 a]; exact fun z => Bool.noConfusion z
    · rw [rd_if0 a]
      by_cases g : rd_way (rd_ch T N (p + 1)) ≠ 9 ∧ rd_lt (rd_ch T N (p + 2))
      · rw [rd_if1 g]
        have hp2 : p + 2 < N := by
          by_cases hp : p + 2 < N
          · exact hp
          · have g2 := g.2
            rw [rd_ch0 (by omega)] at g2; unfold rd_lt at g2; omega
        intro z
        obtain ⟨i1, i2, i3, i4⟩ := ih (p + 2) (rd_push S (rd_ch T N p - 120, rd_way (rd_ch T N (p + 1)))) hp2 (by omega) g.2 z
        have i2 : S.1 + 1 < _ := i2
        have i3 : _ = p + 2 + 2 * (_ - (S.1 + 1)) := i3
        refine ⟨rd_Sx_t hx i1, by omega, by omega, fun j j0 j1 => ?_⟩
        by_cases q : j = S.1
        · subst q
          rw [i1.2 S.1 (Nat.lt_succ_self _), hat]
          exact ⟨⟨by show 0 ≤ rd_ch T N p - 120 ∧ rd_ch T N p - 120 < 3; omega, by show 0 ≤ rd_way _ ∧ rd_way _ < 10; omega⟩, fun z => absurd z g.1⟩
        · exact i4 j (show S.1 + 1 ≤ j by omega) j1
      · rw [rd_if0 g]
        intro _
        refine ⟨hx, Nat.lt_succ_self _, by show p + 2 = p + 2 * (S.1 + 1 - S.1); omega, fun j j0 j1 => ?_⟩
        have j1 : j < S.1 + 1 := j1
        obtain rfl : j = S.1 := by omega
        show ((0 ≤ ((rd_push S (rd_ch T N p - 120, rd_way (rd_ch T N (p + 1)))).2 S.1).1 ∧ _) ∧ _) ∧ _
        rw [hat]
        exact ⟨⟨by show 0 ≤ rd_ch T N p - 120 ∧ rd_ch T N p - 120 < 3; omega, by show 0 ≤ rd_way _ ∧ rd_way _ < 10; omega⟩, fun _ => rfl⟩
theorem rd_wf_u (hE : ∀ E', E = some E' → rd_wf N (m - 0) E') (hG : ∀ E', E = some E' → ∀ p C S, p ≤ N → (E' p C S).1 = true → (E' p C S).2.1 ≤ N) (hN : N ≤ 24) (hm : 1 ≤ m) : rd_wf N m (rd_unt T N E) := by
  intro p C S hp
  unfold rd_unt
  by_cases a : rd_dg (rd_ch T N p)
  · rw [rd_if1 a]
    intro _
    have hpN : p < N := by
      by_cases hp : p < N
      · exact hp
      · rw [rd_ch0 (by omega)] at a; unfold rd_dg at a; omega
    have hb := rd_num_b (T := T) (N := N) 5 0 p (by decide)
    have e5 : rd_num T N 5 0 p = rd_num T N 4 (0 * 10 + (rd_ch T N p - 48)) (p + 1) := by
      conv => lhs; unfold rd_num
      rw [rd_if1 a]
    have hle : p + 1 ≤ (rd_num T N 5 0 p).2 := by rw [e5]; exact (rd_num_le 4 _ (p + 1) (by omega)).1
    have : (0 + 1 : Int) * 10 ^ 5 = 100000 := by decide
    exact rd_wf_1 hm (Or.inl ⟨rfl, hb.1, by omega⟩) hle rd_Sx_r (fun _ => rfl) (fun z => absurd z (by decide))
  · rw [rd_if0 a]
    by_cases b : rd_ch T N p = 40
    · rw [rd_if1 b]
      have hpN : p < N := by
        by_cases hp : p < N
        · exact hp
        · rw [rd_ch0 (by omega)] at b; omega
      unfold rd_brk
      cases E with
      | none => exact fun z => Bool.noConfusion z
      | some E' =>
        show ((rd_if ((E' (p + 1) C S).1 = true ∧ rd_ch T N (E' (p + 1) C S).2.1 = 41) (true, (E' (p + 1) C S).2.1 + 1, (E' (p + 1) C S).2.2) (false, (E' (p + 1) C S).2) : rd_P).1 = true) → rd_wf1 m p C S (rd_if ((E' (p + 1) C S).1 = true ∧ rd_ch T N (E' (p + 1) C S).2.1 = 41) (true, (E' (p + 1) C S).2.1 + 1, (E' (p + 1) C S).2.2) (false, (E' (p + 1) C S).2))
        by_cases d : (E' (p + 1) C S).1 = true ∧ rd_ch T N (E' (p + 1) C S).2.1 = 41
        · rw [rd_if1 d]
          intro _
          obtain ⟨g1, g2, g3, g4, g5, g6, g7⟩ := hE E' rfl (p + 1) C S (by omega) d.1
          rw [show m - 0 = m by omega] at g7
          exact ⟨show p ≤ _ + 1 by omega, g2, g3, g4, ⟨by have := g5.1; dsimp only; omega, by have := g5.2; dsimp only; omega⟩, g6, g7⟩
        · rw [rd_if0 d]
          exact fun z => Bool.noConfusion z
    · rw [rd_if0 b]
      by_cases g : rd_lt (rd_ch T N p)
      · rw [rd_if1 g]
        have hpN : p < N := by
          by_cases hp : p < N
          · exact hp
          · rw [rd_ch0 (by omega)] at g; unfold rd_lt at g; omega
        intro z
        obtain ⟨w1, w2, w3, w4⟩ := rd_ref_w (T := T) 24 p S hpN (by omega) g z
        rw [show ((rd_ref T N 24 p S).1, (rd_ref T N 24 p S).2.1, rd_emit C 1 (S.1 : Int) ((rd_ref T N 24 p S).2.2.1 - S.1), (rd_ref T N 24 p S).2.2) = (true, (rd_ref T N 24 p S).2.1, rd_emit C 1 (S.1 : Int) ((rd_ref T N 24 p S).2.2.1 - S.1), (rd_ref T N 24 p S).2.2) from by rw [show (rd_ref T N 24 p S).1 = true from z]]
        refine rd_wf_1 hm (Or.inr ⟨rfl, rfl, by omega, by omega, by omega, by omega, fun j j0 j1 => ?_⟩) (by omega) w1 (fun z => absurd z (by decide)) (fun _ => by omega)
        have := w4 j (by omega) (by omega)
        exact ⟨this.1, fun z => by have := this.2 z; omega⟩
      · rw [rd_if0 g]
        exact fun z => Bool.noConfusion z
/-- an operator behind its operands -/
theorem rd_wf_b {U : rd_E} {x : rd_P} {p : Nat} (hx : rd_wf1 m p C S x) (hU : (U (x.2.1 + 1) x.2.2.1 x.2.2.2).1 = true → rd_wf1 m' (x.2.1 + 1) x.2.2.1 x.2.2.2 (U (x.2.1 + 1) x.2.2.1 x.2.2.2)) (hm : m' + 1 ≤ m) (hm0 : 1 ≤ m') (ho : 2 ≤ o ∧ o ≤ 5) (hb : (rd_bin U o x).1 = true) : rd_wf1 m p C S (rd_bin U o x) := by
  have hU := hU hb
  unfold rd_bin
  revert hU
  generalize U (x.2.1 + 1) x.2.2.1 x.2.2.2 = u
  intro hU
  obtain ⟨g1, g2, g3, g4, g5, g6, g7⟩ := hx
  obtain ⟨k1, k2, k3, k4, k5, k6, k7⟩ := hU
  have hlt : ∀ i, i < u.2.2.1.1 → (rd_emit u.2.2.1 o 0 0).2 i = u.2.2.1.2 i := fun i hi => rd_emit_lt hi
  refine ⟨show p ≤ u.2.1 by omega, show C.1 < u.2.2.1.1 + 1 by omega, fun i hi => ?_, rd_Sx_t g4 k4, ⟨?_, ?_⟩, fun j j0 j1 => ?_, fun k hk => ?_⟩
  · show (rd_emit u.2.2.1 o 0 0).2 i = C.2 i
    rw [hlt i (by omega), k3 i (by omega), g3 i hi]
  · show rd_ph (rd_emit u.2.2.1 o 0 0) (u.2.2.1.1 + 1) + p ≤ rd_ph C C.1 + u.2.1
    rw [rd_ph_e, if_neg (by omega)]
    have := k5.1; have := g5.1
    omega
  · show (u.2.2.2.1 : Int) + p ≤ S.1 + u.2.1
    have := k5.2; have := g5.2
    omega
  · have j1 : j < u.2.2.2.1 := j1
    show ∃ i, C.1 ≤ i ∧ i < u.2.2.1.1 + 1 ∧ ((rd_emit u.2.2.1 o 0 0).2 i).1 = 1 ∧ ((rd_emit u.2.2.1 o 0 0).2 i).2.1 ≤ j ∧ (j : Int) < ((rd_emit u.2.2.1 o 0 0).2 i).2.1 + ((rd_emit u.2.2.1 o 0 0).2 i).2.2
    by_cases q : j < x.2.2.2.1
    · obtain ⟨i, a1, a2, a3⟩ := g6 j j0 q
      refine ⟨i, a1, by omega, ?_⟩
      rw [hlt i (by omega), k3 i a2]
      exact a3
    · obtain ⟨i, a1, a2, a3⟩ := k6 j (by omega) j1
      refine ⟨i, by omega, by omega, ?_⟩
      rw [hlt i a2]
      exact a3
  · obtain ⟨h1, a1, a2, a3, a4⟩ := g7 k hk
    obtain ⟨h2, b1, b2, b3, b4⟩ := k7 (k + 1) (by omega)
    refine ⟨fun i => if i ≤ x.2.2.1.1 then h1 i else if i ≤ u.2.2.1.1 then h2 i else k + 1, ?_, ?_, fun i i0 i1 => ?_, fun i i0 i1 => ?_⟩
    · show (if C.1 ≤ x.2.2.1.1 then h1 C.1 else _) = k
      rw [if_pos (by omega)]; exact a1
    · show (if u.2.2.1.1 + 1 ≤ x.2.2.1.1 then h1 (u.2.2.1.1 + 1) else if u.2.2.1.1 + 1 ≤ u.2.2.1.1 then h2 (u.2.2.1.1 + 1) else k + 1) = k + 1
      rw [if_neg (by omega), if_neg (by omega)]
    · show 0 ≤ (if i ≤ x.2.2.1.1 then h1 i else if i ≤ u.2.2.1.1 then h2 i else k + 1) ∧ (if i ≤ x.2.2.1.1 then h1 i else if i ≤ u.2.2.1.1 then h2 i else k + 1) ≤ k + m
      by_cases q : i ≤ x.2.2.1.1
      · rw [if_pos q]; exact a3 i i0 q
      · rw [if_neg q]
        by_cases q2 : i ≤ u.2.2.1.1
        · rw [if_pos q2]; have := b3 i (by omega) q2; omega
        · rw [if_neg q2]; omega
    · have i1 : i < u.2.2.1.1 + 1 := i1
      have hh1 : ∀ i, C.1 ≤ i → i ≤ x.2.2.1.1 → (if i ≤ x.2.2.1.1 then h1 i else if i ≤ u.2.2.1.1 then h2 i else k + 1) = h1 i := fun i _ q => if_pos q
      have hh2 : ∀ i, x.2.2.1.1 ≤ i → i ≤ u.2.2.1.1 → (if i ≤ x.2.2.1.1 then h1 i else if i ≤ u.2.2.1.1 then h2 i else k + 1) = h2 i := fun i q1 q2 => by
        by_cases q : i ≤ x.2.2.1.1
        · obtain rfl : i = x.2.2.1.1 := by omega
          rw [if_pos q, a2, b1]
        · rw [if_neg q, if_pos q2]
      show rd_ok1 (rd_emit u.2.2.1 o 0 0) u.2.2.2 (fun i => if i ≤ x.2.2.1.1 then h1 i else if i ≤ u.2.2.1.1 then h2 i else k + 1) (u.2.2.1.1 + 1) i
      by_cases q : i < x.2.2.1.1
      · exact rd_seg_x (n := u.2.2.1.1 + 1) a4 k4 (fun i q1 q2 => by rw [hlt i (by omega), k3 i q2]) hh1 (by omega) i i0 q
      · by_cases q2 : i < u.2.2.1.1
        · exact rd_seg_x (n := u.2.2.1.1 + 1) b4 rd_Sx_r (fun i q1 q2 => hlt i q2) hh2 (by omega) i (by omega) q2
        · obtain rfl : i = u.2.2.1.1 := by omega
          refine Or.inr (Or.inr (Or.inl ?_))
          have e1 := hh2 u.2.2.1.1 (by omega) (Nat.le_refl _)
          rw [rd_emit_at]
          refine ⟨ho, ?_, ?_⟩
          · dsimp only; rw [e1, b2]; omega
          · dsimp only; rw [e1, b2]
            show (if u.2.2.1.1 + 1 ≤ x.2.2.1.1 then h1 (u.2.2.1.1 + 1) else if u.2.2.1.1 + 1 ≤ u.2.2.1.1 then h2 (u.2.2.1.1 + 1) else k + 1) = _
            rw [if_neg (by omega), if_neg (by omega)]
            omega
theorem rd_opc_b : 2 ≤ rd_opc c ∧ rd_opc c ≤ 5 := by
  unfold rd_opc
  split
  · decide
  · split
    · decide
    · split <;> decide
theorem rd_wf_l {sg : Int → Prop} {U : rd_E} {p : Nat} (hU : rd_wf N m' U) (hUN : ∀ p C S, p ≤ N → (U p C S).1 = true → (U p C S).2.1 ≤ N) (h32 : ¬ sg 32) (hm : m' + 1 ≤ m) (hm0 : 1 ≤ m') : ∀ (k : Nat) (y : rd_P), (y.1 = true → rd_wf1 m p C S y ∧ y.2.1 ≤ N) → (rd_loop T N sg U k y).1 = true → rd_wf1 m p C S (rd_loop T N sg U k y) ∧ (rd_loop T N sg U k y).2.1 ≤ N := by
  intro k
  induction k with
  | zero => intro y hy hz; exact hy hz
  | succ k ih =>
    intro y hy hz
    by_cases a : y.1 = true ∧ sg (rd_ch T N y.2.1)
    · have el : rd_loop T N sg U (k + 1) y = rd_loop T N sg U k (rd_bin U (rd_opc (rd_ch T N y.2.1)) y) := by
        conv => lhs; unfold rd_loop
        rw [rd_if1 a]
      rw [el] at hz ⊢
      have hyN : y.2.1 < N := by
        by_cases hp : y.2.1 < N
        · exact hp
        · have g2 := a.2
          rw [rd_ch0 (by omega)] at g2; exact absurd g2 h32
      refine ih _ (fun hb => ⟨?_, hUN _ _ _ (by omega) hb⟩) hz
      exact rd_wf_b (hy a.1).1 (fun hu => hU _ _ _ (by omega) hu) hm hm0 rd_opc_b hb
    · have el : rd_loop T N sg U (k + 1) y = y := by
        unfold rd_loop
        rw [rd_if0 a]
      rw [el] at hz ⊢
      exact hy hz
end RW
