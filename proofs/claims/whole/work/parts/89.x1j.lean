/-! The relation of both sides that every call keeps. -/
/-- an entry of a rule's code, as the class's rows f (kinds) and g (details) have it -/
def rd_leg (f g : Int → Int) (C : rd_C) (S : rd_S) (i : Nat) : Prop :=
  ((C.2 i).1 = 0 → f (rd_ph C i) = 5 ∧ g (rd_ph C i) = 1000 * (C.2 i).2.1)
  ∧ ((C.2 i).1 = 1 → (0 ≤ (C.2 i).2.1 ∧ 0 ≤ (C.2 i).2.2 ∧ (C.2 i).2.1 + (C.2 i).2.2 ≤ S.1) ∧ f (rd_ph C i) = 6 ∧ g (rd_ph C i) = (C.2 i).2.2 ∧ ∀ j : Nat, (j : Int) < (C.2 i).2.2 → f (rd_ph C i + 1 + j) = 7 ∧ g (rd_ph C i + 1 + j) = 10 * (S.2 ((C.2 i).2.1.toNat + j)).1 + (S.2 ((C.2 i).2.1.toNat + j)).2)
  ∧ (2 ≤ (C.2 i).1 → (C.2 i).1 ≤ 5 → f (rd_ph C i) = (C.2 i).1 - 1)
  ∧ ((C.2 i).1 = 6 → (C.2 i).2.1.toNat ≤ C.1 ∧ f (rd_ph C i) = 8 ∧ g (rd_ph C i) = rd_ph C (C.2 i).2.1.toNat)
  ∧ ((C.2 i).1 = 7 → (C.2 i).2.1.toNat ≤ C.1 ∧ f (rd_ph C i) = 9 ∧ g (rd_ph C i) = rd_ph C (C.2 i).2.1.toNat)
/-- code that makes sense -/
def rd_fok (C : rd_C) (S : rd_S) : Prop := 0 < C.1 ∧ rd_ph C C.1 ≤ 24 ∧ S.1 ≤ 24 ∧ (∀ j : Nat, j < S.1 → ∃ i, i < C.1 ∧ (C.2 i).1 = 1 ∧ (C.2 i).2.1 ≤ j ∧ (j : Int) < (C.2 i).2.1 + (C.2 i).2.2) ∧ ∃ h : Nat → Int, h 0 = 0 ∧ h C.1 = 1 ∧ (∀ i, i ≤ C.1 → 0 ≤ h i ∧ h i ≤ 9) ∧ rd_seg C S h 0 C.1
/-- the class's rule v holds the code -/
def rd_lyr (μ : mm_M) (v : Int) (C : rd_C) (S : rd_S) : Prop := μ (mm_rl v) 4 = rd_ph C C.1 ∧ ∀ i, i < C.1 → rd_leg (μ (mm_rl v + 3)) (μ (mm_rl v + 4)) C S i
/-- the formulas of both sides -/
def J_f (μ : mm_M) : Prop := ∀ r, 0 ≤ r → r < μ 129 11 → ∃ C S, rd_RC r μ C ∧ rd_RS r μ S ∧ rd_fok C S ∧ rd_lyr μ (μ 54 r) C S
section JF
variable {μ μ' : mm_M} {C : rd_C} {S : rd_S} {r v e m : Int} {N : ev_N} {h : Nat → Int}
theorem rd_leg_le {i : Nat} : rd_le μ C S i ↔ rd_leg (μ 105) (μ 106) C S i := Iff.rfl
theorem rd_fok_b (hf : rd_fok C S) : ∀ i, i < C.1 → (C.2 i).1 = 1 → 0 ≤ (C.2 i).2.2 := fun i hi g => by
  obtain ⟨-, -, -, -, h, -, -, -, hs⟩ := hf
  have := hs i (Nat.zero_le i) hi
  unfold rd_ok1 at this
  rcases this with z | z | z | z | z
  · omega
  · exact (by have := z.2.2.2.1; omega)
  · omega
  · omega
  · omega
theorem rd_fok_m (hf : rd_fok C S) {i j : Nat} (hi : i ≤ j) (hj : j ≤ C.1) : rd_ph C i + (j - i : Int) ≤ rd_ph C j := rd_ph_m (rd_fok_b hf) j hj i hi
theorem rd_fok_24 (hf : rd_fok C S) : C.1 ≤ 24 := by
  have := rd_fok_m hf (Nat.zero_le C.1) (Nat.le_refl _)
  have e : rd_ph C 0 = 0 := rfl
  have := hf.2.1
  omega
theorem sgc_sgd {s : Int} (h0 : 0 ≤ s) (h1 : s < 10) : sgc (sgd s) = s := by
  rcases (by omega : s = 0 ∨ s = 1 ∨ s = 2 ∨ s = 3 ∨ s = 4 ∨ s = 5 ∨ s = 6 ∨ s = 7 ∨ s = 8 ∨ s = 9) with rfl | rfl | rfl | rfl | rfl | rfl | rfl | rfl | rfl | rfl <;> rfl
theorem sgd_rsg {s : Int} (h0 : 0 ≤ s) (h1 : s < 10) : rsg (sgd s) := by
  unfold rsg
  rcases (by omega : s = 0 ∨ s = 1 ∨ s = 2 ∨ s = 3 ∨ s = 4 ∨ s = 5 ∨ s = 6 ∨ s = 7 ∨ s = 8 ∨ s = 9) with rfl | rfl | rfl | rfl | rfl | rfl | rfl | rfl | rfl | rfl <;> decide
theorem rd_code (hC : rd_RC r μ C) : (nv_code (rNv μ) r).length = C.1 ∧ ∀ i, i < C.1 → (nv_code (rNv μ) r)[i]? = some (C.2 i) := by
  have e : nv_code (rNv μ) r = (List.range (μ 141 r).toNat).map fun (i : Nat) => (μ 142 (64 * r + i), μ 143 (64 * r + i), μ 144 (64 * r + i)) := rfl
  have h1 : (μ 141 r).toNat = C.1 := by rw [hC.1]; omega
  rw [e, h1]
  refine ⟨by rw [List.length_map, List.length_range], fun i hi => ?_⟩
  rw [List.getElem?_map, List.getElem?_range hi, Option.map_some]
  obtain ⟨a, b, c⟩ := hC.2 i hi
  rw [a, b, c]
theorem rd_shl (hS : rd_RS r μ S) {a b : Int} (ha : 0 ≤ a) (hb : 0 ≤ b) (hab : a + b ≤ S.1) (hw : ∀ j : Nat, a ≤ j → (j : Int) < a + b → 0 ≤ (S.2 j).2 ∧ (S.2 j).2 < 10) : ((nv_sh (rNv μ) r a b).length : Int) = b ∧ ∀ (j : Nat) (s : Int × Int), (nv_sh (rNv μ) r a b)[j]? = some s → (j : Int) < b ∧ s = S.2 (a.toNat + j) := by
  have e : nv_sh (rNv μ) r a b = (List.range b.toNat).map fun (j : Nat) => (μ 146 (24 * r + a + j), sgc (μ 147 (24 * r + a + j))) := rfl
  rw [e]
  refine ⟨by rw [List.length_map, List.length_range]; omega, fun j s hs => ?_⟩
  by_cases hj : j < b.toNat
  · rw [List.getElem?_map, List.getElem?_range hj, Option.map_some] at hs
    have h1 := hS.2 (a.toNat + j) (by omega)
    have h2 := hw (a.toNat + j) (by omega) (by omega)
    have e2 : 24 * r + a + (j : Int) = 24 * r + ((a.toNat + j : Nat) : Int) := by omega
    rw [e2, h1.1, h1.2, sgc_sgd h2.1 h2.2] at hs
    cases hs
    exact ⟨by omega, rfl⟩
  · rw [List.getElem?_eq_none (by rw [List.length_map, List.length_range]; omega)] at hs
    cases hs
/-- the formula's stack never runs dry -/
theorem J_f_co (hf : rd_fok C S) (hC : rd_RC r μ C) (hS : rd_RS r μ S) : ∃ h, ev_co (rNv μ) r h := by
  have h24 := rd_fok_24 hf
  obtain ⟨f1, f2, f3, f4, h, a1, a2, a3, a4⟩ := hf
  obtain ⟨c1, c2⟩ := rd_code hC
  refine ⟨fun i => if i ≤ C.1 then h i else 0, ?_⟩
  have hle : ∀ i, i ≤ C.1 → (if i ≤ C.1 then h i else 0) = h i := fun i hi => if_pos hi
  refine ⟨by omega, ?_, ?_, fun i => ?_, fun i op a b hi => ?_⟩
  · show (if 0 ≤ C.1 then h 0 else 0) = 0
    rw [hle 0 (Nat.zero_le _)]; exact a1
  · show (if (nv_code (rNv μ) r).length ≤ C.1 then h (nv_code (rNv μ) r).length else 0) = 1
    rw [c1, hle C.1 (Nat.le_refl _)]; exact a2
  · show 0 ≤ (if i ≤ C.1 then h i else 0) ∧ (if i ≤ C.1 then h i else 0) ≤ 9
    split
    · exact a3 i (by assumption)
    · decide
  · have hlt : i < C.1 := by
      by_cases g : i < C.1
      · exact g
      · rw [List.getElem?_eq_none (by omega)] at hi; cases hi
    rw [c2 i hlt] at hi
    have hi : C.2 i = (op, a, b) := Option.some.inj hi
    have hs := a4 i (Nat.zero_le i) hlt
    unfold rd_ok1 at hs
    rw [hi] at hs
    dsimp only at hs ⊢
    rw [hle i (by omega), hle (i + 1) (by omega), c1]
    rcases hs with z | z | z | z | z
    · exact Or.inl z
    · refine Or.inr (Or.inl ⟨z.1, z.2.1, fun s hsm => ?_⟩)
      obtain ⟨r1, r2, r3, r4⟩ := z.2.2
      obtain ⟨l1, l2⟩ := rd_shl hS r1 (by omega) r3 (fun j j0 j1 => (r4 j j0 j1).1.2)
      obtain ⟨j, hj⟩ := List.getElem?_of_mem hsm
      obtain ⟨k1, rfl⟩ := l2 j s hj
      exact (r4 (a.toNat + j) (by omega) (by omega)).1
    · exact Or.inr (Or.inr (Or.inl z))
    · obtain ⟨z1, z2, z3, z4, z5, z6, z7, z8⟩ := z
      refine Or.inr (Or.inr (Or.inr (Or.inl ⟨z1, z2, z3, z4, z5, ?_, ?_⟩)))
      · rw [hle _ (by omega)]; exact z6
      · rw [hle _ (by omega)]; exact z7
    · obtain ⟨z1, z2, z3⟩ := z
      refine Or.inr (Or.inr (Or.inr (Or.inr ⟨z1, z2, ?_⟩)))
      rw [hle _ (by omega)]; exact z3
/-- the class's rows say what the reference's orders say -/
theorem J_f_ce (hf : rd_fok C S) (hC : rd_RC r μ C) (hS : rd_RS r μ S) (hl : rd_lyr μ v C S) : ce_co μ v (rNv μ) r := by
  have hmono := fun i j h1 h2 => rd_fok_m (i := i) (j := j) hf h1 h2
  obtain ⟨f1, f2, f3, f4, h, a1, a2, a3, a4⟩ := hf
  obtain ⟨c1, c2⟩ := rd_code hC
  refine ⟨fun i => rd_ph C i, rfl, ?_, by rw [hl.1]; exact f2, fun i j h1 h2 => ?_, fun i op a b hi => ?_⟩
  · show rd_ph C (nv_code (rNv μ) r).length = _
    rw [c1, hl.1]
  · rw [c1] at h2
    have := hmono i j (by omega) h2
    show rd_ph C i < rd_ph C j
    omega
  · have hlt : i < C.1 := by
      by_cases g : i < C.1
      · exact g
      · rw [List.getElem?_eq_none (by omega)] at hi; cases hi
    rw [c2 i hlt] at hi
    have hi : C.2 i = (op, a, b) := Option.some.inj hi
    have hs := a4 i (Nat.zero_le i) hlt
    have hb := hl.2 i hlt
    unfold rd_ok1 at hs
    unfold rd_leg at hb
    rw [hi] at hs hb
    dsimp only at hs hb ⊢
    have e1 : rd_ph C (i + 1) = rd_ph C i + 1 + (if (C.2 i).1 = 1 then (C.2 i).2.2 else 0) := rfl
    rw [hi] at e1
    dsimp only at e1
    obtain ⟨b0, b1, b2, b6, b7⟩ := hb
    refine ⟨fun g => ?_, fun g => ?_, fun g => ?_, fun g => ?_, fun g => ?_⟩
    · rw [if_neg (by omega)] at e1
      exact ⟨(b0 g).1, (b0 g).2, by omega⟩
    · rw [if_pos g] at e1
      have z : rd_rf S a b := by
        rcases hs with z | z | z | z | z
        · omega
        · exact z.2.2
        · omega
        · omega
        · omega
      obtain ⟨r1, r2, r3, r4⟩ := z
      obtain ⟨l1, l2⟩ := rd_shl hS r1 (by omega) r3 (fun j j0 j1 => (r4 j j0 j1).1.2)
      obtain ⟨-, k2, k3, k4⟩ := b1 g
      refine ⟨k2, by rw [k3, l1], by rw [e1, l1], fun j s hs => ?_⟩
      obtain ⟨m1, rfl⟩ := l2 j s hs
      rw [(k4 j m1).2]
      omega
    · rw [if_neg (by omega)] at e1
      exact ⟨b2 g.1 g.2, by omega⟩
    · rw [if_neg (by omega)] at e1
      have z : ((i : Int) < a ∧ a ≤ (C.1 : Int)) ∧ C.2 (a.toNat - 1) = (7, b, 0) ∧ ((i : Int) < b ∧ b ≤ (C.1 : Int)) := by
        rcases hs with z | z | z | z | z
        · omega
        · omega
        · omega
        · exact ⟨z.2.2.2.1, z.2.2.2.2.2.2.2, z.2.2.2.2.1⟩
        · omega
      have ha7 := hl.2 (a.toNat - 1) (by omega)
      unfold rd_leg at ha7
      rw [z.2.1] at ha7
      have h7 := ha7.2.2.2.2 rfl
      have e3 : rd_ph C (a.toNat - 1 + 1) = rd_ph C (a.toNat - 1) + 1 + (if (C.2 (a.toNat - 1)).1 = 1 then (C.2 (a.toNat - 1)).2.2 else 0) := rfl
      rw [z.2.1, if_neg (show ¬ (7 : Int) = 1 by decide), show a.toNat - 1 + 1 = a.toNat by omega] at e3
      refine ⟨(b6 g).2.1, (b6 g).2.2, ?_, by omega⟩
      rw [show rd_ph C a.toNat - 1 = rd_ph C (a.toNat - 1) by omega]
      exact h7.2.2
    · rw [if_neg (by omega)] at e1
      exact ⟨(b7 g).2.1, (b7 g).2.2, by omega⟩
theorem J_f_k (hf : J_f μ) : J_k μ := fun r h0 h1 => by
  obtain ⟨C, S, hC, hS, hk, hl⟩ := hf r h0 h1
  exact ⟨J_f_co hk hC hS, J_f_ce hk hC hS hl⟩
/-- orders of the reference in range -/
theorem J_f_o (hf : J_f μ) : (∀ r, 0 ≤ r → r < μ 129 11 → (0 ≤ μ 141 r ∧ μ 141 r ≤ 24) ∧ ∀ i, 0 ≤ i → i < μ 141 r → rA_o μ r i) ∧ rA_l μ := by
  have key : ∀ r, 0 ≤ r → r < μ 129 11 → (0 ≤ μ 141 r ∧ μ 141 r ≤ 24) ∧ ∀ i, 0 ≤ i → i < μ 141 r → rA_o μ r i ∧ (μ 142 (64 * r + i) = 1 → ∀ j, 24 * r + μ 143 (64 * r + i) ≤ j → j + 1 < 24 * r + μ 143 (64 * r + i) + μ 144 (64 * r + i) → μ 147 j ≠ 36) := by
    intro r h0 h1
    obtain ⟨C, S, hC, hS, hk, hl⟩ := hf r h0 h1
    have h24 := rd_fok_24 hk
    obtain ⟨f1, f2, f3, f4, h, a1, a2, a3, a4⟩ := hk
    refine ⟨by rw [hC.1]; omega, fun i i0 i1 => ?_⟩
    obtain ⟨m, rfl⟩ : ∃ m : Nat, i = m := ⟨i.toNat, by omega⟩
    rw [hC.1] at i1
    obtain ⟨e1, e2, e3⟩ := hC.2 m (by omega)
    have hs := a4 m (Nat.zero_le m) (by omega)
    unfold rd_ok1 at hs
    unfold rA_o
    rw [e1, e2, e3]
    have hR : (C.2 m).1 = 1 → rd_rf S (C.2 m).2.1 (C.2 m).2.2 := fun g => by
      rcases hs with z | z | z | z | z
      · omega
      · exact z.2.2
      · omega
      · omega
      · omega
    have hj : ∀ (g : (C.2 m).1 = 1) (j : Int), 24 * r + (C.2 m).2.1 ≤ j → j < 24 * r + (C.2 m).2.1 + (C.2 m).2.2 → ∃ q : Nat, j = 24 * r + q ∧ (C.2 m).2.1 ≤ q ∧ (q : Int) < (C.2 m).2.1 + (C.2 m).2.2 ∧ μ 146 j = (S.2 q).1 ∧ μ 147 j = sgd (S.2 q).2 := fun g j j0 j1 => by
      obtain ⟨r1, r2, r3, r4⟩ := hR g
      obtain ⟨q, hq⟩ : ∃ q : Nat, j = 24 * r + q := ⟨(j - 24 * r).toNat, by omega⟩
      have := hS.2 q (by omega)
      rw [hq]
      exact ⟨q, rfl, by omega, by omega, this⟩
    refine ⟨⟨by omega, fun g => ?_, fun g => ?_, fun g => ⟨?_, fun g2 => ?_⟩⟩, fun g j j0 j1 => ?_⟩
    · rcases hs with z | z | z | z | z
      · exact z.2.1
      · omega
      · omega
      · omega
      · omega
    · obtain ⟨r1, r2, r3, r4⟩ := hR g
      refine ⟨⟨r1, r2, by omega⟩, fun j j0 j1 => ?_⟩
      obtain ⟨q, -, q1, q2, q3, q4⟩ := hj g j j0 j1
      have := (r4 q q1 q2).1
      rw [q3, q4]
      exact ⟨this.1, sgd_rsg this.2.1 this.2.2⟩
    · rcases hs with z | z | z | z | z <;> omega
    · rcases hs with z | z | z | z | z <;> omega
    · obtain ⟨r1, r2, r3, r4⟩ := hR g
      obtain ⟨q, q0, q1, q2, q3, q4⟩ := hj g j j0 (by omega)
      have := r4 q q1 q2
      rw [q4]
      intro hh
      have h9 : (S.2 q).2 = 9 := by
        rcases (by have := this.1.2; omega : (S.2 q).2 = 9 ∨ ((S.2 q).2 = 6 ∨ (S.2 q).2 = 7 ∨ (S.2 q).2 = 8) ∨ (0 ≤ (S.2 q).2 ∧ (S.2 q).2 ≤ 5)) with z | z | z
        · exact z
        · rcases z with z | z | z <;> rw [z] at hh <;> exact absurd hh (by decide)
        · unfold sgd at hh
          rw [if_neg (by omega), if_neg (by omega), if_neg (by omega), if_neg (by omega)] at hh
          omega
      have := this.2 h9
      omega
  exact ⟨fun r h0 h1 => ⟨(key r h0 h1).1, fun i i0 i1 => ((key r h0 h1).2 i i0 i1).1⟩, fun r h0 h1 i i0 i1 => ((key r h0 h1).2 i i0 i1).2⟩
/-- what both readers leave behind a formula -/
theorem rd_fok_r {T : Nat → Int} {k : Nat} (hN : k ≤ 24) (h : (rd_F T k 3 0 rd_C0 rd_S0).1 = true) : rd_fok (rd_F T k 3 0 rd_C0 rd_S0).2.2.1 (rd_F T k 3 0 rd_C0 rd_S0).2.2.2 := by
  obtain ⟨g1, g2, g3, g4, g5, g6, g7⟩ := (rd_wf_F (T := T) hN 3).1 0 rd_C0 rd_S0 (Nat.zero_le _) h
  have hle := (rd_wf_F (T := T) hN 3).2 0 rd_C0 rd_S0 (Nat.zero_le _) h
  obtain ⟨hh, a1, a2, a3, a4⟩ := g7 0 (Int.le_refl _)
  have e0 : rd_ph rd_C0 rd_C0.1 = 0 := rfl
  have e1 : rd_C0.1 = 0 := rfl
  have e2 : rd_S0.1 = 0 := rfl
  rw [e1] at a1 a3 a4
  refine ⟨by omega, by omega, by omega, fun j hj => ?_, hh, a1, by rw [a2]; decide, fun i hi => ?_, a4⟩
  · obtain ⟨i, i1, i2⟩ := g6 j (by omega) hj
    exact ⟨i, i2⟩
  · have := a3 i (Nat.zero_le i) hi
    omega
end JF
