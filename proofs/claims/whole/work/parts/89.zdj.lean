/-! Spread: both sides list the same cells. -/
section SE
variable {μ : mm_M} {e m c v i l x y z o : Int} {f g : Int → List Int} {h : Int → Int}
theorem ls_map : ∀ (k : Nat) (i : Int), (ls f k i).map h = ls (fun j => (f j).map h) k i := by
  intro k
  induction k with
  | zero => intro i; rfl
  | succ k ih =>
    intro i
    show (f i ++ ls f k (i + 1)).map h = (f i).map h ++ ls (fun j => (f j).map h) k (i + 1)
    rw [List.map_append, ih]
theorem ls_nil : ∀ (k : Nat) (i : Int), (∀ j, i ≤ j → j < i + k → f j = []) → ls f k i = [] := by
  intro k
  induction k with
  | zero => intro i _; rfl
  | succ k ih =>
    intro i h
    show f i ++ ls f k (i + 1) = []
    rw [h i (by omega) (by omega), ih (i + 1) (fun j j0 j1 => h j (by omega) (by omega))]
    rfl
/-- places behind the last leaf add nothing -/
theorem ls_cut {a b : Nat} (hab : a ≤ b) (h : ∀ j, (a : Int) ≤ j → j < b → f j = []) : ls f b 0 = ls f a 0 := by
  obtain ⟨d, rfl⟩ : ∃ d, b = a + d := ⟨b - a, by omega⟩
  rw [ls_add, ls_nil d _ (fun j j0 j1 => h j (by omega) (by omega)), List.append_nil]
theorem ls_sh : ∀ (k : Nat) (i s : Int), ls f k (i + s) = ls (fun j => f (j + s)) k i := by
  intro k
  induction k with
  | zero => intro i s; rfl
  | succ k ih =>
    intro i s
    show f (i + s) ++ ls f k (i + s + 1) = f (i + s) ++ ls (fun j => f (j + s)) k (i + 1)
    rw [show i + s + 1 = i + 1 + s by omega, ih]
/-- a list over a * b places, row by row -/
theorem ls_mul (b : Nat) : ∀ (a : Nat) (i : Int), ls f (b * a) (b * i) = ls (fun x => ls (fun y => f (y + b * x)) b 0) a i := by
  intro a
  induction a with
  | zero => intro i; rfl
  | succ a ih =>
    intro i
    rw [Nat.mul_succ, Nat.add_comm, ls_add]
    show _ = ls (fun y => f (y + b * i)) b 0 ++ ls (fun x => ls (fun y => f (y + b * x)) b 0) a (i + 1)
    rw [← ih (i + 1), show (b : Int) * i + b = b * (i + 1) by rw [Int.mul_add, Int.mul_one], ← ls_sh, Int.zero_add]
theorem J_rl (hJ : J μ) : rl_r μ := by
  intro e e0 e1
  obtain ⟨t1, t2, t3, t4, t5, t6⟩ := hJ.1 e e0 e1
  obtain ⟨k1, k2, k3⟩ := fo_Lin t3.1
  refine ⟨by rw [t3.2.2.1]; omega, fun j j0 j1 => ?_⟩
  rw [t3.2.2.1] at j1
  have hlt : j.toNat < (fo_L (rp μ e)).length := by omega
  rw [t3.2.2.2 j j0 j1, List.getD_eq_getElem?_getD, List.getElem?_eq_getElem hlt]
  have := (k2 _).mp (List.getElem_mem hlt)
  exact ⟨this.1.1, this.1.2.1⟩
/-- the class's leaf at a place is the reference's -/
theorem J_clf (hJ : J μ) (he : 0 ≤ e ∧ e < 3) (hp : 0 ≤ x) : clf μ e x = if μ 134 e ≤ x then -1 else μ 133 (6 * e + x) := by
  obtain ⟨t1, t2, t3, t4, t5, t6⟩ := hJ.1 e he.1 he.2
  have hL : fo_L (μ (mm_tr e + 1)) = fo_L (rp μ e) := ag_L t4
  unfold clf
  rw [t1.2.1, hL, t3.2.2.1]
  by_cases z : ((fo_L (rp μ e)).length : Int) ≤ x
  · rw [if_pos z, if_pos z]
  · rw [if_neg z, if_neg z, t1.2.2.1 x hp (by rw [hL]; omega), hL, t3.2.2.2 x hp (by omega)]
theorem J_cwt (hJ : J μ) (hl : 0 ≤ l ∧ l < μ 95 1) (hc : 0 ≤ c ∧ c < 216) : cwt μ l (cc c) = rwt μ l c := by
  have h3 := (J_cg1 hJ).1
  have hlt := rlay_lt (μ := μ) (c := c) (l + 1).toNat
  unfold cwt rwt
  rw [csee_lay hJ.2.2.1 hc _ (by omega)]
  by_cases q : 0 ≤ rlay μ c (l + 1).toNat
  · have := (hJ.2.2.1.2.1 (216 * rlay μ c (l + 1).toNat + c) (by omega) (by omega)).2
    rw [if_pos q, if_neg (by omega), if_pos q]
  · rw [if_neg q, if_pos rfl, if_neg q]
theorem J_o3 (hJ : J μ) (ho : 0 ≤ rhere μ) (he : 0 ≤ e ∧ e < 3) : rpart (rhere μ) e = μ 128 e ∧ (0 ≤ μ 128 e ∧ μ 128 e < 6) ∧ rp μ e (μ 128 e) ≠ -2 := by
  have hc := hJ.2.2.2.2.2.1
  have c0 := hc 0 (by decide) (by decide)
  have c1 := hc 1 (by decide) (by decide)
  have c2 := hc 2 (by decide) (by decide)
  unfold rhere at ho ⊢
  split at ho
  · rename_i h
    rw [if_pos h]
    rw [c0.2, c1.2, c2.2] at h ⊢
    have r := J_rt hJ
    rcases (by omega : e = 0 ∨ e = 1 ∨ e = 2) with rfl | rfl | rfl
    · refine ⟨by show (μ 128 0 + 6 * μ 128 1 + 36 * μ 128 2) % 6 = μ 128 0; omega, c0.1, ?_⟩
      exact (rp_th (r 0 (by decide) (by decide)) c0.1.1 c0.1.2).mpr (by rw [show (6 : Int) * 0 + μ 128 0 = μ 128 0 by omega]; exact h.1)
    · refine ⟨by show (μ 128 0 + 6 * μ 128 1 + 36 * μ 128 2) / 6 % 6 = μ 128 1; omega, c1.1, ?_⟩
      exact (rp_th (r 1 (by decide) (by decide)) c1.1.1 c1.1.2).mpr (by rw [show (6 : Int) * 1 + μ 128 1 = 6 + μ 128 1 by omega]; exact h.2.1)
    · refine ⟨by show (μ 128 0 + 6 * μ 128 1 + 36 * μ 128 2) / 36 = μ 128 2; omega, c2.1, ?_⟩
      exact (rp_th (r 2 (by decide) (by decide)) c2.1.1 c2.1.2).mpr (by rw [show (6 : Int) * 2 + μ 128 2 = 12 + μ 128 2 by omega]; exact h.2.2)
  · omega
/-- both sides say alike whether a cell lies within the cursor's -/
theorem J_am1 (hJ : J μ) (ho : 0 ≤ rhere μ) (he : 0 ≤ e ∧ e < 3) (hm : 0 ≤ m ∧ m < 6) : sp_in (μ (mm_tr e + 1)) (μ 128 e) 6 m = true ↔ (μ 130 (6 * e + m) ≠ 0 ∧ rt_u (rq μ e) (rpart (rhere μ) e) 6 m = rpart (rhere μ) e) := by
  obtain ⟨o1, o2, o3⟩ := J_o3 hJ ho he
  have ht := hJ.1 e he.1 he.2
  have hth := rp_th (J_rt hJ e he.1 he.2) hm.1 hm.2
  rw [o1]
  by_cases z : rp μ e m = -2
  · have h1 : ¬ sp_in (μ (mm_tr e + 1)) (μ 128 e) 6 m = true := fun q => by
      have hne : m ≠ μ 128 e := fun y => o3 (by rw [← y]; exact z)
      have hp : μ (mm_tr e + 1) m = -2 := by rw [ht.2.2.2.1 m hm.1 hm.2]; exact z
      unfold sp_in at q
      rw [if_neg (by omega), if_neg hne, hp] at q
      unfold sp_in at q
      rw [if_pos (by decide)] at q
      exact absurd q (by decide)
    exact ⟨fun q => absurd q h1, fun q => absurd z (hth.mpr q.1)⟩
  · rw [← J_in hJ.1 he hm.1 hm.2 z o2.1]
    exact ⟨fun q => ⟨hth.mp z, q⟩, fun q => q.2⟩
theorem J_ramg (hJ : J μ) (ho : 0 ≤ rhere μ) (hc : 0 ≤ c ∧ c < 216) : cin μ (cc c) = ramg μ c (rhere μ) := by
  have b := fun e => rpart_b (e := e) hc.1 hc.2
  have h : ∀ e, 0 ≤ e ∧ e < 3 → cin1 μ (cc c) e = ramg1 μ c (rhere μ) e := fun e he => by
    refine Bool.eq_iff_iff.mpr ?_
    unfold cin1 ramg1
    rw [cc_p hc.1 hc.2, decide_eq_true_iff]
    exact J_am1 hJ ho he (b e)
  unfold cin ramg
  rw [h 0 (by decide), h 1 (by decide), h 2 (by decide)]
/-- both sides list the same leaf cells -/
theorem J_cgs (hJ : J μ) (ho : 0 ≤ rhere μ) : cgs μ = (rsps μ (rhere μ)).map cc := by
  have hl := J_rl hJ
  have n0 := (hl 0 (by decide) (by decide)).1
  have n1 := (hl 1 (by decide) (by decide)).1
  have n2 := (hl 2 (by decide) (by decide)).1
  have e0 : ∀ x, 0 ≤ x → clf μ 0 x = if μ 134 0 ≤ x then -1 else μ 133 x := fun x hx => by have := J_clf hJ (e := 0) (by decide) hx; rw [show (6 : Int) * 0 + x = x by omega] at this; exact this
  have e1 : ∀ x, 0 ≤ x → clf μ 1 x = if μ 134 1 ≤ x then -1 else μ 133 (6 + x) := fun x hx => by have := J_clf hJ (e := 1) (by decide) hx; rw [show (6 : Int) * 1 + x = 6 + x by omega] at this; exact this
  have e2 : ∀ x, 0 ≤ x → clf μ 2 x = if μ 134 2 ≤ x then -1 else μ 133 (12 + x) := fun x hx => by have := J_clf hJ (e := 2) (by decide) hx; rw [show (6 : Int) * 2 + x = 12 + x by omega] at this; exact this
  have pt : ∀ x y z, 0 ≤ x → x < 6 → 0 ≤ y → y < 6 → 0 ≤ z → z < 6 → cgt μ (z + 6 * y + 36 * x) = if x < μ 134 0 ∧ y < μ 134 1 ∧ z < μ 134 2 then (rsp1 μ (rhere μ) x y z).map cc else [] := fun x y z x0 x1 y0 y1 z0 z1 => by
    have c0 : cpart (z + 6 * y + 36 * x) 0 = x := by show (z + 6 * y + 36 * x) / 36 = x; omega
    have c1 : cpart (z + 6 * y + 36 * x) 1 = y := by show (z + 6 * y + 36 * x) / 6 % 6 = y; omega
    have c2 : cpart (z + 6 * y + 36 * x) 2 = z := by show (z + 6 * y + 36 * x) % 6 = z; omega
    have ecl : cla μ (z + 6 * y + 36 * x) = if x < μ 134 0 ∧ y < μ 134 1 ∧ z < μ 134 2 then 36 * μ 133 x + 6 * μ 133 (6 + y) + μ 133 (12 + z) else -1 := by
      unfold cla
      rw [c0, c1, c2, e0 x x0, e1 y y0, e2 z z0]
      by_cases a : x < μ 134 0
      · have v0 := (hl 0 (by decide) (by decide)).2 x x0 a
        rw [show (6 : Int) * 0 + x = x by omega] at v0
        rw [if_neg (show ¬ μ 134 0 ≤ x by omega), if_neg (show ¬ μ 133 x < 0 by omega)]
        by_cases b : y < μ 134 1
        · have v1 := (hl 1 (by decide) (by decide)).2 y y0 b
          rw [show (6 : Int) * 1 + y = 6 + y by omega] at v1
          rw [if_neg (show ¬ μ 134 1 ≤ y by omega), if_neg (show ¬ μ 133 (6 + y) < 0 by omega)]
          by_cases c : z < μ 134 2
          · have v2 := (hl 2 (by decide) (by decide)).2 z z0 c
            rw [show (6 : Int) * 2 + z = 12 + z by omega] at v2
            rw [if_neg (show ¬ μ 134 2 ≤ z by omega), if_neg (show ¬ μ 133 (12 + z) < 0 by omega), if_pos ⟨a, b, c⟩]
          · rw [if_pos (show μ 134 2 ≤ z by omega), if_pos (by decide), if_neg (fun q => c q.2.2)]
        · rw [if_pos (show μ 134 1 ≤ y by omega), if_pos (by decide), if_neg (fun q => b q.2.1)]
      · rw [if_pos (show μ 134 0 ≤ x by omega), if_pos (by decide), if_neg (fun q => a q.1)]
    unfold cgt
    rw [ecl]
    by_cases a : x < μ 134 0 ∧ y < μ 134 1 ∧ z < μ 134 2
    · have v0 := (hl 0 (by decide) (by decide)).2 x x0 a.1
      have v1 := (hl 1 (by decide) (by decide)).2 y y0 a.2.1
      have v2 := (hl 2 (by decide) (by decide)).2 z z0 a.2.2
      rw [show (6 : Int) * 0 + x = x by omega] at v0
      rw [show (6 : Int) * 1 + y = 6 + y by omega] at v1
      rw [show (6 : Int) * 2 + z = 12 + z by omega] at v2
      rw [if_pos a, if_pos a]
      unfold rsp1
      have ecc : cc (μ 133 x + 6 * μ 133 (6 + y) + 36 * μ 133 (12 + z)) = 36 * μ 133 x + 6 * μ 133 (6 + y) + μ 133 (12 + z) := by
        generalize μ 133 x = u at *
        generalize μ 133 (6 + y) = v at *
        generalize μ 133 (12 + z) = t at *
        unfold cc
        omega
      have hin := J_ramg hJ ho (c := μ 133 x + 6 * μ 133 (6 + y) + 36 * μ 133 (12 + z)) (by omega)
      rw [ecc] at hin
      rw [hin]
      by_cases q : ramg μ (μ 133 x + 6 * μ 133 (6 + y) + 36 * μ 133 (12 + z)) (rhere μ) = true
      · rw [if_pos q, if_pos ⟨by omega, q⟩, List.map_singleton, ecc]
      · rw [if_neg q, if_neg (fun t => q t.2)]
        rfl
    · rw [if_neg a, if_neg a, if_neg (fun q => absurd q.1 (by decide))]
  have h1 : cgs μ = ls (fun x => ls (fun y => ls (fun z => cgt μ (z + 6 * y + 36 * x)) 6 0) 6 0) 6 0 := by
    have m1 := ls_mul (f := cgt μ) 36 6 0
    unfold cgs
    rw [show (216 : Nat) = 36 * 6 from rfl, show (0 : Int) = ((36 : Nat) : Int) * 0 from rfl, m1]
    refine ls_c 6 0 fun x x0 x1 => ?_
    have m2 := ls_mul (f := fun y => cgt μ (y + ((36 : Nat) : Int) * x)) 6 6 0
    rw [show (36 : Nat) = 6 * 6 from rfl, show (0 : Int) = ((6 : Nat) : Int) * 0 from rfl]
    exact m2
  rw [h1]
  unfold rsps
  rw [ls_map, ls_cut (a := (μ 134 0).toNat) (by omega)]
  · refine ls_c _ 0 fun x x0 x1 => ?_
    unfold rspy
    rw [ls_map, ls_cut (a := (μ 134 1).toNat) (by omega)]
    · refine ls_c _ 0 fun y y0 y1 => ?_
      unfold rspz
      rw [ls_map, ls_cut (a := (μ 134 2).toNat) (by omega)]
      · refine ls_c _ 0 fun z z0 z1 => ?_
        rw [pt x y z x0 (by omega) y0 (by omega) z0 (by omega), if_pos ⟨by omega, by omega, by omega⟩]
      · intro z z0 z1
        rw [pt x y z x0 (by omega) y0 (by omega) (by omega) z1, if_neg (by omega)]
    · intro y y0 y1
      refine ls_nil 6 0 fun z z0 z1 => ?_
      rw [pt x y z x0 (by omega) (by omega) y1 z0 (by omega), if_neg (by omega)]
  · intro x x0 x1
    refine ls_nil 6 0 fun y y0 y1 => ls_nil 6 0 fun z z0 z1 => ?_
    rw [pt x y z (by omega) x1 y0 (by omega) z0 (by omega), if_neg (by omega)]
end SE
