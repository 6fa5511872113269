/-! Spread: both sides list the same cells. -/
section SE
variable {μ : mm_M} {e m c v i l x y z o : Int} {f g : Int → List Int} {h : Int → Int}
theorem ls_map : ∀ (k : Nat) (i : Int), (ls f k i).map h = ls (fun j => (f j).map h) k i := by
  intro k
  induction k with
  | zero => intro i; rfl
  | succ k ih =>
    intro i
    show (f i ++ ls f k (i + 1)).map h = (f i).map h ++ ls (fun j => (f j).map h) k (i + 1)
    rw [List.map_append, ih]
theorem ls_nil : ∀ (k : Nat) (i : Int), (∀ j, i ≤ j → j < i + k → f j = []) → ls f k i = [] := by
  intro k
  induction k with
  | zero => intro i _; rfl
  | succ k ih =>
    intro i h
    show f i ++ ls f k (i + 1) = []
    rw [h i (by omega) (by omega), ih (i + 1) (fun j j0 j1 => h j (by omega) (by omega))]
    rfl
/-- places behind the last leaf add nothing -/
theorem ls_cut {a b : Nat} (hab : a ≤ b) (h : ∀ j, (a : Int) ≤ j → j < b → f j = []) : ls f b 0 = ls f a 0 := by
  obtain ⟨d, rfl⟩ : ∃ d, b = a + d := ⟨b - a, by omega⟩
  rw [ls_add, ls_nil d _ (fun j j0 j1 => h j (by omega) (by omega)), List.append_nil]
theorem ls_sh : ∀ (k : Nat) (i s : Int), ls f k (i + s) = ls (fun j => f (j + s)) k i := by
  intro k
  induction k with
  | zero => intro i s; rfl
  | succ k ih =>
    intro i s
    show f (i + s) ++ ls f k (i + s + 1) = f (i + s) ++ ls (fun j => f (j + s)) k (i + 1)
    rw [show i + s + 1 = i + 1 + s by omega, ih]
/-- a list over a * b places, row by row -/
theorem ls_mul (b : Nat) : ∀ (a : Nat) (i : Int), ls f (b * a) (b * i) = ls (fun x => ls (fun y => f (y + b * x)) b 0) a i := by
  intro a
  induction a with
  | zero => intro i; rfl
  | succ a ih =>
    intro i
    rw [Nat.mul_succ, Nat.add_comm, ls_add]
    show _ = ls (fun y => f (y + b * i)) b 0 ++ ls (fun x => ls (fun y => f (y + b * x)) b 0) a (i + 1)
    rw [← ih (i + 1), show (b : Int) * i + b = b * (i + 1) by rw [Int.mul_add, Int.mul_one], ← ls_sh, Int.zero_add]
theorem J_rl (hJ : J μ) : rl_r μ := by
  intro e e0 e1
  obtain ⟨t1, t2, t3, t4, t5, t6⟩ := hJ.1 e e0 e1
  obtain ⟨k1, k2, k3⟩ := fo_Lin t3.1
  refine ⟨by rw [t3.2.2.1]; omega, fun j j0 j1 => ?_⟩
  rw [t3.2.2.1] at j1
  have hlt : j.toNat < (fo_L (rp μ e)).length := by omega
  rw [t3.2.2.2 j j0 j1, List.getD_eq_getElem?_getD, List.getElem?_eq_getElem hlt]
  have := (k2 _).mp (List.getElem_mem hlt)
  exact ⟨this.1.1, this.1.2.1⟩
/-- the class's leaf at a place is the reference's -/
theorem J_clf (hJ : J μ) (he : 0 ≤ e ∧ e < 3) (hp : 0 ≤ x) : clf μ e x = if μ 134 e ≤ x then -1 else μ 133 (6 * e + x) := by
  obtain ⟨t1, t2, t3, t4, t5, t6⟩ := hJ.1 e he.1 he.2
  have hL : fo_L (μ (mm_tr e + 1)) = fo_L (rp μ e) := ag_L t4
  unfold clf
  rw [t1.2.1, hL, t3.2.2.1]
  by_cases z : ((fo_L (rp μ e)).length : Int) ≤ x
  · rw [if_pos z, if_pos z]
  · rw [if_neg z, if_neg z, t1.2.2.1 x hp (by rw [hL]; omega), hL, t3.2.2.2 x hp (by omega)]
theorem J_cwt (hJ : J μ) (hl : 0 ≤ l ∧ l < μ 95 1) (hc : 0 ≤ c ∧ c < 216) : cwt μ l (cc c) = rwt μ l c := by
  have h3 := (J_cg1 hJ).1
  have hlt := rlay_lt (μ := μ) (c := c) (l + 1).toNat
  unfold cwt rwt
  rw [csee_lay hJ.2.2.1 hc _ (by omega)]
  by_cases q : 0 ≤ rlay μ c (l + 1).toNat
  · have := (hJ.2.2.1.2.1 (216 * rlay μ c (l + 1).toNat + c) (by omega) (by omega)).2
    rw [if_pos q, if_neg (by omega), if_pos q]
  · rw [if_neg q, if_pos rfl, if_neg q]
end SE
