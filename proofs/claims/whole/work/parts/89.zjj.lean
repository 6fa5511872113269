/-! Spread: what the last step wants. -/
section SK
variable {μ μ' M : mm_M} {e m c v i l p b o : Int} {L L' V V' : Int → Int}
theorem cshm_c : ∀ k : Nat, (∀ j : Nat, j < k → L' j = L j ∧ V' j = V j) → cshm μ l L' V' k = cshm μ l L V k := by
  intro k
  induction k with
  | zero => intro _; rfl
  | succ k ih =>
    intro h
    have := h k (by omega)
    show mm_u (cshm μ l L' V' k) (mm_inr l) (L' k) (V' k) = mm_u (cshm μ l L V k) (mm_inr l) (L k) (V k)
    rw [ih (fun j hj => h j (by omega)), this.1, this.2]
theorem cshm_b : ∀ k : Nat, (∀ b, b < 129 → b ≠ 125 → b ≠ 126 → μ' b = μ b) → ∀ b, b < 129 → b ≠ 125 → b ≠ 126 → cshm μ' l L V k b = cshm μ l L V k b := by
  intro k h
  induction k with
  | zero => exact h
  | succ k ih =>
    intro b b0 b1 b2
    show mm_u (cshm μ' l L V k) (mm_inr l) (L k) (V k) b = mm_u (cshm μ l L V k) (mm_inr l) (L k) (V k) b
    funext j
    rw [mm_ux, mm_ux, ih b b0 b1 b2]
theorem rshm_E (h : Eqr M μ) : ∀ k : Nat, Eqr (rshm M L V k) (rshm μ L V k) := by
  intro k
  induction k with
  | zero => exact h
  | succ k ih => exact Eqr_chg ih
theorem rshm_o {a : Nat} (h : a ≠ 137) (h2 : a ≠ 138) (h3 : ¬ (158 ≤ a ∧ a ≤ 163)) : ∀ k : Nat, rshm μ L V k a = μ a := by
  intro k
  induction k with
  | zero => rfl
  | succ k ih =>
    show rchg (rshm μ L V k) (L k) 1 (V k) a = μ a
    rw [rchg_o h h2 h3, ih]
theorem sqp_c {W W' : Int → Int} {A s : Int} {k : Nat} (h : ∀ j : Int, 0 ≤ j → j < k → W' j = W j) : sqp p A s W' k = sqp p A s W k := by
  unfold sqp
  rw [tot_c (W := W') (V := W) _ 0 (fun j j0 j1 => h j j0 (by omega))]
/-- another cell's inputs are as before -/
theorem rchg_rwt {u : Nat} (hu : μ 129 38 = u + 1) (hl : 0 ≤ μ 157 u ∧ μ 157 u < 3) (h0 : 0 ≤ c ∧ c < 216) (ho : 0 ≤ o ∧ o < 216) (hco : c ≠ o) : rwt (rchg μ c b v) l o = rwt μ l o := by
  have e : μ 129 38 - 1 = (u : Int) := by omega
  have h7 : ∀ l' : Int, rchg μ c b v 137 (216 * l' + o) = μ 137 (216 * l' + o) := fun l' => by
    unfold rchg
    rw [e, mm_uu (by decide), mm_un (by omega), mm_uu (by decide), mm_uu (by decide), mm_uu (by decide), mm_uu (by decide), mm_uu (by decide), mm_uu (by decide)]
  have h8 : ∀ l' : Int, rchg μ c b v 138 (216 * l' + o) = μ 138 (216 * l' + o) := fun l' => by
    unfold rchg
    rw [e, mm_un (by omega), mm_uu (by decide), mm_uu (by decide), mm_uu (by decide), mm_uu (by decide), mm_uu (by decide), mm_uu (by decide), mm_uu (by decide)]
  have hlay : ∀ k : Nat, rlay (rchg μ c b v) o k = rlay μ o k := fun k => by
    induction k with
    | zero => rfl
    | succ k ih => unfold rlay; rw [h7, ih]
  unfold rwt
  rw [hlay, h8]
end SK
