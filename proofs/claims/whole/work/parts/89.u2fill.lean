/-! The class counts what is filled. -/
def cleaf (μ : mm_M) : Int → Bool := fun c => decide (cinner μ c = 3)
def cheld (μ : mm_M) (l : Int) : Int → Bool := fun c => cleaf μ c && decide (csee μ c (l + 1).toNat ≠ -2147483648)
section FC
variable {d : Nat} {Q : am_Ou → am_G → Prop} {w : mm_Z} {μ : mm_M} {X : mm_X} {n : mm_N} {l c : Int}
theorem csee_b (hg : cg_r μ) (hc : 0 ≤ c ∧ c < 216) : ∀ k : Nat, k ≤ 3 → -2147483648 ≤ csee μ c k ∧ csee μ c k ≤ 2147483647 := by
  intro k
  induction k with
  | zero => intro _; exact ⟨Int.le_refl _, show (-2147483648 : Int) ≤ 2147483647 by decide⟩
  | succ k ih =>
    intro hk
    unfold csee
    split
    · exact ih (by omega)
    · exact hg.2 k c (by omega) (by omega) hc.1 hc.2
theorem c_34_26 (hq : mm_P w) (ht : ct_a μ) (hg : cg_r μ) (hl : 0 ≤ l ∧ l < 3) : ∀ (k i : Nat), i + k = 216 → (am_E (d + 3) 34 Q (26, [some (.ref 32), some (.int (Int32.ofInt (l))), some (.int (Int32.ofInt (cn (cleaf μ) i))), some (.int (Int32.ofInt (cn (cheld μ l) i))), some (.int (Int32.ofInt ((i : Int))))], [], mm_hp w μ X n) ↔ mm_shr Q w μ X n (cn (cheld μ l) 216) (cn (cleaf μ) 216)) := by
  intro k
  induction k with
  | zero =>
    intro i hi
    have : i = 216 := by omega
    subst this
    have ha := cn_b (P := cleaf μ) 216
    rw [b_34_26 hq, if_pos (by decide)]
    unfold mm_shr
    by_cases z : cn (cleaf μ) 216 = 0
    · rw [if_pos (by rw [z]), if_pos z]
    · rw [if_neg (by rw [mm_eqx, mm_wv (by omega) (by omega), mm_wv (by omega) (by omega)]; exact z), if_neg z]
  | succ k ih =>
    intro i hi
    have ha := cn_b (P := cleaf μ) i
    have hh := cn_b (P := cheld μ l) i
    have hb := csee_b hg (c := (i : Int)) (by omega) (l + 1).toNat (by omega)
    have i1 := ih (i + 1) (by omega)
    rw [show ((i + 1 : Nat) : Int) = (i : Int) + 1 by omega, cn_S, cn_S] at i1
    rw [b_34_26 hq, if_neg (by rw [mm_lex, mm_wv (by omega) (by omega), mm_wv (by omega) (by omega)]; omega), c_129 (d := d) hq ht (by omega) (by omega), bk_v, b_34_43 hq]
    by_cases z : cinner μ i = 3
    · have hf : cleaf μ i = true := decide_eq_true z
      rw [if_pos z, if_neg (by decide), c_82 (d := d + 2) hq hg (by omega) (by omega) (by omega) (by omega), bk_v, b_34_60 hq]
      rw [hf, if_pos rfl] at i1
      by_cases y : csee μ i (l + 1).toNat = -2147483648
      · have hf2 : cheld μ l i = false := by unfold cheld; rw [hf, decide_eq_false (fun q => q y)]; rfl
        rw [hf2, if_neg (by decide)] at i1
        rw [if_pos (by rw [y]), b_34_70 hq, b_34_72 hq]
        exact i1
      · have hf2 : cheld μ l i = true := by unfold cheld; rw [hf, decide_eq_true y]; rfl
        rw [hf2, if_pos rfl] at i1
        rw [if_neg (by rw [mm_eqx, mm_wv (by omega) (by omega), mm_wv (by omega) (by omega)]; exact y), b_34_70 hq, b_34_72 hq]
        exact i1
    · have hf : cleaf μ i = false := decide_eq_false z
      have hf2 : cheld μ l i = false := by unfold cheld; rw [hf, Bool.false_and]
      rw [hf, hf2, if_neg (by decide), Int.add_zero, Int.add_zero] at i1
      rw [if_neg z, if_pos rfl, b_34_72 hq]
      exact i1
theorem c_34 (hq : mm_P w) (ht : ct_a μ) (hg : cg_r μ) (h1 : -2147483648 ≤ l) (h2 : l ≤ 2147483647) : am_C (d + 4) 34 [.ref 32, .int (Int32.ofInt (l))] (mm_hp w μ X n) Q ↔ if ¬ (0 ≤ l ∧ l < μ 95 1) then mm_thr Q w μ X n 0 else mm_shr Q w μ X n (cn (cheld μ l) 216) (cn (cleaf μ) 216) := by
  have hl := hg.1
  rw [en_34 (d := d + 3), b_34_0 hq, c_79 (d := d + 2) hq h1 h2 hg, bk_v, b_34_8 hq]
  by_cases a : 0 ≤ l ∧ l < μ 95 1
  · rw [if_pos a, if_neg (by decide), if_neg (show ¬ ¬ (0 ≤ l ∧ l < μ 95 1) from fun q => q a)]
    exact c_34_26 hq ht hg (by omega) 216 0 (by decide)
  · rw [if_neg a, if_pos rfl, if_pos (show ¬ (0 ≤ l ∧ l < μ 95 1) from a)]
    rfl
end FC
