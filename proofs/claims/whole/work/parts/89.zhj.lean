/-! Spread: the relation, cell by cell. -/
def rshm (μ : mm_M) (L V : Int → Int) : Nat → mm_M
  | 0 => μ
  | k + 1 => rchg (rshm μ L V k) (L k) 1 (V k)
section SJ
variable {μ : mm_M} {e m c v i l p b : Int} {L V : Int → Int}
theorem rchg_158 {u : Nat} (hu : μ 129 38 = u + 1) : rchg μ c b v 158 u = μ 158 u + 1 ∧ rchg μ c b v 159 (216 * u + μ 158 u) = c ∧ ∀ k, k ≠ 216 * u + μ 158 u → rchg μ c b v 159 k = μ 159 k := by
  have e : μ 129 38 - 1 = (u : Int) := by omega
  unfold rchg
  rw [e]
  refine ⟨?_, ?_, fun k hk => ?_⟩
  · simp only [mm_ux]
    simp
  · simp only [mm_ux]
    simp
  · simp only [mm_ux]
    simp [hk]
theorem J_shm (hJ : J μ) (hl : 0 ≤ l ∧ l < μ 95 1) {t : Nat} (ht : t ≤ 216) (hL : ∀ j : Nat, j < t → 0 ≤ L j ∧ L j < 216) (hd : ∀ i j : Nat, i < j → j < t → L i ≠ L j) (hV : ∀ j : Nat, j < t → -2000000000 ≤ V j ∧ V j ≤ 2000000000) : ∃ u : Nat, ∀ k : Nat, k ≤ t → J (asm (cshm (chk μ l) l (fun j => cc (L j)) V k) (rshm (rnewE μ l) L V k)) ∧ rshm (rnewE μ l) L V k 129 38 = u + 1 ∧ rshm (rnewE μ l) L V k 129 37 = u + 1 ∧ rshm (rnewE μ l) L V k 158 u = k ∧ rshm (rnewE μ l) L V k 157 u = l ∧ ∀ k', 216 * (u : Int) ≤ k' → k' < 216 * u + k → ∃ j : Nat, j < k ∧ rshm (rnewE μ l) L V k 159 k' = L j := by
  have hA := J_new hJ hl
  have hrh := rnE_h (μ := μ) (l := l) (J_jh hJ).2.1 (by have := (J_cg1 hJ).1; omega)
  have hru : rnewE μ l 129 38 = rnewE μ l 129 37 ∧ rnewE μ l 157 (rnewE μ l 129 38 - 1) = l := by
    have key : ∀ A : mm_M, rnew A l 129 38 = rnew A l 129 37 ∧ rnew A l 157 (rnew A l 129 38 - 1) = l := fun A => by
      rw [rnew_38, rnew_37, rnew_157]
      exact ⟨rfl, if_pos (by omega)⟩
    unfold rnewE
    split <;> exact key _
  obtain ⟨u, hu⟩ : ∃ u : Nat, rnewE μ l 129 38 = u + 1 := ⟨(rnewE μ l 129 38 - 1).toNat, by have := hrh.2.1; omega⟩
  have eu : (u : Int) + 1 - 1 = u := by omega
  refine ⟨u, fun k => ?_⟩
  induction k with
  | zero =>
    intro _
    refine ⟨hA, hu, by show rnewE μ l 129 37 = _; rw [← hru.1]; exact hu, ?_, ?_, fun k' h1 h2 => by omega⟩
    · have := hrh.2.2
      rw [hu, eu] at this
      exact this
    · have := hru.2
      rw [hu, eu] at this
      exact this
  | succ k ih =>
    intro hk
    obtain ⟨i1, i2, i3, i4, i5, i6⟩ := ih (by omega)
    have hLk := hL k (by omega)
    have hVk := hV k (by omega)
    generalize hH : rshm (rnewE μ l) L V k = H at *
    generalize hC : cshm (chk μ l) l (fun j => cc (L j)) V k = C at *
    have g9 : asm C H 129 = H 129 := asm_r (by decide)
    have g158 : asm C H 158 = H 158 := asm_r (by decide)
    have g157 : asm C H 157 = H 157 := asm_r (by decide)
    have g159 : asm C H 159 = H 159 := asm_r (by decide)
    have hB := J_chg (μ := asm C H) (u := u) (c := L k) (b := 1) (v := V k) (x := V k) i1 (by rw [g9]; exact i2) (by rw [g9, i2, i3]) (by rw [g158, i4]; omega) hLk (fun k' h1 h2 => by
      rw [g158, i4] at h2
      obtain ⟨j, j1, j2⟩ := i6 k' h1 h2
      rw [g159, j2]
      exact hd j k j1 (by omega)) (Or.inr rfl) hVk (by rw [if_neg (by decide)])
    rw [g157, i5] at hB
    have hE : Eqr (rchg H (L k) 1 (V k)) (rchg (asm C H) (L k) 1 (V k)) := Eqr_chg fun a j a0 a1 hb => by rw [asm_r a0]
    have eH : rshm (rnewE μ l) L V (k + 1) = rchg H (L k) 1 (V k) := by rw [← hH]; rfl
    have eC : cshm (chk μ l) l (fun j => cc (L j)) V (k + 1) = mm_u C (mm_inr l) (cc (L k)) (V k) := by rw [← hC]; rfl
    rw [eH, eC]
    have r := rchg_158 (μ := H) (c := L k) (b := 1) (v := V k) i2
    have r9 : rchg H (L k) 1 (V k) 129 = H 129 := rchg_o (by decide) (by decide) (by decide)
    refine ⟨J_cg (fun a a0 a1 => ?_) (fun j hj => ?_) hB, by rw [r9]; exact i2, by rw [r9]; exact i3, by rw [r.1, i4]; omega, by rw [rchg_o (by decide) (by decide) (by decide)]; exact i5, fun k' h1 h2 => ?_⟩
    · by_cases q : a < 129
      · rw [asm_c q, asm_c q]
        funext j
        rw [mm_ux, mm_ux, asm_c q]
      · funext j
        rw [asm_r (by omega), asm_r (by omega)]
        exact hE a j (by omega) a0 (Or.inl a1)
    · rw [asm_r (by decide), asm_r (by decide)]
      exact hE 129 j (by decide) (by decide) (Or.inr (by omega))
    · by_cases q : k' = 216 * u + k
      · refine ⟨k, by omega, ?_⟩
        have := r.2.1
        rw [i4] at this
        rw [q]
        exact this
      · obtain ⟨j, j1, j2⟩ := i6 k' h1 (by omega)
        refine ⟨j, by omega, ?_⟩
        rw [r.2.2 k' (by rw [i4]; exact q), j2]
end SJ
