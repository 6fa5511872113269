/-! Spread: the shares, pure; the class gives them out. -/
/-- what the first k cells hold together -/
def sqp (p A s : Int) (W : Int → Int) (k : Int) : Int := if A = 0 then (p * k).tdiv s else (p * tot W k.toNat 0).tdiv A
section SH
variable {d : Nat} {Q : am_Ou → am_G → Prop} {w : mm_Z} {μ : mm_M} {X : mm_X} {n : mm_N} {e m c v i l a b p A s x y k : Int} {W L : Int → Int}
theorem mm_d8t (h1 : -9000000000000000000 ≤ a) (h2 : a ≤ 9000000000000000000) (h3 : 0 < b) (h4 : b ≤ 9223372036854775807) : mm_d8 a b = a.tdiv b := by
  unfold mm_d8
  rw [Int64.toInt_div, Int64.toInt_ofInt_of_le (by omega) (by omega), Int64.toInt_ofInt_of_le (by omega) (by omega)]
  have h5 : (a.tdiv b).natAbs ≤ a.natAbs := by rw [Int.natAbs_tdiv]; exact Nat.div_le_self _ _
  have h6 : a < 0 → a.tdiv b ≤ 0 := fun h => by
    have := Int.tdiv_nonneg (a := -a) (b := b) (by omega) (by omega)
    rw [Int.neg_tdiv] at this
    omega
  have h7 : 0 ≤ a → 0 ≤ a.tdiv b := fun h => Int.tdiv_nonneg h (by omega)
  exact Int.bmod_eq_of_le (by omega) (by omega)
theorem td_p (hp : 0 ≤ p) (hA : 0 < A) (h0 : 0 ≤ x) (h1 : x ≤ y) (h2 : y ≤ A) : 0 ≤ (p * x).tdiv A ∧ (p * x).tdiv A ≤ (p * y).tdiv A ∧ (p * y).tdiv A ≤ p := by
  have e1 : 0 ≤ p * x := Int.mul_nonneg hp h0
  have e2 : p * x ≤ p * y := Int.mul_le_mul_of_nonneg_left h1 hp
  have e3 : p * y ≤ p * A := Int.mul_le_mul_of_nonneg_left h2 hp
  rw [Int.tdiv_eq_ediv_of_nonneg e1, Int.tdiv_eq_ediv_of_nonneg (by omega)]
  refine ⟨Int.ediv_nonneg e1 (by omega), Int.ediv_le_ediv hA e2, ?_⟩
  have := Int.ediv_le_ediv hA e3
  rw [Int.mul_ediv_cancel p (by omega)] at this
  exact this
theorem td_d (hp : -2000000000 ≤ p ∧ p ≤ 2000000000) (hA : 0 < A) (h0 : 0 ≤ x) (h1 : x ≤ y) (h2 : y ≤ A) : (-2000000000 ≤ (p * y).tdiv A - (p * x).tdiv A ∧ (p * y).tdiv A - (p * x).tdiv A ≤ 2000000000) ∧ -2000000000 ≤ (p * y).tdiv A ∧ (p * y).tdiv A ≤ 2000000000 := by
  by_cases z : 0 ≤ p
  · have := td_p z hA h0 h1 h2
    omega
  · have := td_p (p := -p) (by omega) hA h0 h1 h2
    rw [Int.neg_mul, Int.neg_mul, Int.neg_tdiv, Int.neg_tdiv] at this
    omega
theorem mul_b (hp : -2000000000 ≤ p ∧ p ≤ 2000000000) (h0 : 0 ≤ x) (h1 : x ≤ 2000000000) : -9000000000000000000 ≤ p * x ∧ p * x ≤ 9000000000000000000 := by
  have e1 : p * x ≤ 2000000000 * x := Int.mul_le_mul_of_nonneg_right hp.2 h0
  have e2 : -2000000000 * x ≤ p * x := Int.mul_le_mul_of_nonneg_right hp.1 h0
  omega
theorem tot_m (hW : ∀ j, 0 ≤ j → j < s → 0 ≤ W j) : ∀ (k : Nat), (k : Int) ≤ s → ∀ (i : Nat), i ≤ k → 0 ≤ tot W i 0 ∧ tot W i 0 ≤ tot W k 0 := by
  intro k
  induction k with
  | zero =>
    intro _ i hi
    obtain rfl : i = 0 := by omega
    exact ⟨Int.le_refl _, Int.le_refl _⟩
  | succ k ih =>
    intro hk i hi
    have h1 := hW k (by omega) (by omega)
    have hs := tot_s (W := W) k 0
    rw [Int.zero_add] at hs
    by_cases z : i = k + 1
    · rw [z]
      have := ih (by omega) 0 (by omega)
      have := (ih (by omega) k (by omega)).1
      omega
    · have := ih (by omega) i (by omega)
      omega
/-- the shares are amounts -/
theorem sqp_b (hp : -2000000000 ≤ p ∧ p ≤ 2000000000) {t : Nat} (ht : (t : Int) = s) (hW : ∀ j, 0 ≤ j → j < s → 0 ≤ W j) (hA : A = tot W t 0) (hA2 : A ≤ 2000000000) {j : Nat} (hj : (j : Int) < s) : (-2000000000 ≤ sqp p A s W (j + 1) - sqp p A s W j ∧ sqp p A s W (j + 1) - sqp p A s W j ≤ 2000000000) ∧ -2000000000 ≤ sqp p A s W (j + 1) ∧ sqp p A s W (j + 1) ≤ 2000000000 := by
  unfold sqp
  by_cases z : A = 0
  · rw [if_pos z, if_pos z]
    exact td_d hp (by omega) (by omega) (by omega) (by omega)
  · rw [if_neg z, if_neg z]
    have m1 := tot_m hW t (by omega) (j + 1) (by omega)
    have m2 := tot_m hW (j + 1) (by omega) j (by omega)
    have m3 := tot_m hW t (by omega) t (by omega)
    rw [show ((j : Int) + 1).toNat = j + 1 by omega, show ((j : Int)).toNat = j by omega]
    exact td_d hp (by omega) m2.1 m2.2 (by omega)
/-- the class's inputs behind the first cells -/
def cshm (μ : mm_M) (l : Int) (L V : Int → Int) : Nat → mm_M
  | 0 => μ
  | k + 1 => mm_u (cshm μ l L V k) (mm_inr l) (L k) (V k)
theorem cshm_o {V : Int → Int} {x : Nat} (h : x ≠ mm_inr l) : ∀ k : Nat, cshm μ l L V k x = μ x := by
  intro k
  induction k with
  | zero => rfl
  | succ k ih =>
    unfold cshm
    rw [mm_uu h, ih]
theorem cshm_n {V : Int → Int} {x : Nat} {j : Int} : ∀ k : Nat, (∀ i : Nat, i < k → L i ≠ j) → cshm μ l L V k x j = μ x j := by
  intro k
  induction k with
  | zero => intro _; rfl
  | succ k ih =>
    intro h
    unfold cshm
    rw [mm_ux, if_neg (fun q => h k (by omega) q.2.symm), ih (fun i hi => h i (by omega))]
theorem cshm_g {V : Int → Int} (hg : cg_r μ) : ∀ k : Nat, (∀ j : Nat, j < k → -2000000000 ≤ V j ∧ V j ≤ 2000000000) → cg_r (cshm μ l L V k) := by
  intro k
  induction k with
  | zero => intro _; exact hg
  | succ k ih =>
    intro h
    have h1 := ih (fun j hj => h j (by omega))
    have hi := mm_inr_r l
    have hv := h k (by omega)
    refine ⟨?_, fun l' j l0 l1 j0 j1 => ?_⟩
    · unfold cshm
      rw [mm_uu (by omega)]
      exact h1.1
    · unfold cshm
      rw [mm_ux]
      split
      · omega
      · exact h1.2 l' j l0 l1 j0 j1
theorem csee_c1 {μ' : mm_M} (h : ∀ a, 97 ≤ a → a ≤ 99 → μ' a c = μ a c) : ∀ k : Nat, csee μ' c k = csee μ c k := by
  intro k
  induction k with
  | zero => rfl
  | succ k ih =>
    have := mm_inr_r k
    unfold csee
    rw [ih, h (mm_inr k) (by omega) (by omega)]
theorem c_140 (hq : mm_P w) (hg : cg_r μ) (hl : 0 ≤ l ∧ l < 3) (hp : -2000000000 ≤ p ∧ p ≤ 2000000000) {t : Nat} (ht2 : t ≤ 216) (hs : μ 125 5 = t) (hL : ∀ j : Int, 0 ≤ j → j < t → μ 126 j = L j ∧ 0 ≤ L j ∧ L j < 216) (hd : ∀ i j : Nat, i < j → j < t → L i ≠ L j) (hW : ∀ j : Int, 0 ≤ j → j < t → W j = cwt μ l (L j) ∧ 0 ≤ W j) (hA : μ 125 4 = tot W t 0) (hA2 : tot W t 0 ≤ 2000000000) : am_C (d + 3) 140 [.ref 125, .int (Int32.ofInt (l)), .int (Int32.ofInt (p))] (mm_hp w μ X n) Q ↔ Q (.inl none) (mm_hp w (cshm μ l L (fun j => sqp p (tot W t 0) t W (j + 1) - sqp p (tot W t 0) t W j) t) X n) := by
  obtain ⟨V, hV⟩ : ∃ V : Int → Int, V = fun j => sqp p (tot W t 0) t W (j + 1) - sqp p (tot W t 0) t W j := ⟨_, rfl⟩
  rw [← hV]
  have hW0 : ∀ j : Int, 0 ≤ j → j < (t : Int) → 0 ≤ W j := fun j j0 j1 => (hW j j0 j1).2
  have hVb : ∀ j : Nat, j < t → -2000000000 ≤ V j ∧ V j ≤ 2000000000 := fun j hj => by rw [hV]; exact (sqp_b hp rfl hW0 rfl hA2 (by omega)).1
  have hir := mm_inr_r l
  have key : ∀ (k i : Nat) (e8 : Option Value), i + k = t → (am_E (d + 2) 140 Q (8, [some (.ref 125), some (.int (Int32.ofInt (l))), some (.int (Int32.ofInt (p))), some (.long (Int64.ofInt (tot W i 0))), none, some (.long (Int64.ofInt (sqp p (tot W t 0) t W i))), none, some (.int (Int32.ofInt ((i : Int)))), e8, none], [], mm_hp w (cshm μ l L V i) X n) ↔ Q (.inl none) (mm_hp w (cshm μ l L V t) X n)) := by
    intro k
    induction k with
    | zero =>
      intro i e8 hi
      obtain rfl : i = t := by omega
      rw [b_140_8 hq, cshm_o (by omega), hs, if_pos (by rw [mm_lex]; exact Int.le_refl _)]
    | succ k ih =>
      intro i e8 hi
      have hLi := hL i (by omega) (by omega)
      have hWi := hW i (by omega) (by omega)
      have hgi := cshm_g (l := l) (L := L) (V := V) hg i (fun j hj => hVb j (by omega))
      have ew : cwt (cshm μ l L V i) l (L i) = W i := by
        rw [hWi.1]
        unfold cwt
        rw [csee_c1 (fun a a0 a1 => cshm_n i (fun j hj => hd j i hj (by omega)))]
      have hts := tot_s (W := W) i 0
      rw [Int.zero_add] at hts
      have m1 := tot_m hW0 t (by omega) (i + 1) (by omega)
      have hsq := sqp_b hp (t := t) rfl hW0 rfl hA2 (j := i) (by omega)
      rw [b_140_8 hq, cshm_o (by omega), cshm_o (by omega), hs, if_neg (by rw [mm_lex, mm_wv (by omega) (by omega), mm_wv (by omega) (by omega)]; omega)]
      simp (disch := omega) only [and_self, true_and, mm_ltx, mm_lex, mm_eqx, mm_wv, mm_gd, ↓reduceIte, Int.reduceAdd, Int.reduceSub, Int.reduceNeg, Int.reduceLE, Int.reduceLT, Int.reduceMul, Int.reduceEq]
      rw [hLi.1, c_141 (d := d) hq hgi ⟨hLi.2.1, hLi.2.2⟩ hl, ew, bk_v, b_140_30 hq, cshm_o (by omega), hA, hs, ← hts]
      have hend : am_E (d + 2) 140 Q (67, [some (.ref 125), some (.int (Int32.ofInt (l))), some (.int (Int32.ofInt (p))), some (.long (Int64.ofInt (tot W (i + 1) 0))), none, some (.long (Int64.ofInt (sqp p (tot W t 0) t W i))), none, some (.int (Int32.ofInt ((i : Int)))), e8, none], [.long (Int64.ofInt (sqp p (tot W t 0) t W (i + 1)))], mm_hp w (cshm μ l L V i) X n) ↔ Q (.inl none) (mm_hp w (cshm μ l L V t) X n) := by
        have h1 := ih (i + 1) (some (.long (Int64.ofInt (sqp p (tot W t 0) t W (i + 1))))) (by omega)
        rw [b_140_67 hq, cshm_o (by omega)]
        simp (disch := omega) only [and_self, true_and, mm_ltx, mm_lex, mm_eqx, mm_wv, mm_gd, ↓reduceIte, Int.reduceAdd, Int.reduceSub, Int.reduceNeg, Int.reduceLE, Int.reduceLT, Int.reduceMul, Int.reduceEq]
        rw [hLi.1]
        try simp (disch := omega) only [and_self, true_and, mm_ltx, mm_lex, mm_eqx, mm_wv, mm_gd, ↓reduceIte, Int.reduceAdd, Int.reduceSub, Int.reduceNeg, Int.reduceLE, Int.reduceLT, Int.reduceMul, Int.reduceEq]
        rw [show ((i + 1 : Nat) : Int) = (i : Int) + 1 by omega] at h1
        have e : cshm μ l L V (i + 1) = mm_u (cshm μ l L V i) (mm_inr l) (L i) (sqp p (tot W t 0) t W (i + 1) - sqp p (tot W t 0) t W i) := by
          show mm_u (cshm μ l L V i) (mm_inr l) (L i) (V i) = _
          have : V i = sqp p (tot W t 0) t W (i + 1) - sqp p (tot W t 0) t W i := by rw [hV]
          rw [this]
        rw [e] at h1
        exact h1
      by_cases z : tot W t 0 = 0
      · have ez : mm_d8 (mm_w p * mm_w ((i : Int) + 1)) (mm_w (t : Int)) = sqp p (tot W t 0) t W (i + 1) := by
          have hb := mul_b (p := p) (x := (i : Int) + 1) hp (by omega) (by omega)
          rw [mm_wv (by omega) (by omega), mm_wv (by omega) (by omega), mm_wv (by omega) (by omega), mm_d8t hb.1 hb.2 (by omega) (by omega)]
          unfold sqp
          rw [if_pos z]
        rw [if_pos (by rw [z]), if_neg (by rw [mm_eqx8, mm_wv (by omega) (by omega), mm_w8v (by omega) (by omega), mm_w8v (by omega) (by omega)]; omega), ez]
        exact hend
      · have ez : mm_d8 (mm_w p * tot W (i + 1) 0) (tot W t 0) = sqp p (tot W t 0) t W (i + 1) := by
          have hb := mul_b (p := p) (x := tot W (i + 1) 0) hp (by omega) (by omega)
          rw [mm_wv (by omega) (by omega), mm_d8t hb.1 hb.2 (by omega) (by omega)]
          unfold sqp
          rw [if_neg z, show ((i : Int) + 1).toNat = i + 1 by omega]
        have zn : ¬ Int64.ofInt (tot W t 0) = Int64.ofInt 0 := by rw [mm_eqx8, mm_w8v (by omega) (by omega), mm_w8v (by omega) (by omega)]; exact z
        rw [if_neg zn, if_neg zn, ez]
        exact hend
  rw [en_140 (d := d + 2), b_140_0 hq]
  have h0 := key t 0 none (by omega)
  have e0 : sqp p (tot W t 0) t W ((0 : Nat) : Int) = 0 := by
    unfold sqp
    have : (((0 : Nat) : Int)).toNat = 0 := rfl
    rw [this]
    split
    · show (p * 0).tdiv _ = 0
      rw [Int.mul_zero, Int.zero_tdiv]
    · show (p * 0).tdiv _ = 0
      rw [Int.mul_zero, Int.zero_tdiv]
  rw [e0] at h0
  exact h0
end SH
