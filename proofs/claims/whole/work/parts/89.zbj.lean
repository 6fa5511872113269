/-! Spread: the reference's weights and shares. -/
def rwt (μ : mm_M) (l c : Int) : Int := if 0 ≤ rlay μ c (l + 1).toNat then μ 138 (216 * rlay μ c (l + 1).toNat + c) else 0
section SR
variable {d : Nat} {Q : am_Ou → am_G → Prop} {w : mm_Z} {μ M : mm_M} {X : mm_X} {n : mm_N} {e m c v i l a p A s x y k o : Int} {W L : Int → Int}
theorem rwt_b (hg : rg_r μ) (hb : ∀ j, 0 ≤ j → j < 648 → -2000000000 ≤ μ 138 j ∧ μ 138 j ≤ 2000000000) (hc : 0 ≤ c ∧ c < 216) (hl : 0 ≤ l ∧ l < 3) : -2000000000 ≤ rwt μ l c ∧ rwt μ l c ≤ 2000000000 := by
  have h := rlay_lt (μ := μ) (c := c) (l + 1).toNat
  unfold rwt
  split
  · exact hb _ (by omega) (by omega)
  · decide
theorem c_229_75 (hq : mm_P w) (hg : rg_r μ) (hl : -1 ≤ l ∧ l < 3) {t : Nat} (ht : t ≤ 216) {x3 x4 : Int} (hL : ∀ j : Int, 0 ≤ j → j < t → μ 176 j = L j ∧ 0 ≤ L j ∧ L j < 216) (hW : ∀ j : Int, 0 ≤ j → j < t → W j = rwt μ l (L j) ∧ -2000000000 ≤ W j ∧ W j ≤ 2000000000) : ∀ (k i : Nat) (b : Bool) (e10 : Option Value), i + k = t → ∃ e10' : Option Value, (am_E (d + 2) 229 Q (75, [some (.ref 129), some (.int (Int32.ofInt (l))), some (.int (Int32.ofInt (p))), some (.int (Int32.ofInt (x3))), some (.int (Int32.ofInt (x4))), some (.int (Int32.ofInt ((t : Int)))), some (.long (Int64.ofInt (tot W i 0))), none, some (.int (Int32.ofInt (if b = true then 1 else 0))), some (.int (Int32.ofInt ((i : Int)))), e10, none, none, none, none, none], [], mm_hp w μ X n) ↔ am_E (d + 2) 229 Q (75, [some (.ref 129), some (.int (Int32.ofInt (l))), some (.int (Int32.ofInt (p))), some (.int (Int32.ofInt (x3))), some (.int (Int32.ofInt (x4))), some (.int (Int32.ofInt ((t : Int)))), some (.long (Int64.ofInt (tot W t 0))), none, some (.int (Int32.ofInt (if (b && bl (fun j => decide (0 ≤ W j)) k i) = true then 1 else 0))), some (.int (Int32.ofInt ((t : Int)))), e10', none, none, none, none, none], [], mm_hp w μ X n)) := by
  intro k
  induction k with
  | zero =>
    intro i b e10 hi
    obtain rfl : i = t := by omega
    refine ⟨e10, ?_⟩
    rw [show bl (fun j => decide (0 ≤ W j)) 0 i = true from rfl, Bool.and_true]
  | succ k ih =>
    intro i b e10 hi
    have hLi := hL i (by omega) (by omega)
    have hWi := hW i (by omega) (by omega)
    have hts := tot_s (W := W) i 0
    rw [Int.zero_add] at hts
    have hbl : bl (fun j => decide (0 ≤ W j)) (k + 1) i = (decide (0 ≤ W i) && bl (fun j => decide (0 ≤ W j)) k (i + 1)) := rfl
    obtain ⟨e10', h⟩ := ih (i + 1) (b && decide (0 ≤ W i)) (some (.long (Int64.ofInt (W i)))) (by omega)
    refine ⟨e10', ?_⟩
    rw [hbl, ← Bool.and_assoc, show (i : Int) + 1 = ((i + 1 : Nat) : Int) by omega]
    rw [show ((i + 1 : Nat) : Int) = (i : Int) + 1 by omega] at h ⊢
    rw [b_229_75 hq, if_neg (by rw [mm_lex, mm_wv (by omega) (by omega), mm_wv (by omega) (by omega)]; omega)]
    simp (disch := omega) only [and_self, true_and, mm_ltx, mm_lex, mm_eqx, mm_wv, mm_gd, ↓reduceIte, Int.reduceAdd, Int.reduceSub, Int.reduceNeg, Int.reduceLE, Int.reduceLT, Int.reduceMul, Int.reduceEq]
    rw [hLi.1, c_202 (d := d) hq hg ⟨hLi.2.1, hLi.2.2⟩ hl.1 hl.2]
    rw [show (if 0 ≤ rlay μ (L i) (l + 1).toNat then μ 138 (216 * rlay μ (L i) (l + 1).toNat + L i) else 0) = W i from hWi.1.symm, bk_v, b_229_94 hq, ← hts]
    cases b with
    | false =>
      rw [if_pos (by decide), b_229_119 hq, b_229_120 hq]
      exact h
    | true =>
      rw [if_neg (by decide)]
      by_cases z : 0 ≤ W i
      · rw [if_neg (by rw [mm_ltx8, mm_w8v (by omega) (by omega), mm_w8v (by omega) (by omega)]; omega), b_229_120 hq]
        rw [decide_eq_true z, Bool.and_true] at h ⊢
        exact h
      · rw [if_pos (by rw [mm_ltx8, mm_w8v (by omega) (by omega), mm_w8v (by omega) (by omega)]; omega), b_229_119 hq, b_229_120 hq]
        rw [decide_eq_false z, Bool.and_false] at h ⊢
        exact h
theorem c_229_176 (hq : mm_P w) (hl : 0 ≤ l ∧ l < 3) (hp : -2000000000 ≤ p ∧ p ≤ 2000000000) {t : Nat} (ht2 : t ≤ 216) {x3 x4 x8 : Int} (H : Nat → mm_M) (hL : ∀ j : Int, 0 ≤ j → j < t → 0 ≤ L j ∧ L j < 216) (hW0 : ∀ j : Int, 0 ≤ j → j < t → 0 ≤ W j) (hA2 : tot W t 0 ≤ 2000000000)
    (hH : ∀ i : Nat, i < t → rh_r (H i) ∧ rg_r (H i) ∧ 1 ≤ H i 129 38 ∧ H i 158 (H i 129 38 - 1) < 216 ∧ H i 176 i = L i ∧ rwt (H i) l (L i) = W i ∧ H (i + 1) = rchg (H i) (L i) 1 (sqp p (tot W t 0) t W (i + 1) - sqp p (tot W t 0) t W i)) : ∀ (k i : Nat) (e14 : Option Value), i + k = t → (am_E (d + 2) 229 Q (176, [some (.ref 129), some (.int (Int32.ofInt (l))), some (.int (Int32.ofInt (p))), some (.int (Int32.ofInt (x3))), some (.int (Int32.ofInt (x4))), some (.int (Int32.ofInt ((t : Int)))), some (.long (Int64.ofInt (tot W t 0))), none, some (.int (Int32.ofInt (x8))), some (.long (Int64.ofInt (if tot W t 0 = 0 then (i : Int) else tot W i 0))), none, some (.long (Int64.ofInt (sqp p (tot W t 0) t W i))), none, some (.int (Int32.ofInt ((i : Int)))), e14, none], [], mm_hp w (H i) X n) ↔ Q (.inl (some (.int (Int32.ofInt ((t : Int)))))) (mm_hp w (mm_u (H t) 129 64 t) X n)) := by
  intro k
  induction k with
  | zero =>
    intro i e14 hi
    obtain rfl : i = t := by omega
    rw [b_229_176 hq, if_pos (by rw [mm_lex]; exact Int.le_refl _)]
  | succ k ih =>
    intro i e14 hi
    obtain ⟨h1, h2, h3, h4, h5, h6, h7⟩ := hH i (by omega)
    have hLi := hL i (by omega) (by omega)
    have hts := tot_s (W := W) i 0
    rw [Int.zero_add] at hts
    have m1 := tot_m hW0 t (by omega) (i + 1) (by omega)
    have m0 := tot_m hW0 t (by omega) i (by omega)
    have hsq := sqp_b hp (t := t) rfl hW0 rfl hA2 (j := i) (by omega)
    have hend : am_E (d + 2) 229 Q (242, [some (.ref 129), some (.int (Int32.ofInt (l))), some (.int (Int32.ofInt (p))), some (.int (Int32.ofInt (x3))), some (.int (Int32.ofInt (x4))), some (.int (Int32.ofInt ((t : Int)))), some (.long (Int64.ofInt (tot W t 0))), none, some (.int (Int32.ofInt (x8))), some (.long (Int64.ofInt (if tot W t 0 = 0 then (i : Int) + 1 else tot W (i + 1) 0))), none, some (.long (Int64.ofInt (sqp p (tot W t 0) t W i))), none, some (.int (Int32.ofInt ((i : Int)))), e14, none], [.long (Int64.ofInt (sqp p (tot W t 0) t W (i + 1)))], mm_hp w (H i) X n) ↔ Q (.inl (some (.int (Int32.ofInt ((t : Int)))))) (mm_hp w (mm_u (H t) 129 64 t) X n) := by
      have h := ih (i + 1) (some (.long (Int64.ofInt (sqp p (tot W t 0) t W (i + 1))))) (by omega)
      rw [show ((i + 1 : Nat) : Int) = (i : Int) + 1 by omega] at h
      rw [b_229_242 hq]
      simp (disch := omega) only [and_self, true_and, mm_ltx, mm_lex, mm_eqx, mm_wv, mm_gd, ↓reduceIte, Int.reduceAdd, Int.reduceSub, Int.reduceNeg, Int.reduceLE, Int.reduceLT, Int.reduceMul, Int.reduceEq]
      rw [h5, c_163 (d := d + 1) hq h1 h2 hLi (Or.inr rfl) h3 h4, bk_n, b_229_262 hq, ← h7]
      exact h
    rw [b_229_176 hq, if_neg (by rw [mm_lex, mm_wv (by omega) (by omega), mm_wv (by omega) (by omega)]; omega)]
    by_cases z : tot W t 0 = 0
    · have ez : mm_d8 (mm_w p * mm_w ((i : Int) + 1)) (mm_w (t : Int)) = sqp p (tot W t 0) t W (i + 1) := by
        have hb := mul_b (p := p) (x := (i : Int) + 1) hp (by omega) (by omega)
        rw [mm_wv (by omega) (by omega), mm_wv (by omega) (by omega), mm_wv (by omega) (by omega), mm_d8t hb.1 hb.2 (by omega) (by omega)]
        unfold sqp
        rw [if_pos z]
      rw [if_pos z] at hend ⊢
      rw [if_pos (by rw [z]), b_229_213 hq, if_pos (by rw [z]), if_neg (by rw [mm_eqx8, mm_wv (by omega) (by omega), mm_w8v (by omega) (by omega), mm_w8v (by omega) (by omega)]; omega), ez]
      rw [mm_wv (z := (i : Int) + 1) (by omega) (by omega)]
      exact hend
    · have zn : ¬ Int64.ofInt (tot W t 0) = Int64.ofInt 0 := by rw [mm_eqx8, mm_w8v (by omega) (by omega), mm_w8v (by omega) (by omega)]; exact z
      have ez : mm_d8 (mm_w p * tot W (i + 1) 0) (tot W t 0) = sqp p (tot W t 0) t W (i + 1) := by
        have hb := mul_b (p := p) (x := tot W (i + 1) 0) hp (by omega) (by omega)
        rw [mm_wv (by omega) (by omega), mm_d8t hb.1 hb.2 (by omega) (by omega)]
        unfold sqp
        rw [if_neg z, show ((i : Int) + 1).toNat = i + 1 by omega]
      rw [if_neg z] at hend ⊢
      rw [if_neg zn]
      simp (disch := omega) only [and_self, true_and, mm_ltx, mm_lex, mm_eqx, mm_wv, mm_gd, ↓reduceIte, Int.reduceAdd, Int.reduceSub, Int.reduceNeg, Int.reduceLE, Int.reduceLT, Int.reduceMul, Int.reduceEq]
      rw [h5, c_202 (d := d) hq h2 hLi (by omega) hl.2]
      rw [show (if 0 ≤ rlay (H i) (L i) (l + 1).toNat then H i 138 (216 * rlay (H i) (L i) (l + 1).toNat + L i) else 0) = W i from h6, bk_v, b_229_212 hq, b_229_213 hq, if_neg zn, if_neg zn, ← hts, ez]
      exact hend
end SR
