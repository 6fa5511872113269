/-! Spread: the class's call. -/
section SP
variable {d : Nat} {Q : am_Ou → am_G → Prop} {w : mm_Z} {μ : mm_M} {X : mm_X} {n : mm_N} {e m c v i l p : Int}
/-- the weights of the class's cells -/
def cW (μ : mm_M) (l : Int) : Int → Int := fun j => cwt μ l ((cgs μ).getD j.toNat 0)
theorem c_44 (hq : mm_P w) (ht : ct_a μ) (hr : cr_r μ) (hc : cc_r μ) (hg : cg_r μ) (hch : ch_r μ) (h8 : 1 ≤ μ 122 8 ∧ μ 122 8 ≤ 2000) (hd : ((0 ≤ l ∧ l < μ 95 1) ∧ (μ (mm_tr 0 + 1) (μ 128 0) ≠ -2 ∧ μ (mm_tr 1 + 1) (μ 128 1) ≠ -2 ∧ μ (mm_tr 2 + 1) (μ 128 2) ≠ -2)) → ∀ i j : Nat, i < j → j < (cgs μ).length → (cgs μ).getD i 0 ≠ (cgs μ).getD j 0) (l1 : -2147483648 ≤ l) (l2 : l ≤ 2147483647) (p1 : -2147483648 ≤ p) (p2 : p ≤ 2147483647)
    (q1 : ¬ ((0 ≤ l ∧ l < μ 95 1) ∧ (μ (mm_tr 0 + 1) (μ 128 0) ≠ -2 ∧ μ (mm_tr 1 + 1) (μ 128 1) ≠ -2 ∧ μ (mm_tr 2 + 1) (μ 128 2) ≠ -2)) → mm_thr Q w μ X n 0)
    (q2 : ((0 ≤ l ∧ l < μ 95 1) ∧ (μ (mm_tr 0 + 1) (μ 128 0) ≠ -2 ∧ μ (mm_tr 1 + 1) (μ 128 1) ≠ -2 ∧ μ (mm_tr 2 + 1) (μ 128 2) ≠ -2)) → ¬ (-2000000000 ≤ p ∧ p ≤ 2000000000) → mm_thr Q w μ X n 1)
    (q3 : ((0 ≤ l ∧ l < μ 95 1) ∧ (μ (mm_tr 0 + 1) (μ 128 0) ≠ -2 ∧ μ (mm_tr 1 + 1) (μ 128 1) ≠ -2 ∧ μ (mm_tr 2 + 1) (μ 128 2) ≠ -2)) → (-2000000000 ≤ p ∧ p ≤ 2000000000) → ¬ cok μ l → ∀ μ', (∀ a, a ≠ 125 → a ≠ 126 → μ' a = μ a) → mm_thr Q w μ' X n 2)
    (q4 : ((0 ≤ l ∧ l < μ 95 1) ∧ (μ (mm_tr 0 + 1) (μ 128 0) ≠ -2 ∧ μ (mm_tr 1 + 1) (μ 128 1) ≠ -2 ∧ μ (mm_tr 2 + 1) (μ 128 2) ≠ -2)) → (-2000000000 ≤ p ∧ p ≤ 2000000000) → cok μ l → ∀ μ', (∀ a, a ≠ 125 → a ≠ 126 → μ' a = μ a) → Q (.inl (some (.int (Int32.ofInt (((cgs μ).length : Int)))))) (mm_hp w (mm_u (cshm (chk μ' l) l (fun j => (cgs μ).getD j.toNat 0) (fun j => sqp p (tot (cW μ l) (cgs μ).length 0) (cgs μ).length (cW μ l) (j + 1) - sqp p (tot (cW μ l) (cgs μ).length 0) (cgs μ).length (cW μ l) j) (cgs μ).length) 122 9 (cgs μ).length) X n)) : am_C (d + 8) 44 [.ref 32, .int (Int32.ofInt (l)), .int (Int32.ofInt (p))] (mm_hp w μ X n) Q := by
  have h3 := hg.1
  have hp64 : mm_w p = p := mm_wv p1 p2
  rw [en_44 (d := d + 7), b_44_0 hq, c_26 (d := d + 4) hq ht hg hc l1 l2, bk_v, b_44_5 hq]
  by_cases a : (0 ≤ l ∧ l < μ 95 1) ∧ (μ (mm_tr 0 + 1) (μ 128 0) ≠ -2 ∧ μ (mm_tr 1 + 1) (μ 128 1) ≠ -2 ∧ μ (mm_tr 2 + 1) (μ 128 2) ≠ -2)
  · rw [if_pos a, if_neg (by decide), hp64, c_54 (d := d + 6) hq (by omega) (by omega), bk_v, b_44_21 hq]
    by_cases b : -2000000000 ≤ p ∧ p ≤ 2000000000
    · rw [if_pos b, if_neg (by decide)]
      refine c_134 (d := d + 1) hq ht hr hc hg ⟨a.1.1, by omega⟩ h8 (fun g μ' f => ?_) (fun g μ' f f5 f4 f6 => ?_)
      · rw [bk_v, b_44_51 hq, if_pos (by decide)]
        exact q3 a b g μ' f
      · have hch' : ch_r μ' := ch_r_c (fun j _ _ => by rw [f 107 (by decide) (by decide)]) (f 121 (by decide) (by decide)) hch
        have hg' : cg_r (chk μ' l) := cg_r_c (by rw [chk_o (by decide) (by decide) (by decide), f 95 (by decide) (by decide)]) (fun b b1 b2 => by rw [chk_o (by omega) (by omega) (by omega), f b (by omega) (by omega)]) hg
        have e5 : chk μ' l 125 = μ' 125 := chk_o (by decide) (by decide) (by decide)
        have e6 : chk μ' l 126 = μ' 126 := chk_o (by decide) (by decide) (by decide)
        rw [bk_v, b_44_51 hq, if_neg (by decide), c_87 (d := d + 6) hq a.1.1 (by omega) hch', bk_n, b_44_70 hq]
        show am_C (d + 7) 140 _ (mm_hp w (chk μ' l) X n) _
        rw [c_140 (d := d + 4) (t := (cgs μ).length) (L := fun j => (cgs μ).getD j.toNat 0) (W := cW μ l) hq hg' ⟨a.1.1, by omega⟩ b cgs_l (by rw [e5]; exact f5) (fun j j0 j1 => by rw [e6]; exact ⟨f6 j j0 j1, cgs_at ht j0 j1⟩) (fun i j ij jt => hd a i j ij jt) (fun j j0 j1 => ⟨by
          unfold cW
          exact (cwt_c (fun a a0 a1 => by rw [chk_o (by omega) (by omega) (by omega), f a (by omega) (by omega)])).symm, of_decide_eq_true ((bl_iff _ _).mp g.2.2.2.1 j j0 (by omega))⟩) (by rw [e5]; exact f4) g.2.2.2.2.2, bk_n, b_44_79 hq]
        have hi := mm_inr_r l
        have e7 : ∀ V k, cshm (chk μ' l) l (fun j => (cgs μ).getD j.toNat 0) V k 125 5 = (cgs μ).length := fun V k => by
          rw [cshm_o (by omega), e5, f5]
        rw [mm_uu (show (125 : Nat) ≠ 122 by decide), e7]
        exact q4 a b g μ' f
    · rw [if_neg b, if_pos (by decide)]
      exact q2 a b
  · rw [if_neg a, if_pos (by decide)]
    exact q1 a
end SP
