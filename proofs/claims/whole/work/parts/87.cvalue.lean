/-! State and value, both sides. -/
section CV
variable {d : Nat} {Q : am_Ou → am_G → Prop} {w : mm_Z} {μ : mm_M} {X : mm_X} {n : mm_N} {c e m l k v : Int} {N : ev_N} {G : Int → Prop}
theorem c_28 (hq : mm_P w) (ht : ct_a μ) (hg : cg_r μ) (hc : cc_r μ) (hN : (0 ≤ l ∧ l < μ 95 1) → ev_en N G) (hn : ce_n n) (hd : 144 ≤ d) (h1 : -2147483648 ≤ l) (h2 : l ≤ 2147483647) (h8 : μ 122 8 = nv_fu N) (he : 0 ≤ l → l < μ 95 1 → ∀ μ', ce_s μ μ' → μ' 122 6 = l → ce_0 μ' N G) (hG : (μ (mm_tr 0 + 1) (μ 128 0) ≠ -2 ∧ μ (mm_tr 1 + 1) (μ 128 1) ≠ -2 ∧ μ (mm_tr 2 + 1) (μ 128 2) ≠ -2) → ccell μ = cc c ∧ G c)
    (q0 : ¬ ((0 ≤ l ∧ l < μ 95 1) ∧ (μ (mm_tr 0 + 1) (μ 128 0) ≠ -2 ∧ μ (mm_tr 1 + 1) (μ 128 1) ≠ -2 ∧ μ (mm_tr 2 + 1) (μ 128 2) ≠ -2)) → mm_thr Q w μ X n 0)
    (q1 : ((0 ≤ l ∧ l < μ 95 1) ∧ (μ (mm_tr 0 + 1) (μ 128 0) ≠ -2 ∧ μ (mm_tr 1 + 1) (μ 128 1) ≠ -2 ∧ μ (mm_tr 2 + 1) (μ 128 2) ≠ -2)) → ∀ x t', ev N 20 [] c 0 = some (x, t') → ∀ μ', ce_s μ μ' → μ' 122 9 = t' → μ' 122 8 = μ 122 8 → Q (.inl (some (.long (Int64.ofInt (sp_en x.1 x.2))))) (mm_hp w (μ') X n))
    (q2 : ((0 ≤ l ∧ l < μ 95 1) ∧ (μ (mm_tr 0 + 1) (μ 128 0) ≠ -2 ∧ μ (mm_tr 1 + 1) (μ 128 1) ≠ -2 ∧ μ (mm_tr 2 + 1) (μ 128 2) ≠ -2)) → ev N 20 [] c 0 = none → ∀ μ', ce_s μ μ' → μ' 122 9 = μ 122 9 → μ' 122 8 = μ 122 8 → Q (.inr (2, n.1)) (mm_hp w μ' X (mm_th n))) : am_C (d + 2) 28 [.ref 32, .int (Int32.ofInt (l))] (mm_hp w μ X n) Q := by
  have hl := hg.1
  obtain ⟨d, rfl⟩ : ∃ k, d = k + 144 := ⟨d - 144, by omega⟩
  rw [en_28 (d := d + 145), b_28_0 hq, show d + 145 = (d + 142) + 3 from rfl, c_26 (d := d + 142) hq ht hg hc h1 h2, bk_v, b_28_5 hq]
  by_cases a : (0 ≤ l ∧ l < μ 95 1) ∧ (μ (mm_tr 0 + 1) (μ 128 0) ≠ -2 ∧ μ (mm_tr 1 + 1) (μ 128 1) ≠ -2 ∧ μ (mm_tr 2 + 1) (μ 128 2) ≠ -2)
  · rw [if_pos a, if_neg (by decide), show d + 142 + 3 = (d + 144) + 1 from rfl, c_29 (d := d + 144) hq, bk_v, b_28_25 hq]
    obtain ⟨g1, g2⟩ := hG a.2
    rw [g1]
    refine c_64 (d := d + 144) hq (hN a.1) hn (by omega) (by omega) g2 h8 (he (by omega) (by omega)) ?_ ?_
    · intro x t' hx μ' b1 b2 b3
      rw [bk_v, b_28_28 hq]
      exact q1 a x t' hx μ' b1 b2 b3
    · intro hx μ' b1 b2 b3
      rw [bk_e h_28]
      exact q2 a hx μ' b1 b2 b3
  · rw [if_neg a, if_pos rfl]
    exact q0 a
theorem c_45 (hq : mm_P w) (ht : ct_a μ) (hg : cg_r μ) (hc : cc_r μ) (hN : (0 ≤ l ∧ l < μ 95 1) → ev_en N G) (hn : ce_n n) (hd : 144 ≤ d) (h1 : -2147483648 ≤ l) (h2 : l ≤ 2147483647) (h8 : μ 122 8 = nv_fu N) (he : 0 ≤ l → l < μ 95 1 → ∀ μ', ce_s μ μ' → μ' 122 6 = l → ce_0 μ' N G) (hG : (μ (mm_tr 0 + 1) (μ 128 0) ≠ -2 ∧ μ (mm_tr 1 + 1) (μ 128 1) ≠ -2 ∧ μ (mm_tr 2 + 1) (μ 128 2) ≠ -2) → ccell μ = cc c ∧ G c)
    (q0 : ¬ ((0 ≤ l ∧ l < μ 95 1) ∧ (μ (mm_tr 0 + 1) (μ 128 0) ≠ -2 ∧ μ (mm_tr 1 + 1) (μ 128 1) ≠ -2 ∧ μ (mm_tr 2 + 1) (μ 128 2) ≠ -2)) → mm_thr Q w μ X n 0)
    (q1 : ((0 ≤ l ∧ l < μ 95 1) ∧ (μ (mm_tr 0 + 1) (μ 128 0) ≠ -2 ∧ μ (mm_tr 1 + 1) (μ 128 1) ≠ -2 ∧ μ (mm_tr 2 + 1) (μ 128 2) ≠ -2)) → ∀ x t', ev N 20 [] c 0 = some (x, t') → ∀ μ', ce_s μ μ' → μ' 122 9 = t' → μ' 122 8 = μ 122 8 → Q (.inl (some (.int (Int32.ofInt (x.1))))) (mm_hp w (μ') X n))
    (q2 : ((0 ≤ l ∧ l < μ 95 1) ∧ (μ (mm_tr 0 + 1) (μ 128 0) ≠ -2 ∧ μ (mm_tr 1 + 1) (μ 128 1) ≠ -2 ∧ μ (mm_tr 2 + 1) (μ 128 2) ≠ -2)) → ev N 20 [] c 0 = none → ∀ μ', ce_s μ μ' → μ' 122 9 = μ 122 9 → μ' 122 8 = μ 122 8 → Q (.inr (2, n.1)) (mm_hp w μ' X (mm_th n))) : am_C (d + 3) 45 [.ref 32, .int (Int32.ofInt (l))] (mm_hp w μ X n) Q := by
  rw [en_45 (d := d + 2), b_45_0 hq]
  refine c_28 hq ht hg hc hN hn hd h1 h2 h8 he hG (fun a => ?_) (fun a x t' hx μ' b1 b2 b3 => ?_) (fun a hx μ' b1 b2 b3 => ?_)
  · have := q0 a
    refine ⟨this.1, ?_⟩
    rw [bk_e h_45]
    exact this.2
  · have ho := ev_o (hN a.1) 20 [] c 0 x t' (hG a.2).2 hx
    rw [bk_v, b_45_5 hq, c_55 (d := d + 1) hq ho.1.1 (fun _ => by have := ho.1.2; omega), bk_v, b_45_8 hq]
    exact q1 a x t' hx μ' b1 b2 b3
  · rw [bk_e h_45]
    exact q2 a hx μ' b1 b2 b3
theorem c_49 (hq : mm_P w) (ht : ct_a μ) (hg : cg_r μ) (hc : cc_r μ) (hN : (0 ≤ l ∧ l < μ 95 1) → ev_en N G) (hn : ce_n n) (hd : 144 ≤ d) (h1 : -2147483648 ≤ l) (h2 : l ≤ 2147483647) (h8 : μ 122 8 = nv_fu N) (he : 0 ≤ l → l < μ 95 1 → ∀ μ', ce_s μ μ' → μ' 122 6 = l → ce_0 μ' N G) (hG : (μ (mm_tr 0 + 1) (μ 128 0) ≠ -2 ∧ μ (mm_tr 1 + 1) (μ 128 1) ≠ -2 ∧ μ (mm_tr 2 + 1) (μ 128 2) ≠ -2) → ccell μ = cc c ∧ G c)
    (q0 : ¬ ((0 ≤ l ∧ l < μ 95 1) ∧ (μ (mm_tr 0 + 1) (μ 128 0) ≠ -2 ∧ μ (mm_tr 1 + 1) (μ 128 1) ≠ -2 ∧ μ (mm_tr 2 + 1) (μ 128 2) ≠ -2)) → mm_thr Q w μ X n 0)
    (q1 : ((0 ≤ l ∧ l < μ 95 1) ∧ (μ (mm_tr 0 + 1) (μ 128 0) ≠ -2 ∧ μ (mm_tr 1 + 1) (μ 128 1) ≠ -2 ∧ μ (mm_tr 2 + 1) (μ 128 2) ≠ -2)) → ∀ x t', ev N 20 [] c 0 = some (x, t') → ∀ μ', ce_s μ μ' → μ' 122 9 = t' → μ' 122 8 = μ 122 8 → Q (.inl (some (.int (Int32.ofInt (sp_pl x.1 x.2))))) (mm_hp w (μ') X n))
    (q2 : ((0 ≤ l ∧ l < μ 95 1) ∧ (μ (mm_tr 0 + 1) (μ 128 0) ≠ -2 ∧ μ (mm_tr 1 + 1) (μ 128 1) ≠ -2 ∧ μ (mm_tr 2 + 1) (μ 128 2) ≠ -2)) → ev N 20 [] c 0 = none → ∀ μ', ce_s μ μ' → μ' 122 9 = μ 122 9 → μ' 122 8 = μ 122 8 → Q (.inr (2, n.1)) (mm_hp w μ' X (mm_th n))) : am_C (d + 3) 49 [.ref 32, .int (Int32.ofInt (l))] (mm_hp w μ X n) Q := by
  rw [en_49 (d := d + 2), b_49_0 hq]
  refine c_28 hq ht hg hc hN hn hd h1 h2 h8 he hG (fun a => ?_) (fun a x t' hx μ' b1 b2 b3 => ?_) (fun a hx μ' b1 b2 b3 => ?_)
  · have := q0 a
    refine ⟨this.1, ?_⟩
    rw [bk_e h_49]
    exact this.2
  · have ho := ev_o (hN a.1) 20 [] c 0 x t' (hG a.2).2 hx
    rw [bk_v, b_49_5 hq, c_57 (d := d + 1) hq ho.1.1 (fun _ => by have := ho.1.2; omega), bk_v, b_49_8 hq]
    have := q1 a x t' hx μ' b1 b2 b3
    exact this
  · rw [bk_e h_49]
    exact q2 a hx μ' b1 b2 b3
theorem c_231 (hq : mm_P w) (hrt : rt_a μ) (hv : (0 ≤ l ∧ l < μ 129 8) → rA (rst μ l) ∧ rA_l (rst μ l) ∧ ev_en (rNv (rst μ l)) G) (hi : -2147483648 ≤ l ∧ l ≤ 2147483647) (h8 : 1 ≤ μ 129 8 ∧ μ 129 8 ≤ 3) (hcur : ∀ e, 0 ≤ e → e < 3 → 0 ≤ μ 136 e ∧ μ 136 e < 6) (hG : 0 ≤ rhere μ → G (rhere μ))
    (hQ0 : ¬ (0 ≤ l ∧ l < μ 129 8) ∨ rhere μ < 0 → Q (.inl (some (.int (Int32.ofInt (0))))) (mm_hp w (mm_u μ 129 0 1) X n))
    (hQ1 : (0 ≤ l ∧ l < μ 129 8) → 0 ≤ rhere μ → ∀ x t', ev (rNv (rst μ l)) 20 [] (rhere μ) 0 = some (x, t') → ∀ μ', mm_re μ' = mm_re (rst μ l) → Q (.inl (some (.int (Int32.ofInt (x.1))))) (mm_hp w (mm_u (mm_u μ' 129 0 0) 129 64 t') X n))
    (hQ2 : (0 ≤ l ∧ l < μ 129 8) → 0 ≤ rhere μ → ev (rNv (rst μ l)) 20 [] (rhere μ) 0 = none → ∀ μ', mm_re μ' = mm_re (rst μ l) → Q (.inl (some (.int (Int32.ofInt (0))))) (mm_hp w (mm_u μ' 129 0 2) X n)) : am_C (d + 10) 231 [.ref 129, .int (Int32.ofInt (l))] (mm_hp w μ X n) Q := by
  rw [en_231 (d := d + 9), b_231_0 hq]
  refine c_159 hq hrt hv hi h8 hcur hG (fun a => ?_) (fun a b x t' hx μ' b1 b2 b3 b4 => ?_) (fun a b hx μ' b1 => ?_)
  · rw [bk_v, b_231_5 hq, if_pos rfl]
    exact hQ0 a
  · rw [bk_v, b_231_5 hq, if_neg (by decide), mm_un (by decide), mm_un (by decide), b2]
    exact hQ1 a b x t' hx μ' b1
  · rw [bk_v, b_231_5 hq, if_pos rfl]
    exact hQ2 a b hx μ' b1
theorem c_240 (hq : mm_P w) (hrt : rt_a μ) (hv : (0 ≤ l ∧ l < μ 129 8) → rA (rst μ l) ∧ rA_l (rst μ l) ∧ ev_en (rNv (rst μ l)) G) (hi : -2147483648 ≤ l ∧ l ≤ 2147483647) (h8 : 1 ≤ μ 129 8 ∧ μ 129 8 ≤ 3) (hcur : ∀ e, 0 ≤ e → e < 3 → 0 ≤ μ 136 e ∧ μ 136 e < 6) (hG : 0 ≤ rhere μ → G (rhere μ))
    (hQ0 : ¬ (0 ≤ l ∧ l < μ 129 8) ∨ rhere μ < 0 → Q (.inl (some (.int (Int32.ofInt (0))))) (mm_hp w (mm_u μ 129 0 1) X n))
    (hQ1 : (0 ≤ l ∧ l < μ 129 8) → 0 ≤ rhere μ → ∀ x t', ev (rNv (rst μ l)) 20 [] (rhere μ) 0 = some (x, t') → ∀ μ', mm_re μ' = mm_re (rst μ l) → Q (.inl (some (.int (Int32.ofInt (sp_pl x.1 x.2))))) (mm_hp w (mm_u (mm_u μ' 129 0 0) 129 64 t') X n))
    (hQ2 : (0 ≤ l ∧ l < μ 129 8) → 0 ≤ rhere μ → ev (rNv (rst μ l)) 20 [] (rhere μ) 0 = none → ∀ μ', mm_re μ' = mm_re (rst μ l) → Q (.inl (some (.int (Int32.ofInt (0))))) (mm_hp w (mm_u μ' 129 0 2) X n)) : am_C (d + 10) 240 [.ref 129, .int (Int32.ofInt (l))] (mm_hp w μ X n) Q := by
  rw [en_240 (d := d + 9), b_240_0 hq]
  refine c_159 hq hrt hv hi h8 hcur hG (fun a => ?_) (fun a b x t' hx μ' b1 b2 b3 b4 => ?_) (fun a b hx μ' b1 => ?_)
  · rw [bk_v, b_240_5 hq, if_pos rfl]
    exact hQ0 a
  · rw [bk_v, b_240_5 hq, if_neg (by decide), mm_un (by decide), mm_un (by decide), b3]
    exact hQ1 a b x t' hx μ' b1
  · rw [bk_v, b_240_5 hq, if_pos rfl]
    exact hQ2 a b hx μ' b1
end CV
