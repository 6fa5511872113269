/-! Calls of both sides: dropLayer. -/
section LC
variable {d : Nat} {w : mm_Z} {μ : mm_M} {X : mm_X} {n : mm_N} {e m l k v b : Int}
theorem chf_x {a : Nat} (h : a ≠ 107) : chf μ a = μ a := by
  unfold chf
  rw [mm_uu h, mm_uu h]
theorem chf_7 : chf μ 107 = fun j => if j = 4 ∨ j = 5 then 0 else μ 107 j := by
  funext j
  unfold chf
  rw [mm_ux, mm_ux]
  by_cases z5 : j = 5
  · rw [if_pos ⟨rfl, z5⟩, if_pos (Or.inr z5)]
  · by_cases z4 : j = 4
    · rw [if_neg (fun q => z5 q.2), if_pos ⟨rfl, z4⟩, if_pos (Or.inl z4)]
    · rw [if_neg (fun q => z5 q.2), if_neg (fun q => z4 q.2), if_neg (by omega)]
theorem L_dropLayer (hq : mm_Q w) (hJ : J μ) (hn : n0 n) (hb : b = 0 ∨ b = 1) : PRI w X n (d + 200) 5 [.ref 32, .int (Int32.ofInt (b)), .ref 178] 170 [.ref 129, .int (Int32.ofInt (b))] μ := by
  intro Q1 hQ
  have hp := mm_QP hq
  have hjn := J_jn hJ
  have hl3 := (J_cg1 hJ).1
  rw [en_5 (d := d + 199), b_5_0 hq, c_31 (d := d + 197) hp (J_cg1 hJ) hb]
  by_cases a : 1 < μ 95 1
  · rw [if_neg (fun z => z a), bk_v, b_5_7 hq, mm_w0, mm_gd (by decide)]
    refine hQ 0 _ X n nr_r fun Q2 hQ2 => ?_
    have ht : 0 ≤ μ 95 1 - 1 - 1 ∧ μ 95 1 - 1 - 1 < 3 := by omega
    have ht1 : 0 ≤ μ 95 1 - 1 ∧ μ 95 1 - 1 < 3 := by omega
    have i1 := mm_inr_r (μ 95 1 - 1)
    have i2 := mm_inr_r (μ 95 1 - 1 - 1)
    have ine := mm_inr_ne ht ht1 (by omega)
    obtain ⟨⟨c1, c2⟩, g2, g3, g4⟩ := hJ.2.2.1
    -- the class's half
    generalize hG : (if b = 0 then chf μ else mm_mg (chf μ) (mm_inr (μ 95 1 - 1 - 1)) (mm_inr (μ 95 1 - 1)) 216) = G
    have eG : ∀ a, a ≠ mm_inr (μ 95 1 - 1 - 1) → G a = chf μ a := fun a ha => by
      rw [← hG]
      split
      · rfl
      · funext j
        unfold mm_mg
        rw [if_neg (fun q => ha q.1)]
    have eGi : ∀ c, 0 ≤ c → c < 216 → G (mm_inr (μ 95 1 - 1 - 1)) c = if b ≠ 0 ∧ μ (mm_inr (μ 95 1 - 1)) c ≠ -2147483648 then μ (mm_inr (μ 95 1 - 1)) c else μ (mm_inr (μ 95 1 - 1 - 1)) c := fun c c0 c1 => by
      rw [← hG]
      by_cases z : b = 0
      · rw [if_pos z, if_neg (fun q => q.1 z), chf_x (by omega)]
      · rw [if_neg z]
        unfold mm_mg
        rw [chf_x (by omega), chf_x (by omega)]
        by_cases y : μ (mm_inr (μ 95 1 - 1)) c ≠ -2147483648
        · rw [if_pos ⟨rfl, c0, c1, y⟩, if_pos ⟨z, y⟩]
        · rw [if_neg (fun q => y q.2.2.2), if_neg (fun q => y q.2)]
    generalize hM : mm_u (mm_u G 95 1 (μ 95 1 - 1)) 178 0 (mm_w (cn (cgot (μ (mm_inr (μ 95 1 - 1)))) 216)) = M
    have eM : ∀ a, a ≠ 178 → a ≠ 95 → a ≠ 107 → a ≠ mm_inr (μ 95 1 - 1 - 1) → M a = μ a := fun a b1 b2 b3 b4 => by
      rw [← hM, mm_uu b1, mm_uu b2, eG a b4, chf_x b3]
    have eM9 : M 129 = μ 129 := eM 129 (by decide) (by decide) (by decide) (by omega)
    have e37 := eM 137 (by decide) (by decide) (by decide) (by omega)
    have e38 := eM 138 (by decide) (by decide) (by decide) (by omega)
    have e95 : M 95 1 = μ 95 1 - 1 := by rw [← hM, mm_uu (by decide), mm_us]
    have e107 : M 107 = fun j => if j = 4 ∨ j = 5 then 0 else μ 107 j := by rw [← hM, mm_uu (by decide), mm_uu (by decide), eG 107 (by omega), chf_7]
    have eMi : M (mm_inr (μ 95 1 - 1 - 1)) = G (mm_inr (μ 95 1 - 1 - 1)) := by rw [← hM, mm_uu (by omega), mm_uu (by omega)]
    have h78 : M 178 0 = mm_w (cn (cgot (μ (mm_inr (μ 95 1 - 1)))) 216) := by rw [← hM, mm_us]
    have hrgM : rg_r M := by
      have := J_rg hJ
      unfold rg_r at this ⊢
      rw [eM9, e37, e38]
      exact this
    rw [c_170 (d := d + 198) hp hrgM hb, eM9, hjn.1, if_neg (fun z => z a)]
    have ertop : cn (rtop M (216 * (μ 95 1 - 1))) 216 = cn (cgot (μ (mm_inr (μ 95 1 - 1)))) 216 := by
      symm
      refine cn_eq fun c c0 c1 => ?_
      have h1 := g3 (μ 95 1 - 1) c ht1.1 (by omega) c0 c1
      have h2 := (g2 (216 * (μ 95 1 - 1) + c) (by omega) (by omega)).2
      unfold cgot rtop
      rw [h1, e37]
      refine decide_eq_decide.mpr ?_
      split
      · rename_i z; exact ⟨fun q => absurd rfl q, fun q => absurd z q⟩
      · rename_i z; exact ⟨fun _ => z, fun _ => by omega⟩
    rw [ertop]
    -- the reference's half
    generalize hD : rdrl (mm_u (mm_u M 129 0 0) 129 8 (μ 95 1 - 1)) (216 * (μ 95 1 - 1)) b 216 = D
    have eD : ∀ a, a ≠ 137 → a ≠ 138 → a ≠ 129 → D a = M a := fun a a1 a2 a3 => by
      rw [← hD]
      funext j
      unfold rdrl
      rw [if_neg (fun q => a1 q.1), if_neg (fun q => a1 q.2.1), if_neg (fun q => a2 q.2.1), mm_uu a3, mm_uu a3]
    have eD9 : ∀ j, D 129 j = if j = 8 then μ 95 1 - 1 else if j = 0 then 0 else μ 129 j := fun j => by
      rw [← hD]
      unfold rdrl
      rw [if_neg (fun q => absurd q.1 (by decide)), if_neg (fun q => absurd q.2.1 (by decide)), if_neg (fun q => absurd q.2.1 (by decide)), mm_ux, mm_ux, eM9]
      by_cases z : j = 8
      · rw [if_pos ⟨rfl, z⟩, if_pos z]
      · rw [if_neg (fun q => z q.2), if_neg z]
        by_cases y : j = 0
        · rw [if_pos ⟨rfl, y⟩, if_pos y]
        · rw [if_neg (fun q => y q.2), if_neg y]
    have eD37 : ∀ j, D 137 j = if 216 * (μ 95 1 - 1) ≤ j ∧ j < 216 * (μ 95 1 - 1) + 216 then 0 else if b ≠ 0 ∧ 216 * (μ 95 1 - 1) - 216 ≤ j ∧ j < 216 * (μ 95 1 - 1) ∧ μ 137 (j + 216) ≠ 0 then 1 else μ 137 j := fun j => by
      rw [← hD]
      unfold rdrl
      rw [mm_uu (show (137 : Nat) ≠ 129 by decide), mm_uu (show (137 : Nat) ≠ 129 by decide), e37]
      by_cases z : 216 * (μ 95 1 - 1) ≤ j ∧ j < 216 * (μ 95 1 - 1) + 216
      · rw [if_pos ⟨rfl, z⟩, if_pos z]
      · rw [if_neg (fun q => z q.2), if_neg z]
        by_cases y : b ≠ 0 ∧ 216 * (μ 95 1 - 1) - 216 ≤ j ∧ j < 216 * (μ 95 1 - 1) ∧ μ 137 (j + 216) ≠ 0
        · rw [if_pos ⟨y.1, rfl, y.2.1, by omega, y.2.2.2⟩, if_pos y]
        · rw [if_neg (fun q => y ⟨q.1, q.2.2.1, by omega, q.2.2.2.2⟩), if_neg y, if_neg (fun q => absurd q.2.1 (by decide))]
    have eD38 : ∀ j, D 138 j = if b ≠ 0 ∧ 216 * (μ 95 1 - 1) - 216 ≤ j ∧ j < 216 * (μ 95 1 - 1) ∧ μ 137 (j + 216) ≠ 0 then μ 138 (j + 216) else μ 138 j := fun j => by
      rw [← hD]
      unfold rdrl
      rw [if_neg (fun q => absurd q.1 (by decide)), if_neg (fun q => absurd q.2.1 (by decide)), mm_uu (show (137 : Nat) ≠ 129 by decide), mm_uu (show (137 : Nat) ≠ 129 by decide), mm_uu (show (138 : Nat) ≠ 129 by decide), mm_uu (show (138 : Nat) ≠ 129 by decide), e37, e38]
      by_cases y : b ≠ 0 ∧ 216 * (μ 95 1 - 1) - 216 ≤ j ∧ j < 216 * (μ 95 1 - 1) ∧ μ 137 (j + 216) ≠ 0
      · rw [if_pos ⟨y.1, rfl, y.2.1, by omega, y.2.2.2⟩, if_pos y]
      · rw [if_neg (fun q => y ⟨q.1, q.2.2.1, by omega, q.2.2.2.2⟩), if_neg y]
    have rr : ∀ a, a ≠ 129 → mm_u (mm_u D 129 37 0) 129 38 0 a = D a := fun a ha => by rw [mm_uu ha, mm_uu ha]
    have r9 : ∀ j, j ≠ 37 → j ≠ 38 → mm_u (mm_u D 129 37 0) 129 38 0 129 j = D 129 j := fun j h1 h2 => by rw [mm_un h2, mm_un h1]
    refine hQ2 _ _ (J_mk [95, 97, 98, 99, 107, 137, 138] [0, 8, 37, 38] (fun b b1 b2 b3 => ?_) (fun j hj => ?_) hJ (Or.inl (by decide)) (Or.inl (by decide)) (Or.inr ?_) (Or.inl (by decide)) (Or.inl (by decide)) (Or.inl (by decide)) (Or.inl (by decide)) (Or.inl (by decide)) (Or.inr ?_) (Or.inl (by decide)) (Or.inl (by decide)) (Or.inr ?_)) ?_ (fun _ => ?_)
    · simp only [List.mem_cons, List.not_mem_nil, or_false, not_or] at b3
      rw [rr b b2, eD b (by omega) (by omega) b2, eM b (by omega) (by omega) (by omega) (by omega)]
    · simp only [List.mem_cons, List.not_mem_nil, or_false, not_or] at hj
      rw [r9 j hj.2.2.1 hj.2.2.2, eD9, if_neg hj.2.1, if_neg hj.1]
    · have rrow : ∀ l, 0 ≤ l → l < 3 → mm_u (mm_u D 129 37 0) 129 38 0 (mm_inr l) = M (mm_inr l) := fun l l0 l1 => by
        have := mm_inr_r l
        rw [rr _ (by omega), eD _ (by omega) (by omega) (by omega)]
      have rold : ∀ l, 0 ≤ l → l < 3 → l ≠ μ 95 1 - 1 - 1 → M (mm_inr l) = μ (mm_inr l) := fun l l0 l1 hl => by
        have := mm_inr_r l
        exact eM _ (by omega) (by omega) (by omega) (mm_inr_ne ⟨l0, l1⟩ ht hl)
      have r95 : mm_u (mm_u D 129 37 0) 129 38 0 95 1 = μ 95 1 - 1 := by rw [rr 95 (by decide), eD 95 (by decide) (by decide) (by decide), e95]
      refine ⟨⟨by rw [r95]; omega, fun l j l0 l1 j0 j1 => ?_⟩, fun j j0 j1 => ?_, fun l c l0 l1 c0 c1 => ?_, fun j j0 j1 => ?_⟩
      · rw [rrow l l0 l1]
        by_cases z : l = μ 95 1 - 1 - 1
        · rw [z, eMi, eGi j j0 j1]
          split
          · exact c2 _ j ht1.1 ht1.2 j0 j1
          · exact c2 _ j ht.1 ht.2 j0 j1
        · rw [rold l l0 l1 z]; exact c2 l j l0 l1 j0 j1
      · rw [rr 137 (by decide), rr 138 (by decide), eD37, eD38]
        refine ⟨?_, ?_⟩
        · split
          · exact Or.inl rfl
          · split
            · exact Or.inr rfl
            · exact (g2 j j0 j1).1
        · split
          · exact (g2 (j + 216) (by omega) (by omega)).2
          · exact (g2 j j0 j1).2
      · rw [r95] at l1
        rw [rrow l l0 (by omega), rr 137 (by decide), rr 138 (by decide), eD37, eD38]
        have hcb := cc_b c0 c1
        by_cases z : l = μ 95 1 - 1 - 1
        · have q1 := g3 (μ 95 1 - 1) c ht1.1 (by omega) c0 c1
          have q2 := g3 (μ 95 1 - 1 - 1) c ht.1 (by omega) c0 c1
          have q3 := (g2 (216 * (μ 95 1 - 1) + c) (by omega) (by omega)).2
          rw [z, eMi, eGi _ hcb.1 hcb.2, q1, q2]
          have ex : 216 * (μ 95 1 - 1 - 1) + c + 216 = 216 * (μ 95 1 - 1) + c := by omega
          rw [ex]
          simp only [if_neg (show ¬ (216 * (μ 95 1 - 1) ≤ 216 * (μ 95 1 - 1 - 1) + c ∧ 216 * (μ 95 1 - 1 - 1) + c < 216 * (μ 95 1 - 1) + 216) by omega)]
          by_cases y : μ 137 (216 * (μ 95 1 - 1) + c) = 0
          · simp only [if_pos y, if_neg (show ¬ (b ≠ 0 ∧ 216 * (μ 95 1 - 1) - 216 ≤ 216 * (μ 95 1 - 1 - 1) + c ∧ 216 * (μ 95 1 - 1 - 1) + c < 216 * (μ 95 1 - 1) ∧ μ 137 (216 * (μ 95 1 - 1) + c) ≠ 0) from fun q => q.2.2.2 y), if_neg (show ¬ (b ≠ 0 ∧ (-2147483648 : Int) ≠ -2147483648) from fun q => q.2 rfl)]
          · by_cases x : b = 0
            · simp only [if_neg y, if_neg (show ¬ (b ≠ 0 ∧ 216 * (μ 95 1 - 1) - 216 ≤ 216 * (μ 95 1 - 1 - 1) + c ∧ 216 * (μ 95 1 - 1 - 1) + c < 216 * (μ 95 1 - 1) ∧ μ 137 (216 * (μ 95 1 - 1) + c) ≠ 0) from fun q => q.1 x), if_neg (show ¬ (b ≠ 0 ∧ μ 138 (216 * (μ 95 1 - 1) + c) ≠ -2147483648) from fun q => q.1 x)]
            · simp only [if_neg y, if_pos (show (b ≠ 0 ∧ 216 * (μ 95 1 - 1) - 216 ≤ 216 * (μ 95 1 - 1 - 1) + c ∧ 216 * (μ 95 1 - 1 - 1) + c < 216 * (μ 95 1 - 1) ∧ μ 137 (216 * (μ 95 1 - 1) + c) ≠ 0) from ⟨x, by omega, by omega, y⟩), if_pos (show (b ≠ 0 ∧ μ 138 (216 * (μ 95 1 - 1) + c) ≠ -2147483648) from ⟨x, by omega⟩), if_neg (show ¬ (1 : Int) = 0 by decide)]
        · rw [rold l l0 (by omega) z]
          simp only [if_neg (show ¬ (216 * (μ 95 1 - 1) ≤ 216 * l + c ∧ 216 * l + c < 216 * (μ 95 1 - 1) + 216) by omega), if_neg (show ¬ (b ≠ 0 ∧ 216 * (μ 95 1 - 1) - 216 ≤ 216 * l + c ∧ 216 * l + c < 216 * (μ 95 1 - 1) ∧ μ 137 (216 * l + c + 216) ≠ 0) by omega)]
          exact g3 l c l0 (by omega) c0 c1
      · rw [r95] at j0
        rw [rr 137 (by decide), eD37]
        by_cases z : 216 * (μ 95 1 - 1) ≤ j ∧ j < 216 * (μ 95 1 - 1) + 216
        · rw [if_pos z]
        · rw [if_neg z, if_neg (by omega)]
          exact g4 j (by omega) j1
    · unfold J_n
      rw [r9 8 (by decide) (by decide), r9 65 (by decide) (by decide), r9 64 (by decide) (by decide), r9 46 (by decide) (by decide), eD9, eD9, eD9, eD9, rr 95 (by decide), rr 122 (by decide), eD 95 (by decide) (by decide) (by decide), eD 122 (by decide) (by decide) (by decide), e95, eM 122 (by decide) (by decide) (by decide) (by omega)]
      exact ⟨rfl, hjn.2⟩
    · refine J_h_f (μ := μ) ?_ ?_ ?_ ?_ ?_ ?_ (fun b b1 b2 => ?_) (J_jh hJ)
      · rw [rr 107 (by decide), eD 107 (by decide) (by decide) (by decide), e107]; rfl
      · rw [rr 107 (by decide), eD 107 (by decide) (by decide) (by decide), e107]; rfl
      · rw [rr 107 (by decide), eD 107 (by decide) (by decide) (by decide), e107]; rfl
      · rw [rr 121 (by decide), eD 121 (by decide) (by decide) (by decide), eM 121 (by decide) (by decide) (by decide) (by omega)]
      · rw [mm_un (by decide), mm_us]
      · rw [mm_us]
      · rw [rr b (by omega), eD b (by omega) (by omega) (by omega), eM b (by omega) (by omega) (by omega) (by omega)]
    · rw [r9 0 (by decide) (by decide), eD9]; rfl
    · rw [rr 178 (by decide), eD 178 (by decide) (by decide) (by decide), h78]
  · rw [if_pos a]
    refine ⟨n0_6 hn, ?_⟩
    rw [bk_h (hp := 12) (by decide +kernel), b_5_12 hq]
    refine hQ 1 _ X _ (nr_t hn) fun Q2 hQ2 => ?_
    rw [c_170 (d := d + 198) hp (J_rg hJ) hb, if_pos (by rw [hjn.1]; exact a)]
    exact hQ2 0 _ (J_th hJ) mm_us (fun z => absurd z (by decide))
end LC
