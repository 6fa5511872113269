/-! Counts of both sides; calls of both sides: count, layer, dropLayer. -/
section CN
variable {P R : Int → Bool} {a b : Nat}
theorem cn_g (n : Nat) (h : ∀ c : Int, 0 ≤ c → c < n → P c = R c) : cn P n = cn R n := by
  induction n with
  | zero => rfl
  | succ n ih =>
    unfold cn
    rw [ih (fun c c0 c1 => h c c0 (by omega)), h n (by omega) (by omega)]
theorem cn_p : ∀ n : Nat, cn P n = (((List.range n).map fun (i : Nat) => (i : Int)).countP P : Int) := by
  intro n
  induction n with
  | zero => rfl
  | succ n ih =>
    unfold cn
    rw [ih, List.range_succ, List.map_append, List.countP_append]
    by_cases g : P n = true
    · rw [if_pos g]; simp [g]
    · rw [if_neg g]; simp [g]
theorem cc_perm : ((List.range 216).map fun (i : Nat) => cc (i : Int)).Perm ((List.range 216).map fun (i : Nat) => (i : Int)) := by
  decide +kernel
theorem cn_cc : cn (fun c => P (cc c)) 216 = cn P 216 := by
  rw [cn_p, cn_p, ← List.Perm.countP_eq P cc_perm, List.countP_map, List.countP_map]
  rfl
/-- the class's count over its cells is the reference's over its own -/
theorem cn_eq (h : ∀ c : Int, 0 ≤ c → c < 216 → P (cc c) = R c) : cn P 216 = cn R 216 := by
  rw [← cn_cc]
  exact cn_g 216 h
theorem cn_add : ∀ b : Nat, cn P (a + b) = cn P a + cn (fun j => P (a + j)) b := by
  intro b
  induction b with
  | zero => show cn P a = cn P a + 0; omega
  | succ b ih =>
    rw [show a + (b + 1) = (a + b) + 1 by omega, cn_s, cn_s, ih, show ((a + b : Nat) : Int) = (a : Int) + b by omega]
    omega
end CN
section LC
variable {d : Nat} {w : mm_Z} {μ : mm_M} {X : mm_X} {n : mm_N} {e m l k v b : Int}
theorem J_all (hg : J_g μ) : ∀ L : Nat, (L : Int) ≤ μ 95 1 → cgall μ L = cn (rhas μ) (216 * L) := by
  intro L
  induction L with
  | zero => intro _; rfl
  | succ L ih =>
    intro hL
    have h3 := hg.1.1
    unfold cgall
    rw [ih (by omega), show 216 * (L + 1) = 216 * L + 216 by omega, cn_add]
    have hc : cn (cgot (μ (mm_inr L))) 216 = cn (fun j => rhas μ (((216 * L : Nat) : Int) + j)) 216 := ?_
    · rw [hc]
    refine cn_eq fun c c0 c1 => ?_
    have h1 := hg.2.2.1 L c (by omega) (by omega) c0 c1
    have h2 := (hg.2.1 (216 * L + c) (by omega) (by omega)).2
    unfold cgot rhas
    rw [h1, show ((216 * L : Nat) : Int) + c = 216 * (L : Int) + c by omega]
    refine decide_eq_decide.mpr ?_
    split
    · rename_i z; exact ⟨fun q => absurd rfl q, fun q => absurd z q⟩
    · rename_i z; exact ⟨fun _ => z, fun _ => by omega⟩
theorem L_count (hq : mm_Q w) (hJ : J μ) (hn : n0 n) (g1 : -2147483648 ≤ m) (g2 : m ≤ 2147483647) : PRI w X n (d + 200) 3 [.ref 32, .int (Int32.ofInt (m)), .ref 178] 166 [.ref 129, .int (Int32.ofInt (m))] μ := by
  intro Q1 hQ
  have hp := mm_QP hq
  have hJo : ∀ v, J (mm_u μ 178 0 v) := fun v => J_o hJ
  rw [en_3 (d := d + 199), b_3_0 hq, c_27 (d := d + 197) hp (J_cg1 hJ) g1 g2]
  have go : ∀ v, (0 ≤ m ∧ m ≤ 8) → v = (if m = 3 then μ 129 11 else if m = 4 then μ 129 8 else if m = 5 then cn (rhas μ) (216 * μ 129 8).toNat else if m = 6 then μ 129 38 else if m = 7 then μ 129 37 - μ 129 38 else if m = 8 then μ 129 23 else rt_many (rp μ m)) → am_bk 3 4 [some (.ref 32), some (.int (Int32.ofInt (m))), some (.ref 178), none] [.int (Int32.ofInt (0)), .ref 178] (am_E (d + 199) 3 Q1) Q1 (.inl (some (.int (Int32.ofInt (v))))) (mm_hp w μ X n) := by
    intro v hk hv
    rw [bk_v, b_3_7 hq, mm_w0, mm_gd (by decide)]
    refine hQ 0 _ X n nr_r fun Q2 hQ2 => ?_
    have er : rhas (mm_u μ 178 0 (mm_w v)) = rhas μ := by unfold rhas; rw [mm_uu (by decide)]
    rw [c_166 (d := d + 198) hp (J_rt (hJo _)) (J_rg (hJo _)) g1 g2, if_neg (fun z => z hk), mm_uu (show (129 : Nat) ≠ 178 by decide), er, rp_c (mm_uu (by decide)) (mm_uu (by decide)), ← hv]
    refine hQ2 _ _ (J_th (hJo _)) mm_us (fun _ => ?_)
    unfold rth
    rw [mm_uu (by decide), mm_us]
  have hjn := J_jn hJ
  have hjh := J_jh hJ
  have hl3 := (J_cg1 hJ).1
  by_cases a : 0 ≤ m ∧ m < 3
  · rw [if_pos a]
    refine go _ (by omega) ?_
    rw [if_neg (by omega), if_neg (by omega), if_neg (by omega), if_neg (by omega), if_neg (by omega), if_neg (by omega)]
    exact (hJ.1 m a.1 a.2).2.2.2.2.2
  · rw [if_neg a]
    by_cases a3 : m = 3
    · rw [if_pos a3]
      refine go _ (by omega) ?_
      rw [if_pos a3]; exact hJ.2.1.2.2.1
    · rw [if_neg a3]
      by_cases a4 : m = 4
      · rw [if_pos a4]
        refine go _ (by omega) ?_
        rw [if_neg a3, if_pos a4]; exact hjn.1.symm
      · rw [if_neg a4]
        by_cases a5 : m = 5
        · rw [if_pos a5]
          refine go _ (by omega) ?_
          rw [if_neg a3, if_neg a4, if_pos a5, J_all hJ.2.2.1 (μ 95 1).toNat (by omega), hjn.1]
          congr 1
          omega
        · rw [if_neg a5]
          by_cases a6 : m = 6
          · rw [if_pos a6]
            refine go _ (by omega) ?_
            rw [if_neg a3, if_neg a4, if_neg a5, if_pos a6]; exact hjh.2.2.2.1
          · rw [if_neg a6]
            by_cases a7 : m = 7
            · rw [if_pos a7]
              refine go _ (by omega) ?_
              rw [if_neg a3, if_neg a4, if_neg a5, if_neg a6, if_pos a7]
              have h1 := hjh.2.2.2.1
              have h2 := hjh.2.2.2.2.1
              omega
            · rw [if_neg a7]
              by_cases a8 : m = 8
              · rw [if_pos a8]
                refine go _ (by omega) ?_
                rw [if_neg a3, if_neg a4, if_neg a5, if_neg a6, if_neg a7, if_pos a8]; exact (J_jx hJ).1.symm
              · rw [if_neg a8]
                refine ⟨n0_6 hn, ?_⟩
                rw [bk_h (hp := 12) (by decide +kernel), b_3_12 hq]
                refine hQ 1 _ X _ (nr_t hn) fun Q2 hQ2 => ?_
                rw [c_166 (d := d + 198) hp (J_rt hJ) (J_rg hJ) g1 g2, if_pos (by omega)]
                exact hQ2 0 _ (J_th hJ) mm_us (fun z => absurd z (by decide))
theorem mm_inr_ne {a b : Int} (ha : 0 ≤ a ∧ a < 3) (hb : 0 ≤ b ∧ b < 3) (h : a ≠ b) : mm_inr a ≠ mm_inr b := by
  have h1 := mm_inr_e ha.1 ha.2
  have h2 := mm_inr_e hb.1 hb.2
  omega
theorem L_layer (hq : mm_Q w) (hJ : J μ) (hn : n0 n) : PRI w X n (d + 200) 10 [.ref 32, .ref 178] 199 [.ref 129] μ := by
  intro Q1 hQ
  have hp := mm_QP hq
  have hjn := J_jn hJ
  have hl3 := (J_cg1 hJ).1
  rw [en_10 (d := d + 199), b_10_0 hq, c_36 (d := d + 196) hp (J_cg1 hJ)]
  by_cases a : μ 95 1 < 3
  · rw [if_neg (fun z => z a), bk_v, b_10_6 hq, mm_w0, mm_gd (by decide)]
    refine hQ 0 _ X n nr_r fun Q2 hQ2 => ?_
    generalize hM : mm_u (mm_u (mm_fi (chf μ) (mm_inr (μ 95 1)) 216 (-2147483648)) 95 1 (μ 95 1 + 1)) 178 0 (mm_w (μ 95 1)) = M
    have hir := mm_inr_r (μ 95 1)
    have eM : ∀ b, b ≠ 178 → b ≠ 95 → b ≠ 107 → b ≠ mm_inr (μ 95 1) → M b = μ b := fun b b1 b2 b3 b4 => by
      rw [← hM, mm_uu b1, mm_uu b2, mm_fi_ne b4]
      unfold chf
      rw [mm_uu b3, mm_uu b3]
    have eM9 : M 129 = μ 129 := eM 129 (by decide) (by decide) (by decide) (by omega)
    have hrgM : rg_r M := by
      have := J_rg hJ
      unfold rg_r at this ⊢
      rw [eM9, eM 137 (by decide) (by decide) (by decide) (by omega), eM 138 (by decide) (by decide) (by decide) (by omega)]
      exact this
    rw [c_199 (d := d + 198) hp hrgM, eM9, hjn.1, if_neg (by omega)]
    have e95 : M 95 1 = μ 95 1 + 1 := by rw [← hM, mm_uu (by decide), mm_us]
    have erow : M (mm_inr (μ 95 1)) = fun j => if 0 ≤ j ∧ j < 216 then -2147483648 else μ (mm_inr (μ 95 1)) j := by
      rw [← hM, mm_uu (by omega), mm_uu (by omega)]
      funext j
      unfold mm_fi chf
      rw [mm_uu (by omega), mm_uu (by omega)]
      by_cases z : 0 ≤ j ∧ j < 216
      · rw [if_pos ⟨rfl, z⟩, if_pos z]
      · rw [if_neg (fun q => z q.2), if_neg z]
    have e107 : M 107 = fun j => if j = 4 ∨ j = 5 then 0 else μ 107 j := by
      rw [← hM, mm_uu (by decide), mm_uu (by decide), mm_fi_ne (by omega)]
      funext j
      unfold chf
      rw [mm_ux, mm_ux]
      by_cases z5 : j = 5
      · rw [if_pos ⟨rfl, z5⟩, if_pos (Or.inr z5)]
      · by_cases z4 : j = 4
        · rw [if_neg (fun q => z5 q.2), if_pos ⟨rfl, z4⟩, if_pos (Or.inl z4)]
        · rw [if_neg (fun q => z5 q.2), if_neg (fun q => z4 q.2), if_neg (by omega)]
    have h78 : M 178 0 = mm_w (μ 95 1) := by rw [← hM, mm_us]
    have e37 : rclr (mm_u M 129 0 0) (216 * μ 95 1) 216 137 = fun j => if 216 * μ 95 1 ≤ j ∧ j < 216 * μ 95 1 + 216 then 0 else μ 137 j := by
      funext j
      unfold rclr
      rw [mm_uu (by decide), eM 137 (by decide) (by decide) (by decide) (by omega)]
      by_cases z : 216 * μ 95 1 ≤ j ∧ j < 216 * μ 95 1 + 216
      · rw [if_pos ⟨rfl, z⟩, if_pos z]
      · rw [if_neg (fun q => z q.2), if_neg z]
    have ecl : ∀ b, b ≠ 137 → b ≠ 129 → rclr (mm_u M 129 0 0) (216 * μ 95 1) 216 b = M b := fun b b1 b2 => by
      funext j
      unfold rclr
      rw [if_neg (fun q => b1 q.1), mm_uu b2]
    have ecl9 : ∀ j, j ≠ 0 → rclr (mm_u M 129 0 0) (216 * μ 95 1) 216 129 j = μ 129 j := fun j hj => by
      unfold rclr
      rw [if_neg (fun q => absurd q.1 (by decide)), mm_un hj, eM9]
    have ecl0 : rclr (mm_u M 129 0 0) (216 * μ 95 1) 216 129 0 = 0 := by
      unfold rclr
      rw [if_neg (fun q => absurd q.1 (by decide)), mm_us]
    generalize rclr (mm_u M 129 0 0) (216 * μ 95 1) 216 = M2 at e37 ecl ecl9 ecl0 ⊢
    refine hQ2 _ _ (J_mk [95, 97, 98, 99, 107, 137] [0, 8, 37, 38] (fun b b1 b2 b3 => ?_) (fun j hj => ?_) hJ (Or.inl (by decide)) (Or.inl (by decide)) (Or.inr ?_) (Or.inl (by decide)) (Or.inl (by decide)) (Or.inl (by decide)) (Or.inl (by decide)) (Or.inl (by decide)) (Or.inr ?_) (Or.inl (by decide)) (Or.inl (by decide)) (Or.inr ?_)) ?_ (fun _ => ?_)
    · simp only [List.mem_cons, List.not_mem_nil, or_false, not_or] at b3
      rw [mm_uu b2, mm_uu b2, mm_uu b2, ecl b (by omega) b2, eM b (by omega) (by omega) (by omega) (by omega)]
    · simp only [List.mem_cons, List.not_mem_nil, or_false, not_or] at hj
      rw [mm_un hj.2.2.2, mm_un hj.2.2.1, mm_un hj.2.1, ecl9 j hj.1]
    · obtain ⟨⟨c1, c2⟩, g2, g3, g4⟩ := hJ.2.2.1
      have r95 : mm_u (mm_u (mm_u M2 129 8 (μ 95 1 + 1)) 129 37 0) 129 38 0 95 1 = μ 95 1 + 1 := by rw [mm_uu (by decide), mm_uu (by decide), mm_uu (by decide), ecl 95 (by decide) (by decide), e95]
      have rrow : ∀ l, 0 ≤ l → l < 3 → mm_u (mm_u (mm_u M2 129 8 (μ 95 1 + 1)) 129 37 0) 129 38 0 (mm_inr l) = M (mm_inr l) := fun l l0 l1 => by
        have := mm_inr_r l
        rw [mm_uu (by omega), mm_uu (by omega), mm_uu (by omega), ecl _ (by omega) (by omega)]
      have rold : ∀ l, 0 ≤ l → l < 3 → l ≠ μ 95 1 → M (mm_inr l) = μ (mm_inr l) := fun l l0 l1 hl => by
        have := mm_inr_r l
        exact eM _ (by omega) (by omega) (by omega) (mm_inr_ne ⟨l0, l1⟩ ⟨by omega, a⟩ hl)
      have r37 : mm_u (mm_u (mm_u M2 129 8 (μ 95 1 + 1)) 129 37 0) 129 38 0 137 = fun j => if 216 * μ 95 1 ≤ j ∧ j < 216 * μ 95 1 + 216 then 0 else μ 137 j := by rw [mm_uu (by decide), mm_uu (by decide), mm_uu (by decide), e37]
      have r38 : mm_u (mm_u (mm_u M2 129 8 (μ 95 1 + 1)) 129 37 0) 129 38 0 138 = μ 138 := by rw [mm_uu (by decide), mm_uu (by decide), mm_uu (by decide), ecl 138 (by decide) (by decide), eM 138 (by decide) (by decide) (by decide) (by omega)]
      refine ⟨⟨by rw [r95]; omega, fun l j l0 l1 j0 j1 => ?_⟩, fun j j0 j1 => ?_, fun l c l0 l1 c0 c1 => ?_, fun j j0 j1 => ?_⟩
      · rw [rrow l l0 l1]
        by_cases z : l = μ 95 1
        · rw [z, erow]
          dsimp only
          rw [if_pos ⟨j0, j1⟩]; decide
        · rw [rold l l0 l1 z]; exact c2 l j l0 l1 j0 j1
      · rw [r37, r38]
        refine ⟨?_, (g2 j j0 j1).2⟩
        dsimp only
        split
        · exact Or.inl rfl
        · exact (g2 j j0 j1).1
      · rw [r95] at l1
        rw [rrow l l0 (by omega), r37, r38]
        dsimp only
        have hcb := cc_b c0 c1
        by_cases z : l = μ 95 1
        · rw [z, erow]
          dsimp only
          rw [if_pos hcb, if_pos (by omega)]
        · rw [rold l l0 (by omega) z]
          simp only [if_neg (show ¬ (216 * μ 95 1 ≤ 216 * l + c ∧ 216 * l + c < 216 * μ 95 1 + 216) by omega)]
          exact g3 l c l0 (by omega) c0 c1
      · rw [r95] at j0
        rw [r37]
        dsimp only
        rw [if_neg (by omega)]
        exact g4 j (by omega) j1
    · unfold J_n
      rw [mm_un (show (8 : Int) ≠ 38 by decide), mm_un (show (8 : Int) ≠ 37 by decide), mm_us, mm_un (show (65 : Int) ≠ 38 by decide), mm_un (show (65 : Int) ≠ 37 by decide), mm_un (show (65 : Int) ≠ 8 by decide), mm_un (show (64 : Int) ≠ 38 by decide), mm_un (show (64 : Int) ≠ 37 by decide), mm_un (show (64 : Int) ≠ 8 by decide), mm_un (show (46 : Int) ≠ 38 by decide), mm_un (show (46 : Int) ≠ 37 by decide), mm_un (show (46 : Int) ≠ 8 by decide), ecl9 65 (by decide), ecl9 64 (by decide), ecl9 46 (by decide)]
      simp only [mm_uu (show (95 : Nat) ≠ 129 by decide), mm_uu (show (122 : Nat) ≠ 129 by decide), ecl 95 (by decide) (by decide), ecl 122 (by decide) (by decide), e95, eM 122 (by decide) (by decide) (by decide) (by omega)]
      exact ⟨trivial, hjn.2⟩
    · have k107 : ∀ j, mm_u (mm_u (mm_u M2 129 8 (μ 95 1 + 1)) 129 37 0) 129 38 0 107 j = M 107 j := fun j => by rw [mm_uu (by decide), mm_uu (by decide), mm_uu (by decide), ecl 107 (by decide) (by decide)]
      refine J_h_f (μ := μ) ?_ ?_ ?_ ?_ ?_ ?_ (fun b b1 b2 => ?_) (J_jh hJ)
      · rw [k107, e107]; rfl
      · rw [k107, e107]; rfl
      · rw [k107, e107]; rfl
      · rw [mm_uu (by decide), mm_uu (by decide), mm_uu (by decide), ecl 121 (by decide) (by decide), eM 121 (by decide) (by decide) (by decide) (by omega)]
      · rw [mm_un (by decide), mm_us]
      · rw [mm_us]
      · rw [mm_uu (by omega), mm_uu (by omega), mm_uu (by omega), ecl b (by omega) (by omega), eM b (by omega) (by omega) (by omega) (by omega)]
    · rw [mm_un (by decide), mm_un (by decide), mm_un (by decide), ecl0]
    · rw [mm_uu (by decide), mm_uu (by decide), mm_uu (by decide), ecl 178 (by decide) (by decide), h78]
  · rw [if_pos a]
    refine ⟨n0_6 hn, ?_⟩
    rw [bk_h (hp := 11) (by decide +kernel), b_10_11 hq]
    refine hQ 1 _ X _ (nr_t hn) fun Q2 hQ2 => ?_
    rw [c_199 (d := d + 198) hp (J_rg hJ), if_pos (by rw [hjn.1]; omega)]
    exact hQ2 0 _ (J_th hJ) mm_us (fun z => absurd z (by decide))
end LC
