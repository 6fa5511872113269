/-! Calls of both sides: spread, the call. -/
section SP
variable {d : Nat} {w : mm_Z} {μ μ' M : mm_M} {X : mm_X} {n : mm_N} {e m c v i l p k A s : Int} {R : List Int} {W : Int → Int}
theorem chk_b (h : ∀ b, b < 129 → μ' b = μ b) : ∀ b, b < 129 → chk μ' l b = chk μ l b := by
  have h7 := h 107 (by decide)
  have hi := mm_inr_r l
  have key : ∀ f dn : Int, ∀ b, b < 129 → ch_keep μ' l f dn b = ch_keep μ l f dn b := fun f dn b hb => by
    unfold ch_keep
    funext j
    simp only [mm_ux]
    have e : mm_cp (mm_u (mm_u μ' 107 3 f) 107 4 dn) (mm_inr l) (mm_row ((f + dn) % 12)) 216 b j = mm_cp (mm_u (mm_u μ 107 3 f) 107 4 dn) (mm_inr l) (mm_row ((f + dn) % 12)) 216 b j := by
      unfold mm_cp
      simp only [mm_ux, h (mm_inr l) (by omega), h b hb]
    rw [e]
  intro b hb
  unfold chk
  rw [h7]
  split
  · exact key _ _ b hb
  · exact key _ _ b hb
theorem cshm_w {L V : Int → Int} (h : ∀ b, b < 129 → μ' b = μ b) : ∀ k : Nat, ∀ b, b < 129 → cshm μ' l L V k b = cshm μ l L V k b := by
  intro k
  induction k with
  | zero => exact h
  | succ k ih =>
    intro b hb
    show mm_u (cshm μ' l L V k) (mm_inr l) (L k) (V k) b = mm_u (cshm μ l L V k) (mm_inr l) (L k) (V k) b
    funext j
    rw [mm_ux, mm_ux, ih b hb]
theorem sqp_0 : sqp p A s W 0 = 0 := by
  unfold sqp
  have : (0 : Int).toNat = 0 := rfl
  rw [this]
  split
  · rw [Int.mul_zero, Int.zero_tdiv]
  · show (p * 0).tdiv _ = 0
    rw [Int.mul_zero, Int.zero_tdiv]
theorem L_spread (hq : mm_Q w) (hJ : J μ) (hn : n0 n) (l1 : -2147483648 ≤ l) (l2 : l ≤ 2147483647) (p1 : -2147483648 ≤ p) (p2 : p ≤ 2147483647) : PRI w X n (d + 200) 18 [.ref 32, .int (Int32.ofInt (l)), .int (Int32.ofInt (p)), .ref 178] 229 [.ref 129, .int (Int32.ofInt (l)), .int (Int32.ofInt (p))] μ := by
  intro Q1 hQ
  have hp := mm_QP hq
  obtain ⟨hc1, hc2⟩ := J_ch hJ
  have hjn := J_jn hJ
  have hl3 := (J_cg1 hJ).1
  have hiff : ((0 ≤ l ∧ l < μ 95 1) ∧ (μ (mm_tr 0 + 1) (μ 128 0) ≠ -2 ∧ μ (mm_tr 1 + 1) (μ 128 1) ≠ -2 ∧ μ (mm_tr 2 + 1) (μ 128 2) ≠ -2)) ↔ ((0 ≤ l ∧ l < μ 95 1) ∧ 0 ≤ rhere μ) := by rw [hc1]
  obtain ⟨R, hR⟩ : ∃ R, R = rsps μ (rhere μ) := ⟨_, rfl⟩
  have hlen : 0 ≤ rhere μ → (cgs μ).length = R.length := fun ho => by rw [J_cgs hJ ho, List.length_map, hR]
  rw [en_18 (d := d + 199), b_18_0 hq]
  refine c_44 (d := d + 191) hp (J_ct hJ) (J_cr hJ) (J_cc hJ) (J_cg1 hJ) (J_jh hJ).1 hjn.2.2.1 (fun a i j ij jt => ?_) l1 l2 p1 p2 (fun a => ?_) (fun a b => ?_) (fun a b g μ' f => ?_) (fun a b g μ' f => ?_)
  · have ho := (hiff.mp a).2
    rw [hlen ho, hR] at jt
    have h1 := J_cgd hJ ho (j := (i : Int)) (by omega) (by omega)
    have h2 := J_cgd hJ ho (j := (j : Int)) (by omega) (by omega)
    rw [show ((i : Int)).toNat = i by omega] at h1
    rw [show ((j : Int)).toNat = j by omega] at h2
    rw [h1.1, h2.1]
    intro q
    have := congrArg cc q
    rw [cc_cc h1.2.1 h1.2.2, cc_cc h2.2.1 h2.2.2] at this
    exact rsps_d hJ ij jt this
  · refine ⟨n0_6 hn, ?_⟩
    rw [bk_h (hp := 13) (by decide +kernel), b_18_13 hq]
    refine hQ 1 _ X _ (nr_t hn) fun Q2 hQ2 => ?_
    exact c_229E (d := d + 194) (R := R) hp hJ (fun _ _ _ => rfl) l1 l2 p1 p2 hR (fun _ => hQ2 0 _ (J_th hJ) mm_us (fun z => absurd z (by decide))) (fun z => absurd (hiff.mpr z) a) (fun z => absurd (hiff.mpr z) a) (fun z => absurd (hiff.mpr z) a)
  · have a' := hiff.mp a
    refine ⟨n0_6 hn, ?_⟩
    rw [bk_h (hp := 17) (by decide +kernel), b_18_17 hq]
    refine hQ 2 _ X _ (nr_t hn) fun Q2 hQ2 => ?_
    exact c_229E (d := d + 194) (R := R) hp hJ (fun _ _ _ => rfl) l1 l2 p1 p2 hR (fun z => absurd a' z) (fun _ _ => hQ2 0 _ (J_176 hJ) mm_us (fun z => absurd z (by decide))) (fun _ z => absurd z b) (fun _ z => absurd z b)
  · have a' := hiff.mp a
    have g' : ¬ rok μ l R := fun z => g ((J_ok hJ a'.2 a.1).mpr (by rw [← hR]; exact z))
    refine ⟨n0_6 hn, ?_⟩
    rw [bk_h (hp := 21) (by decide +kernel), b_18_21 hq]
    refine hQ 3 _ X _ (nr_t hn) fun Q2 hQ2 => ?_
    exact c_229E (d := d + 194) (R := R) (M := μ') hp hJ (fun b b0 b1 => f b (by omega) (by omega)) l1 l2 p1 p2 hR (fun z => absurd a' z) (fun _ z => absurd b z) (fun _ _ _ => hQ2 0 _ (J_176 (J_125 hJ f)) mm_us (fun z => absurd z (by decide))) (fun _ _ z => absurd z g')
  · have a' := hiff.mp a
    have ho := a'.2
    have g' : rok μ l R := by rw [hR]; exact (J_ok hJ ho a.1).mp g
    have ht : (cgs μ).length = R.length := hlen ho
    have hir := mm_inr_r l
    obtain ⟨t, htt⟩ : ∃ t : Nat, t = R.length := ⟨_, rfl⟩
    obtain ⟨W, hW⟩ : ∃ W : Int → Int, W = fun j => rwt μ l (R.getD j.toNat 0) := ⟨_, rfl⟩
    obtain ⟨L, hL⟩ : ∃ L : Int → Int, L = fun j => R.getD j.toNat 0 := ⟨_, rfl⟩
    have hcW : ∀ j : Int, 0 ≤ j → j < (t : Int) → cW μ l j = W j := fun j j0 j1 => by
      rw [hW]
      show cwt μ l _ = rwt μ l _
      have := J_W hJ ho a.1 (j := j) j0 (by rw [← hR, ← htt]; exact j1)
      rw [this, ← hR]
    have hcL : ∀ j : Int, 0 ≤ j → j < (t : Int) → (cgs μ).getD j.toNat 0 = cc (L j) ∧ 0 ≤ L j ∧ L j < 216 := fun j j0 j1 => by
      have := J_cgd hJ ho (j := j) j0 (by rw [← hR, ← htt]; exact j1)
      rw [← hR] at this
      rw [hL]
      exact this
    have htot : tot (cW μ l) t 0 = tot W t 0 := tot_c t 0 fun j j0 j1 => hcW j j0 (by omega)
    have hw0 : ∀ j : Int, 0 ≤ j → j < (t : Int) → 0 ≤ W j := fun j j0 j1 => by
      have h := (bl_iff _ _).mp g'.2.2.1 j j0 (by rw [← htt]; omega)
      rw [hW]
      exact of_decide_eq_true h
    have hA2 : tot W t 0 ≤ 2000000000 := by
      have := g'.2.2.2.2
      rw [← htt] at this
      rw [hW]
      exact this
    have ht216 : t ≤ 216 := by rw [htt, hR]; exact rsps_l (J_rl hJ)
    obtain ⟨V, hV⟩ : ∃ V : Int → Int, V = fun j => sqp p (tot W t 0) t W (j + 1) - sqp p (tot W t 0) t W j := ⟨_, rfl⟩
    have hVb : ∀ j : Nat, j < t → -2000000000 ≤ V j ∧ V j ≤ 2000000000 := fun j hj => by rw [hV]; exact (sqp_b b rfl hw0 rfl hA2 (by omega)).1
    have hC : cshm (chk μ' l) l (fun j => (cgs μ).getD j.toNat 0) (fun j => sqp p (tot (cW μ l) (cgs μ).length 0) (cgs μ).length (cW μ l) (j + 1) - sqp p (tot (cW μ l) (cgs μ).length 0) (cgs μ).length (cW μ l) j) (cgs μ).length = cshm (chk μ' l) l (fun j => cc (L j)) V t := by
      rw [ht, ← htt]
      refine cshm_c t fun j hj => ⟨(hcL j (by omega) (by omega)).1, ?_⟩
      rw [hV, htot]
      show sqp p (tot W t 0) t (cW μ l) ((j : Int) + 1) - sqp p (tot W t 0) t (cW μ l) j = sqp p (tot W t 0) t W ((j : Int) + 1) - sqp p (tot W t 0) t W j
      have s1 := sqp_c (p := p) (A := tot W t 0) (s := t) (W := W) (W' := cW μ l) (k := j) (fun i i0 i1 => hcW i i0 (by omega))
      have s2 := sqp_c (p := p) (A := tot W t 0) (s := t) (W := W) (W' := cW μ l) (k := j + 1) (fun i i0 i1 => hcW i i0 (by omega))
      rw [show (((j + 1 : Nat)) : Int) = (j : Int) + 1 by omega] at s2
      rw [s1, s2]
    rw [hC, ht, ← htt, bk_v, b_18_8 hq, mm_w0, mm_gd (by decide)]
    refine hQ 0 _ X n nr_r fun Q2 hQ2 => ?_
    generalize hCC : cshm (chk μ' l) l (fun j => cc (L j)) V t = C
    generalize hM : mm_u (mm_u C 122 9 t) 178 0 (mm_w t) = M
    have C0 : ∀ b, 122 < b → b ≠ 125 → b ≠ 126 → C b = μ b := fun b b0 b1 b2 => by
      rw [← hCC, cshm_o (by omega), chk_o (by omega) (by omega) (by omega), f b b1 b2]
    have hE : ∀ b, 129 ≤ b → b < 178 → M b = μ b := fun b b0 b1 => by rw [← hM, mm_uu (by omega), mm_uu (by omega), C0 b (by omega) (by omega) (by omega)]
    refine c_229E (d := d + 194) (R := R) (M := M) hp hJ hE l1 l2 p1 p2 hR (fun z => absurd a' z) (fun _ z => absurd b z) (fun _ _ z => absurd g' z) (fun _ _ _ => ?_)
    generalize hM0 : mm_u (mm_pl M 176 R) 129 0 0 = M0
    have m0J : J (asm μ' M0) := by
      refine J_mk [125, 126, 176] [0] (fun b b1 b2 b3 => ?_) (fun j hj => ?_) hJ (Or.inl (by decide)) (Or.inl (by decide)) (Or.inl (by decide)) (Or.inl (by decide)) (Or.inl (by decide)) (Or.inl (by decide)) (Or.inl (by decide)) (Or.inl (by decide)) (Or.inl (by decide)) (Or.inl (by decide)) (Or.inl (by decide)) (Or.inl (by decide))
      · simp only [List.mem_cons, List.not_mem_nil, or_false, not_or] at b3
        by_cases q : b < 129
        · rw [asm_c q, f b b3.1 b3.2.1]
        · rw [asm_r (by omega), ← hM0, mm_uu b2, pl_o b3.2.2, hE b (by omega) b1]
      · simp only [List.mem_cons, List.not_mem_nil, or_false] at hj
        rw [asm_r (by decide), ← hM0, mm_un hj, pl_o (by decide), hE 129 (by decide) (by decide)]
    have hl0 : 0 ≤ l ∧ l < asm μ' M0 95 1 := by rw [asm_c (by decide), f 95 (by decide) (by decide)]; exact a.1
    have hLd : ∀ i j : Nat, i < j → j < t → L i ≠ L j := fun i j ij jt => by
      rw [hL]
      show R.getD ((i : Int)).toNat 0 ≠ R.getD ((j : Int)).toNat 0
      rw [show ((i : Int)).toNat = i by omega, show ((j : Int)).toNat = j by omega, hR]
      exact rsps_d hJ ij (by rw [← hR, ← htt]; exact jt)
    obtain ⟨u, hS⟩ := J_shm (L := L) (V := V) m0J hl0 ht216 (fun j hj => (hcL j (by omega) (by omega)).2) hLd hVb
    have hE0 : Eqr M0 (asm μ' M0) := fun b j b0 _ _ => by rw [asm_r b0]
    have hEk : ∀ k, Eqr (rshm (rnewE M0 l) L V k) (rshm (rnewE (asm μ' M0) l) L V k) := rshm_E (Eqr_new hE0)
    obtain ⟨H, hH⟩ : ∃ H : Nat → mm_M, H = fun k => rshm (rnewE M0 l) L V k := ⟨_, rfl⟩
    obtain ⟨S, hSS⟩ : ∃ S : Nat → mm_M, S = fun k => rshm (rnewE (asm μ' M0) l) L V k := ⟨_, rfl⟩
    have hEk' : ∀ k, Eqr (H k) (S k) := fun k => by rw [hH, hSS]; exact hEk k
    have hS' : ∀ k : Nat, k ≤ t → J (asm (cshm (chk (asm μ' M0) l) l (fun j => cc (L j)) V k) (S k)) ∧ S k 129 38 = u + 1 ∧ S k 129 37 = u + 1 ∧ S k 158 u = k ∧ S k 157 u = l ∧ ∀ k', 216 * (u : Int) ≤ k' → k' < 216 * u + k → ∃ j : Nat, j < k ∧ S k 159 k' = L j := fun k hk => by rw [hSS]; exact hS k hk
    have hS1 : ∀ k : Nat, S (k + 1) = rchg (S k) (L k) 1 (V k) := fun k => by rw [hSS]; rfl
    have hH1 : ∀ k : Nat, H (k + 1) = rchg (H k) (L k) 1 (V k) := fun k => by rw [hH]; rfl
    have Ho : ∀ (k : Nat) (b : Nat), b ≠ 137 → b ≠ 138 → (b < 157 ∨ 163 < b) → b ≠ 129 → H k b = M0 b := fun k b b0 b1 b2 b3 => by
      rw [hH]
      show rshm (rnewE M0 l) L V k b = _
      rw [rshm_o b0 b1 (by omega), rnE_o ⟨b2, b3⟩]
    have H9 : ∀ (k : Nat) (j : Int), j ≠ 37 → j ≠ 38 → H k 129 j = M0 129 j := fun k j j0 j1 => by
      rw [hH]
      show rshm (rnewE M0 l) L V k 129 j = _
      rw [rshm_o (by decide) (by decide) (by decide), rnE_f ⟨j0, j1⟩]
    have S0 : ∀ b, b < 157 ∨ 163 < b → b ≠ 129 → 129 ≤ b → S 0 b = M0 b := fun b b0 b1 b2 => by
      rw [hSS]
      show rnewE (asm μ' M0) l b = _
      rw [rnE_o ⟨b0, b1⟩, asm_r b2]
    have m137 : M0 137 = μ 137 := by rw [← hM0, mm_uu (by decide), pl_o (by decide), hE 137 (by decide) (by decide)]
    have m138 : M0 138 = μ 138 := by rw [← hM0, mm_uu (by decide), pl_o (by decide), hE 138 (by decide) (by decide)]
    have hwS : ∀ i : Nat, i < t → ∀ k : Nat, k ≤ i → rwt (S k) l (L i) = W i := fun i hi k => by
      have hLi := (hcL i (by omega) (by omega)).2
      induction k with
      | zero =>
        intro _
        rw [rwt_c (S0 137 (by decide) (by decide) (by decide)) (S0 138 (by decide) (by decide) (by decide)), rwt_c m137 m138, hW, hL]
      | succ k ih =>
        intro hk
        obtain ⟨-, i2, -, -, i5, -⟩ := hS' k (by omega)
        rw [hS1, rchg_rwt i2 (by rw [i5]; omega) (hcL k (by omega) (by omega)).2 hLi (hLd k i (by omega) hi)]
        exact ih (by omega)
    have hHH : ∀ i : Nat, i < t → rh_r (H i) ∧ rg_r (H i) ∧ 1 ≤ H i 129 38 ∧ H i 158 (H i 129 38 - 1) < 216 ∧ H i 176 i = L i ∧ rwt (H i) l (L i) = W i ∧ H (i + 1) = rchg (H i) (L i) 1 (sqp p (tot W t 0) t W (i + 1) - sqp p (tot W t 0) t W i) := fun i hi => by
      obtain ⟨i1, i2, i3, i4, i5, i6⟩ := hS' i (by omega)
      have hEi := hEk' i
      have e9 : ∀ j, j ≠ 0 → H i 129 j = S i 129 j := fun j hj => hEi 129 j (by decide) (by decide) (Or.inr hj)
      have er : ∀ b, 129 < b → b < 178 → H i b = S i b := fun b b0 b1 => Eqr_row hEi b0 b1
      refine ⟨?_, ?_, by rw [e9 38 (by decide), i2]; omega, by rw [e9 38 (by decide), i2, er 158 (by decide) (by decide), show (u : Int) + 1 - 1 = u by omega, i4]; omega, ?_, by rw [rwt_c (er 137 (by decide) (by decide)) (er 138 (by decide) (by decide))]; exact hwS i hi i (Nat.le_refl _), ?_⟩
      · have := (J_jh i1).2.1
        unfold rh_r at this ⊢
        rw [asm_r (show 129 ≤ 129 by decide), asm_r (show 129 ≤ 157 by decide), asm_r (show 129 ≤ 158 by decide), asm_r (show 129 ≤ 159 by decide), asm_r (show 129 ≤ 160 by decide), asm_r (show 129 ≤ 162 by decide)] at this
        rw [e9 37 (by decide), e9 38 (by decide), er 157 (by decide) (by decide), er 158 (by decide) (by decide), er 159 (by decide) (by decide), er 160 (by decide) (by decide), er 162 (by decide) (by decide)]
        exact this
      · have := J_rg i1
        unfold rg_r at this ⊢
        rw [asm_r (show 129 ≤ 129 by decide), asm_r (show 129 ≤ 137 by decide), asm_r (show 129 ≤ 138 by decide)] at this
        rw [e9 8 (by decide), er 137 (by decide) (by decide), er 138 (by decide) (by decide)]
        exact this
      · rw [Ho i 176 (by decide) (by decide) (by decide) (by decide), ← hM0, mm_uu (by decide), hL]
        exact if_pos ⟨rfl, by omega, by rw [← htt]; omega⟩
      · rw [hH1, hV]
    have hz : (if tot W t 0 = 0 then ((0 : Nat) : Int) else tot W 0 0) = 0 := by split <;> rfl
    have hfin := c_229_176 (d := d + 197) (Q := Q2) (X := X) (n := n) (l := l) (p := p) (t := t) (x3 := rhere μ) (x4 := 1) (x8 := 1) (W := W) (L := L) hp ⟨a.1.1, by omega⟩ b ht216 H (fun j j0 j1 => (hcL j j0 j1).2) hw0 hA2 hHH t 0 none (by omega)
    rw [hz, show ((0 : Nat) : Int) = 0 from rfl, sqp_0] at hfin
    rw [← hW, ← htt]
    have hH0 : rnewE M0 l = H 0 := by rw [hH]; rfl
    rw [hH0]
    refine hfin.mpr ?_
    obtain ⟨i1, i2, i3, i4, i5, i6⟩ := hS' t (Nat.le_refl _)
    have hEt := hEk' t
    have hNc : ∀ b, b < 129 → b ≠ 122 → mm_u (H t) 129 64 t b = asm (cshm (chk (asm μ' M0) l) l (fun j => cc (L j)) V t) (S t) b := fun b b0 b1 => by
      rw [mm_uu (by omega), Ho t b (by omega) (by omega) (by omega) (by omega), ← hM0, mm_uu (by omega), pl_o (by omega), ← hM, mm_uu (by omega), mm_uu b1, asm_c b0, ← hCC]
      exact (cshm_w (chk_b fun b hb => asm_c hb) t b b0).symm
    have hNr : ∀ b, 129 < b → b < 178 → mm_u (H t) 129 64 t b = asm (cshm (chk (asm μ' M0) l) l (fun j => cc (L j)) V t) (S t) b := fun b b0 b1 => by
      rw [mm_uu (by omega), asm_r (by omega)]
      exact Eqr_row hEt b0 b1
    have hN9 : ∀ j, j ≠ 0 → j ≠ 64 → mm_u (H t) 129 64 t 129 j = asm (cshm (chk (asm μ' M0) l) l (fun j => cc (L j)) V t) (S t) 129 j := fun j j0 j1 => by
      rw [mm_un j1, asm_r (by decide)]
      exact hEt 129 j (by decide) (by decide) (Or.inr j0)
    have n122 : mm_u (H t) 129 64 t 122 = mm_u C 122 9 t 122 := by
      rw [mm_uu (by decide), Ho t 122 (by decide) (by decide) (by decide) (by decide), ← hM0, mm_uu (by decide), pl_o (by decide), ← hM, mm_uu (by decide)]
    have g122 : asm (cshm (chk (asm μ' M0) l) l (fun j => cc (L j)) V t) (S t) 122 = C 122 := by
      rw [asm_c (by decide), ← hCC]
      exact cshm_w (chk_b fun b hb => asm_c hb) t 122 (by decide)
    have jn := J_jn i1
    refine hQ2 t _ (J_mk [122] [0, 64] (fun b b1 b2 b3 => ?_) (fun j hj => ?_) i1 (Or.inl (by decide)) (Or.inl (by decide)) (Or.inl (by decide)) (Or.inl (by decide)) (Or.inl (by decide)) (Or.inl (by decide)) (Or.inl (by decide)) (Or.inl (by decide)) (Or.inr ?_) (Or.inl (by decide)) (Or.inl (by decide)) (Or.inl (by decide))) ?_ (fun _ => ?_)
    · simp only [List.mem_cons, List.not_mem_nil, or_false] at b3
      by_cases q : b < 129
      · exact hNc b q b3
      · exact hNr b (by omega) b1
    · simp only [List.mem_cons, List.not_mem_nil, or_false, not_or] at hj
      exact hN9 j hj.1 hj.2
    · unfold J_n at jn ⊢
      rw [hN9 8 (by decide) (by decide), hN9 65 (by decide) (by decide), hN9 46 (by decide) (by decide), hNc 95 (by decide) (by decide), n122, mm_us, mm_us, mm_un (by decide), ← g122]
      exact ⟨jn.1, jn.2.1, jn.2.2.1, rfl, jn.2.2.2.2⟩
    · rw [mm_un (by decide), H9 t 0 (by decide) (by decide), ← hM0, mm_us]
    · rw [mm_uu (by decide), Ho t 178 (by decide) (by decide) (by decide) (by decide), ← hM0, mm_uu (by decide), pl_o (by decide), ← hM, mm_us]
end SP
