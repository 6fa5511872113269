/-! Calls of both sides: undo, redo; an edit begins, an input changes. -/
section LC
variable {d : Nat} {w : mm_Z} {μ μ' : mm_M} {X : mm_X} {n : mm_N} {e m l k v b c x f dn : Int}
theorem rgo_c {F V : Nat} (hF : 130 ≤ F ∧ F < 178) (hV : 130 ≤ V ∧ V < 178) (h : ∀ b, 130 ≤ b → b < 178 → μ' b = μ b) : ∀ (k : Nat) (b : Nat), 130 ≤ b → b < 178 → rgo μ' e F V k b = rgo μ e F V k b := by
  intro k
  induction k with
  | zero => intro b b0 b1; exact h b b0 b1
  | succ k ih =>
    intro b b0 b1
    unfold rgo
    rw [h 157 (by decide) (by decide), h 159 (by decide) (by decide), h F hF.1 hF.2, h V hV.1 hV.2]
    funext j
    rw [mm_ux, mm_ux, mm_ux, mm_ux, ih b b0 b1]
theorem L_undo (hq : mm_Q w) (hJ : J μ) (hn : n0 n) : PRI w X n (d + 200) 20 [.ref 32, .ref 178] 239 [.ref 129] μ := by
  intro Q1 hQ
  have hp := mm_QP hq
  have hjh := J_jh hJ
  obtain ⟨c1, ⟨d1, d2, d3⟩, d4, d5, d6, s, s1, s2⟩ := J_jh hJ
  have hrh := hjh.2.1
  rw [en_20 (d := d + 199), b_20_0 hq, c_48 (d := d + 196) hp c1]
  by_cases a : μ 107 4 = 0
  · rw [if_pos a]
    refine ⟨n0_6 hn, ?_⟩
    rw [bk_h (hp := 11) (by decide +kernel), b_20_11 hq]
    refine hQ 1 _ X _ (nr_t hn) fun Q2 hQ2 => ?_
    rw [c_239 (d := d + 198) hp hrh, if_pos (by omega)]
    exact hQ2 0 _ (J_th hJ) mm_us (fun z => absurd z (by decide))
  · obtain ⟨e, he⟩ : ∃ e : Nat, μ 107 4 - 1 = e := ⟨(μ 107 4 - 1).toNat, by have := c1.2.1; omega⟩
    have hee : (e : Int) < μ 129 37 := by omega
    have hl := (s2 e hee).2.1
    rw [if_neg a, bk_v, b_20_6 hq, mm_w0, mm_gd (by decide), he, hl]
    refine hQ 0 _ X n nr_r fun Q2 hQ2 => ?_
    have hie := mm_inr_r (μ 157 e)
    have hre := mm_row_r ((μ 107 3 + (e : Int)) % 12)
    have e4 : mm_sw (mm_u (mm_u μ 107 4 e) 107 5 (μ 107 5 + 1)) (mm_inr (μ 157 e)) (mm_row ((μ 107 3 + e) % 12)) 216 107 4 = e := by
      unfold mm_sw
      rw [if_pos (by decide), if_neg (by omega), if_neg (by omega), mm_un (by decide), mm_us]
    rw [e4]
    have e8 : ∀ v, mm_u (mm_sw (mm_u (mm_u μ 107 4 e) 107 5 (μ 107 5 + 1)) (mm_inr (μ 157 e)) (mm_row ((μ 107 3 + e) % 12)) 216) 178 0 v 178 0 = v := fun v => mm_us
    have eM : ∀ a, a < 129 → mm_u (mm_sw (mm_u (mm_u μ 107 4 e) 107 5 (μ 107 5 + 1)) (mm_inr (μ 157 e)) (mm_row ((μ 107 3 + e) % 12)) 216) 178 0 (mm_w e) a = mm_u (mm_u (mm_sw μ (mm_inr (μ 157 e)) (mm_row ((μ 107 3 + e) % 12)) 216) 107 4 e) 107 5 (μ 129 37 - e) a := fun a ha => by
      rw [mm_uu (by omega), show μ 129 37 - (e : Int) = μ 107 5 + 1 by omega]
      funext j
      by_cases z : a = 107
      · subst z
        rw [mm_ux, mm_ux]
        unfold mm_sw
        by_cases y : 0 ≤ j ∧ j < 216
        · simp only [if_pos y, if_neg (show ¬ 107 = mm_inr (μ 157 e) by omega), if_neg (show ¬ 107 = mm_row ((μ 107 3 + (e : Int)) % 12) by omega)]
          rw [mm_ux, mm_ux]
          simp only [true_and]
        · simp only [if_neg y]
          rw [mm_ux, mm_ux]
          simp only [true_and]
      · rw [mm_uu z, mm_uu z]
        unfold mm_sw
        by_cases y : 0 ≤ j ∧ j < 216
        · rw [if_pos y, if_pos y, mm_uu (show mm_row ((μ 107 3 + (e : Int)) % 12) ≠ 107 by omega), mm_uu (show mm_row ((μ 107 3 + (e : Int)) % 12) ≠ 107 by omega), mm_uu (show mm_inr (μ 157 e) ≠ 107 by omega), mm_uu (show mm_inr (μ 157 e) ≠ 107 by omega), mm_uu z, mm_uu z]
        · rw [if_neg y, if_neg y, mm_uu z, mm_uu z]
    have eMr : ∀ a, 129 ≤ a → a ≠ 178 → mm_u (mm_sw (mm_u (mm_u μ 107 4 e) 107 5 (μ 107 5 + 1)) (mm_inr (μ 157 e)) (mm_row ((μ 107 3 + e) % 12)) 216) 178 0 (mm_w e) a = μ a := fun a ha ha2 => by
      rw [mm_uu ha2]
      funext j
      unfold mm_sw
      rw [mm_uu (show a ≠ 107 by omega), mm_uu (show a ≠ 107 by omega)]
      split
      · rw [if_neg (by omega), if_neg (by omega)]
      · rfl
    have e78 := e8 (mm_w e)
    generalize mm_u (mm_sw (mm_u (mm_u μ 107 4 e) 107 5 (μ 107 5 + 1)) (mm_inr (μ 157 e)) (mm_row ((μ 107 3 + e) % 12)) 216) 178 0 (mm_w e) = M at eM eMr e78 ⊢
    have hrM : rh_r M := by
      unfold rh_r at hrh ⊢
      rw [eMr 129 (by decide) (by decide), eMr 157 (by decide) (by decide), eMr 158 (by decide) (by decide), eMr 159 (by decide) (by decide), eMr 160 (by decide) (by decide), eMr 162 (by decide) (by decide)]
      exact hrh
    rw [c_239 (d := d + 198) hp hrM, eMr 129 (by decide) (by decide), eMr 158 (by decide) (by decide), if_neg (by omega), ← d5, he, rund_go]
    have hgc : ∀ b, 130 ≤ b → b < 178 → rgo (mm_u (mm_u M 129 0 0) 129 38 e) e 160 161 (μ 158 e).toNat b = rgo μ e 160 161 (μ 158 e).toNat b := rgo_c (by decide) (by decide) (fun b b0 b1 => by rw [mm_uu (by omega), mm_uu (by omega), eMr b (by omega) (by omega)]) _
    refine hQ2 _ _ (J_swap hJ hee (F := 160) (V := 161) (nu := e) (y := 0) (Or.inl ⟨by omega, rfl, rfl, rfl⟩) eM (fun b b0 => ?_) (fun b b0 b1 => hgc b b0 b1) (fun j hj => ?_)) ?_ (fun _ => ?_)
    · rw [rgo_row _ b (by omega) (by omega), mm_uu (by omega), mm_uu (by omega)]
    · rw [rgo_row _ 129 (by decide) (by decide), mm_ux]
      by_cases z : j = 38
      · rw [if_pos ⟨rfl, z⟩, if_pos z]
      · rw [if_neg (fun t => z t.2), if_neg z, mm_un hj, eMr 129 (by decide) (by decide)]
    · rw [rgo_row _ 129 (by decide) (by decide), mm_un (by decide), mm_us]
    · rw [rgo_row _ 178 (by decide) (by decide), mm_uu (by decide), mm_uu (by decide), e78]
theorem L_redo (hq : mm_Q w) (hJ : J μ) (hn : n0 n) : PRI w X n (d + 200) 15 [.ref 32, .ref 178] 221 [.ref 129] μ := by
  intro Q1 hQ
  have hp := mm_QP hq
  have hjh := J_jh hJ
  obtain ⟨c1, ⟨d1, d2, d3⟩, d4, d5, d6, s, s1, s2⟩ := J_jh hJ
  have hrh := hjh.2.1
  rw [en_15 (d := d + 199), b_15_0 hq, c_41 (d := d + 196) hp c1]
  by_cases a : μ 107 5 = 0
  · rw [if_pos a]
    refine ⟨n0_6 hn, ?_⟩
    rw [bk_h (hp := 11) (by decide +kernel), b_15_11 hq]
    refine hQ 1 _ X _ (nr_t hn) fun Q2 hQ2 => ?_
    rw [c_221 (d := d + 198) hp hrh, if_pos (by omega)]
    exact hQ2 0 _ (J_th hJ) mm_us (fun z => absurd z (by decide))
  · obtain ⟨e, he⟩ : ∃ e : Nat, μ 107 4 = e := ⟨(μ 107 4).toNat, by have := c1.2.1; omega⟩
    have hee : (e : Int) < μ 129 37 := by have := c1.2.2.1; omega
    have hl := (s2 e hee).2.1
    rw [if_neg a, bk_v, b_15_6 hq, mm_w0, mm_gd (by decide), he, hl]
    refine hQ 0 _ X n nr_r fun Q2 hQ2 => ?_
    have hie := mm_inr_r (μ 157 e)
    have hre := mm_row_r ((μ 107 3 + (e : Int)) % 12)
    rw [mm_us, show μ 107 5 - 1 = μ 129 37 - ((e : Int) + 1) by omega]
    have eM : ∀ a, a < 129 → mm_u (mm_u (mm_u (mm_sw μ (mm_inr (μ 157 e)) (mm_row ((μ 107 3 + e) % 12)) 216) 107 4 ((e : Int) + 1)) 107 5 (μ 129 37 - ((e : Int) + 1))) 178 0 (mm_w (μ 129 37 - ((e : Int) + 1))) a = mm_u (mm_u (mm_sw μ (mm_inr (μ 157 e)) (mm_row ((μ 107 3 + e) % 12)) 216) 107 4 ((e : Int) + 1)) 107 5 (μ 129 37 - ((e : Int) + 1)) a := fun a ha => mm_uu (by omega)
    have eMr : ∀ a, 129 ≤ a → a ≠ 178 → mm_u (mm_u (mm_u (mm_sw μ (mm_inr (μ 157 e)) (mm_row ((μ 107 3 + e) % 12)) 216) 107 4 ((e : Int) + 1)) 107 5 (μ 129 37 - ((e : Int) + 1))) 178 0 (mm_w (μ 129 37 - ((e : Int) + 1))) a = μ a := fun a ha ha2 => by
      rw [mm_uu ha2, mm_uu (by omega), mm_uu (by omega)]
      funext j
      unfold mm_sw
      split
      · rw [if_neg (by omega), if_neg (by omega)]
      · rfl
    have e78 : mm_u (mm_u (mm_u (mm_sw μ (mm_inr (μ 157 e)) (mm_row ((μ 107 3 + e) % 12)) 216) 107 4 ((e : Int) + 1)) 107 5 (μ 129 37 - ((e : Int) + 1))) 178 0 (mm_w (μ 129 37 - ((e : Int) + 1))) 178 0 = mm_w (μ 129 37 - ((e : Int) + 1)) := mm_us
    generalize mm_u (mm_u (mm_u (mm_sw μ (mm_inr (μ 157 e)) (mm_row ((μ 107 3 + e) % 12)) 216) 107 4 ((e : Int) + 1)) 107 5 (μ 129 37 - ((e : Int) + 1))) 178 0 (mm_w (μ 129 37 - ((e : Int) + 1))) = M at eM eMr e78 ⊢
    have hrM : rh_r M := by
      unfold rh_r at hrh ⊢
      rw [eMr 129 (by decide) (by decide), eMr 157 (by decide) (by decide), eMr 158 (by decide) (by decide), eMr 159 (by decide) (by decide), eMr 160 (by decide) (by decide), eMr 162 (by decide) (by decide)]
      exact hrh
    have h38 : μ 129 38 = e := by omega
    rw [c_221 (d := d + 198) hp hrM, eMr 129 (by decide) (by decide), eMr 158 (by decide) (by decide), if_neg (by omega), h38, rred_go]
    have hgc : ∀ b, 130 ≤ b → b < 178 → rgo (mm_u M 129 0 0) e 162 163 (μ 158 e).toNat b = rgo μ e 162 163 (μ 158 e).toNat b := rgo_c (by decide) (by decide) (fun b b0 b1 => by rw [mm_uu (by omega), eMr b (by omega) (by omega)]) _
    refine hQ2 _ _ (J_swap hJ hee (F := 162) (V := 163) (nu := (e : Int) + 1) (y := 0) (Or.inr ⟨h38, rfl, rfl, rfl⟩) eM (fun b b0 => ?_) (fun b b0 b1 => ?_) (fun j hj => ?_)) ?_ (fun _ => ?_)
    · rw [mm_uu (by omega), rgo_row _ b (by omega) (by omega), mm_uu (by omega)]
    · rw [mm_uu (by omega)]; exact hgc b b0 b1
    · rw [mm_ux]
      by_cases z : j = 38
      · rw [if_pos ⟨rfl, z⟩, if_pos z]
      · rw [if_neg (fun t => z t.2), if_neg z, rgo_row _ 129 (by decide) (by decide), mm_un hj, eMr 129 (by decide) (by decide)]
    · rw [mm_un (by decide), rgo_row _ 129 (by decide) (by decide), mm_us]
    · rw [mm_uu (by decide), rgo_row _ 178 (by decide) (by decide), mm_uu (by decide), e78]
/-! an edit begins -/
def asm (μc μr : mm_M) : mm_M := fun b => if b < 129 then μc b else μr b
theorem asm_c {μc μr : mm_M} {b : Nat} (h : b < 129) : asm μc μr b = μc b := if_pos h
theorem asm_r {μc μr : mm_M} {b : Nat} (h : 129 ≤ b) : asm μc μr b = μr b := if_neg (by omega)
theorem ck_107 {j : Int} : ch_keep μ l f dn 107 j = if j = 5 then 0 else if j = 4 then dn + 1 else if j = 3 then f else μ 107 j := by
  have hr := mm_row_r ((f + dn) % 12)
  unfold ch_keep
  rw [mm_ux, mm_ux]
  by_cases q5 : j = 5
  · rw [if_pos ⟨rfl, q5⟩, if_pos q5]
  · rw [if_neg (fun t => q5 t.2), if_neg q5]
    by_cases q4 : j = 4
    · rw [if_pos ⟨rfl, q4⟩, if_pos q4]
    · rw [if_neg (fun t => q4 t.2), if_neg q4, mm_uu (by decide)]
      unfold mm_cp
      rw [if_neg (by omega), mm_un q4, mm_ux]
      by_cases q3 : j = 3
      · rw [if_pos ⟨rfl, q3⟩, if_pos q3]
      · rw [if_neg (fun t => q3 t.2), if_neg q3]
theorem ck_121 {j : Int} : ch_keep μ l f dn 121 j = if j = (f + dn) % 12 then l else μ 121 j := by
  have hr := mm_row_r ((f + dn) % 12)
  unfold ch_keep
  rw [mm_uu (by decide), mm_uu (by decide), mm_ux]
  by_cases q : j = (f + dn) % 12
  · rw [if_pos ⟨rfl, q⟩, if_pos q]
  · rw [if_neg (fun t => q t.2), if_neg q]
    unfold mm_cp
    rw [if_neg (by omega), mm_uu (by decide), mm_uu (by decide)]
theorem ck_row {z j : Int} (hz : 0 ≤ z ∧ z < 12) (hj : 0 ≤ j ∧ j < 216) : ch_keep μ l f dn (mm_row z) j = if z = (f + dn) % 12 then μ (mm_inr l) j else μ (mm_row z) j := by
  have hr := mm_row_r ((f + dn) % 12)
  have hr2 := mm_row_r z
  have hi := mm_inr_r l
  unfold ch_keep
  rw [mm_uu (by omega), mm_uu (by omega), mm_uu (by omega)]
  unfold mm_cp
  by_cases q : z = (f + dn) % 12
  · rw [if_pos ⟨by rw [q], hj⟩, if_pos q, mm_uu (by omega), mm_uu (by omega)]
  · rw [if_neg (fun t => q ?_), if_neg q, mm_uu (by omega), mm_uu (by omega)]
    have t := t.1
    unfold mm_row at t
    rw [if_pos hz, if_pos (by omega)] at t
    omega
theorem ck_o {b : Nat} (h1 : b ≠ 107) (h2 : b ≠ 121) (h3 : ¬ (109 ≤ b ∧ b ≤ 120)) : ch_keep μ l f dn b = μ b := by
  have hr := mm_row_r ((f + dn) % 12)
  unfold ch_keep
  rw [mm_uu h1, mm_uu h1, mm_uu h2]
  funext j
  unfold mm_cp
  rw [if_neg (by omega), mm_uu h1, mm_uu h1]
theorem chk_o {b : Nat} (h1 : b ≠ 107) (h2 : b ≠ 121) (h3 : ¬ (109 ≤ b ∧ b ≤ 120)) : chk μ l b = μ b := by
  unfold chk
  split <;> exact ck_o h1 h2 h3
theorem J_new_h (h : J_h μ) (hl3 : μ 95 1 ≤ 3) (hl : 0 ≤ l ∧ l < μ 95 1) : J_h (asm (chk μ l) (rnewE μ l)) := by
  have h' := h
  obtain ⟨c1, ⟨d1, d2, d3⟩, d4, d5, d6, s, s1, s2⟩ := h'
  unfold chk rnewE
  by_cases full : μ 129 38 = 12
  · rw [if_pos (show μ 107 4 = 12 by omega), if_pos full]
    have c5 := c1.2.2.2.1
    have c53 := c1.2.2.1
    -- the oldest edit is forgotten
    have hs : J_h (asm (mm_u (mm_u (mm_u μ 107 3 ((μ 107 3 + 1) % 12)) 107 4 11) 107 5 0) (mm_u (mm_u (rshf μ 11 2376) 129 38 11) 129 37 11)) := by
      refine J_h_sh (μ := μ) h full ?_ ?_ ?_ ?_ (fun b b0 b1 => ?_) ?_ (fun b b0 b1 => ?_) ?_ ?_ (fun b e b0 b1 => ?_) (fun b k b0 b1 => ?_)
      · rw [asm_c (by decide), mm_un (by decide), mm_un (by decide), mm_us]
      · rw [asm_c (by decide), mm_un (by decide), mm_us]
      · rw [asm_c (by decide), mm_us]
      · rw [asm_c (by decide), mm_uu (by decide), mm_uu (by decide), mm_uu (by decide)]
      · rw [asm_c (by omega), mm_uu (by omega), mm_uu (by omega), mm_uu (by omega)]
      · rw [asm_c (by decide), mm_uu (by decide), mm_uu (by decide), mm_uu (by decide)]
      · rw [asm_c (by omega), mm_uu (by omega), mm_uu (by omega), mm_uu (by omega)]
      · rw [asm_r (by decide), mm_us]
      · rw [asm_r (by decide), mm_un (by decide), mm_us]
      · rw [asm_r (by omega), mm_uu (by omega), mm_uu (by omega), rshf_e ⟨b0, b1⟩]
      · rw [asm_r (by omega), mm_uu (by omega), mm_uu (by omega), rshf_a ⟨b0, b1⟩]
    have m3 : asm (mm_u (mm_u (mm_u μ 107 3 ((μ 107 3 + 1) % 12)) 107 4 11) 107 5 0) (mm_u (mm_u (rshf μ 11 2376) 129 38 11) 129 37 11) 107 3 = (μ 107 3 + 1) % 12 := by rw [asm_c (by decide), mm_un (by decide), mm_un (by decide), mm_us]
    have m4 : asm (mm_u (mm_u (mm_u μ 107 3 ((μ 107 3 + 1) % 12)) 107 4 11) 107 5 0) (mm_u (mm_u (rshf μ 11 2376) 129 38 11) 129 37 11) 107 4 = 11 := by rw [asm_c (by decide), mm_un (by decide), mm_us]
    have mo : ∀ b, b < 129 → b ≠ 107 → asm (mm_u (mm_u (mm_u μ 107 3 ((μ 107 3 + 1) % 12)) 107 4 11) 107 5 0) (mm_u (mm_u (rshf μ 11 2376) 129 38 11) 129 37 11) b = μ b := fun b b0 b1 => by rw [asm_c b0, mm_uu b1, mm_uu b1, mm_uu b1]
    have m38 : asm (mm_u (mm_u (mm_u μ 107 3 ((μ 107 3 + 1) % 12)) 107 4 11) 107 5 0) (mm_u (mm_u (rshf μ 11 2376) 129 38 11) 129 37 11) 129 38 = 11 := by rw [asm_r (by decide), mm_un (by decide), mm_us]
    have mr : ∀ b, 129 < b → asm (mm_u (mm_u (mm_u μ 107 3 ((μ 107 3 + 1) % 12)) 107 4 11) 107 5 0) (mm_u (mm_u (rshf μ 11 2376) 129 38 11) 129 37 11) b = mm_u (rshf μ 11 2376) 129 38 11 b := fun b b0 => by rw [asm_r (by omega), mm_uu (by omega)]
    generalize asm (mm_u (mm_u (mm_u μ 107 3 ((μ 107 3 + 1) % 12)) 107 4 11) 107 5 0) (mm_u (mm_u (rshf μ 11 2376) 129 38 11) 129 37 11) = ms at hs m3 m4 mo m38 mr
    have n38 : mm_u (rshf μ 11 2376) 129 38 11 129 38 = 11 := mm_us
    refine J_h_new (l := l) hs ?_ ?_ ?_ ?_ ?_ ?_ (fun z z0 z1 => ?_) (fun z c z0 z1 c0 c1 => ?_) ?_ (fun l' c l0 l1 c0 c1 => ?_) ?_ ?_ (fun e => ?_) (fun e => ?_) (fun b b0 b1 => ?_)
    · rw [m38]; decide
    · rw [mo 95 (by decide) (by decide)]; exact hl
    · rw [mo 95 (by decide) (by decide)]; exact hl3
    · rw [m3, asm_c (by decide), ck_107]; rfl
    · rw [m4, asm_c (by decide), ck_107]; rfl
    · rw [asm_c (by decide), ck_107]; rfl
    · rw [m3, m4, mo 121 (by decide) (by decide), asm_c (by decide), ck_121]
    · have hz := mm_row_r z
      have hi := mm_inr_r l
      rw [m3, m4, mo (mm_inr l) (by omega) (by omega), mo (mm_row z) (by omega) (by omega), asm_c (show mm_row z < 129 by omega), ck_row ⟨z0, z1⟩ ⟨c0, c1⟩]
    · rw [mo 95 (by decide) (by decide), asm_c (by decide), ck_o (by decide) (by decide) (by decide)]
    · have hi := mm_inr_r l'
      rw [mo (mm_inr l') (by omega) (by omega), asm_c (show mm_inr l' < 129 by omega), ck_o (by omega) (by omega) (by omega)]
    · rw [m38, asm_r (by decide), rnew_37, n38]
    · rw [m38, asm_r (by decide), rnew_38, n38]
    · rw [m38, mr 157 (by decide), asm_r (by decide), rnew_157, n38]
    · rw [m38, mr 158 (by decide), asm_r (by decide), rnew_158, n38]
    · rw [mr b (by omega), asm_r (show 129 ≤ b by omega), rnew_o ⟨by omega, by omega, by omega⟩]
  · rw [if_neg (show ¬ μ 107 4 = 12 by omega), if_neg full]
    refine J_h_new (l := l) h (by omega) hl hl3 ?_ ?_ ?_ (fun z z0 z1 => ?_) (fun z c z0 z1 c0 c1 => ?_) ?_ (fun l' c l0 l1 c0 c1 => ?_) ?_ ?_ (fun e => ?_) (fun e => ?_) (fun b b0 b1 => ?_)
    · rw [asm_c (by decide), ck_107]; rfl
    · rw [asm_c (by decide), ck_107]; rfl
    · rw [asm_c (by decide), ck_107]; rfl
    · rw [asm_c (by decide), ck_121]
    · have hz := mm_row_r z
      rw [asm_c (show mm_row z < 129 by omega), ck_row ⟨z0, z1⟩ ⟨c0, c1⟩]
    · rw [asm_c (by decide), ck_o (by decide) (by decide) (by decide)]
    · have hi := mm_inr_r l'
      rw [asm_c (show mm_inr l' < 129 by omega), ck_o (by omega) (by omega) (by omega)]
    · rw [asm_r (by decide), rnew_37]
    · rw [asm_r (by decide), rnew_38]
    · rw [asm_r (by decide), rnew_157]
    · rw [asm_r (by decide), rnew_158]
    · rw [asm_r (show 129 ≤ b by omega), rnew_o ⟨by omega, by omega, by omega⟩]
/-- an edit begins on both sides -/
theorem J_new (hJ : J μ) (hl : 0 ≤ l ∧ l < μ 95 1) : J (asm (chk μ l) (rnewE μ l)) := by
  refine J_mk [107, 109, 110, 111, 112, 113, 114, 115, 116, 117, 118, 119, 120, 121, 157, 158, 159, 160, 161, 162, 163] [37, 38] (fun b b1 b2 b3 => ?_) (fun j hj => ?_) hJ (Or.inl (by decide)) (Or.inl (by decide)) (Or.inl (by decide)) (Or.inl (by decide)) (Or.inl (by decide)) (Or.inl (by decide)) (Or.inl (by decide)) (Or.inl (by decide)) (Or.inl (by decide)) (Or.inl (by decide)) (Or.inl (by decide)) (Or.inr (J_new_h (J_jh hJ) (J_cg1 hJ).1.2 hl))
  · simp only [List.mem_cons, List.not_mem_nil, or_false, not_or] at b3
    by_cases q : b < 129
    · rw [asm_c q, chk_o (by omega) (by omega) (by omega)]
    · rw [asm_r (by omega), rnE_o ⟨by omega, b2⟩]
  · simp only [List.mem_cons, List.not_mem_nil, or_false, not_or] at hj
    rw [asm_r (by decide), rnE_f hj]
end LC
