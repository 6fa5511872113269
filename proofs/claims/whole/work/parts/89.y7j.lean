/-! Calls of both sides: drop. -/
def LD : List Nat := [107, 97, 98, 99, 103, 104, 35, 36, 37, 38, 39, 40, 41, 42, 43, 44, 45, 46, 47, 48, 49, 50, 51, 52, 130, 133, 134, 135, 137, 148]
section LC
variable {d : Nat} {w : mm_Z} {μ μ' : mm_M} {X : mm_X} {n : mm_N} {e m l k v b s x z r c : Int} {p p' : Int → Int}
theorem LD_m {a : Nat} (h : a ∉ LD) : a ≠ 107 ∧ (a < 97 ∨ 99 < a) ∧ a ≠ 103 ∧ a ≠ 104 ∧ (a < 35 ∨ 52 < a) ∧ a ≠ 130 ∧ a ≠ 133 ∧ a ≠ 134 ∧ a ≠ 135 ∧ a ≠ 137 ∧ a ≠ 148 := by
  simp only [LD, List.mem_cons, List.not_mem_nil, or_false, not_or] at h
  omega
theorem LD_n {a : Nat} (h : a ∈ LD) : a = 107 ∨ (97 ≤ a ∧ a ≤ 99) ∨ a = 103 ∨ a = 104 ∨ (35 ≤ a ∧ a ≤ 52) ∨ a = 130 ∨ a = 133 ∨ a = 134 ∨ a = 135 ∨ a = 137 ∨ a = 148 := by
  simp only [LD, List.mem_cons, List.not_mem_nil, or_false] at h
  omega
theorem J_rsh (hJ : J μ) : rsh_r μ := by
  intro r r0 r1
  obtain ⟨C, S, c1, c2, c3, c4⟩ := hJ.2.2.2.1 r r0 r1
  obtain ⟨f1, f2, f3, f4, h, -, -, -, hs⟩ := c3
  rw [c2.1]
  refine ⟨⟨by omega, by omega⟩, fun s s0 s1 => ?_⟩
  have hq := c2.2 s.toNat (by omega)
  rw [show ((s.toNat : Nat) : Int) = s by omega] at hq
  obtain ⟨i, i1, i2, i3, i4⟩ := f4 s.toNat (by omega)
  have := hs i (Nat.zero_le i) i1
  unfold rd_ok1 at this
  have hrf : rd_rf S (C.2 i).2.1 (C.2 i).2.2 := by
    rcases this with z | z | z | z | z
    · omega
    · exact z.2.2
    · omega
    · omega
    · omega
  have h2 := (hrf.2.2.2 s.toNat i3 i4).1
  rw [hq.1, hq.2]
  refine ⟨by omega, ?_⟩
  unfold sgd
  (repeat' split) <;> omega
/-- the inputs of a member, counted by both sides -/
theorem J_wiped (hg : J_g μ) (hh : ∀ a, 97 ≤ a → a ≤ 99 → μ' a = μ a) (h9 : ∀ v : mm_M, True) (e m : Int) : ∀ L : Nat, (L : Int) ≤ μ 95 1 → cwall μ' e m L = cn (rwpn μ e m) (216 * L) := by
  intro L
  induction L with
  | zero => intro _; rfl
  | succ L ih =>
    intro hL
    have h3 := hg.1.1
    have hi := mm_inr_r L
    unfold cwall
    rw [ih (by omega), show 216 * (L + 1) = 216 * L + 216 by omega, cn_add, hh (mm_inr L) hi.1 hi.2]
    have hc : cn (cwiped (μ (mm_inr L)) e m) 216 = cn (fun j => rwpn μ e m (((216 * L : Nat) : Int) + j)) 216 := ?_
    · rw [hc]
    refine cn_eq fun c c0 c1 => ?_
    have h1 := hg.2.2.1 L c (by omega) (by omega) c0 c1
    have h2 := (hg.2.1 (216 * L + c) (by omega) (by omega)).2
    unfold cwiped rwpn
    rw [h1, show ((216 * L : Nat) : Int) + c = 216 * (L : Int) + c by omega, cc_p c0 c1, show (216 * (L : Int) + c) % 216 = c by omega]
    refine decide_eq_decide.mpr ?_
    split
    · rename_i z; exact ⟨fun q => absurd rfl q.2, fun q => absurd z q.1⟩
    · rename_i z; exact ⟨fun q => ⟨z, q.1⟩, fun q => ⟨q.2, by omega⟩⟩
theorem cn_zero {P : Int → Bool} {a b : Nat} (h : ∀ j : Int, a ≤ j → j < a + b → P j = false) : cn P (a + b) = cn P a := by
  rw [cn_add, cn_g (P := fun j => P (a + j)) (R := fun _ => false) b (fun c c0 c1 => h _ (by omega) (by omega))]
  have : ∀ n : Nat, cn (fun _ => false) n = 0 := by
    intro n
    induction n with
    | zero => rfl
    | succ n ih => unfold cn; rw [ih]; rfl
  rw [this, Int.add_zero]
theorem J_wiped6 (hg : J_g μ) (hh : ∀ a, 97 ≤ a → a ≤ 99 → μ' a = μ a) (e m : Int) : cwall μ' e m (μ 95 1).toNat = cn (rwpn μ e m) 648 := by
  have h3 := hg.1.1
  rw [J_wiped hg hh (fun _ => trivial) e m (μ 95 1).toNat (by omega)]
  obtain ⟨b, hb⟩ : ∃ b : Nat, 648 = 216 * (μ 95 1).toNat + b := ⟨648 - 216 * (μ 95 1).toNat, by omega⟩
  rw [hb]
  exact (cn_zero fun j j0 j1 => decide_eq_false fun q => q.1 (hg.2.2.2 j (by omega) (by omega))).symm
theorem mm_wp_o {a : Nat} (hl : l ≤ 3) (h : a < 97 ∨ 99 < a) : mm_wp μ e m l 0 a = μ a := by
  funext j
  unfold mm_wp
  rw [if_neg (by omega)]
theorem mm_wp_i (hl : 0 ≤ v ∧ v < l) (h3 : l ≤ 3) (hc : 0 ≤ c ∧ c < 216) : mm_wp μ e m l 0 (mm_inr v) (cc c) = if rpart c e = m then -2147483648 else μ (mm_inr v) (cc c) := by
  have := mm_inr_e (l := v) hl.1 (by omega)
  have := cc_b hc.1 hc.2
  unfold mm_wp
  rw [cc_p hc.1 hc.2]
  by_cases z : rpart c e = m
  · rw [if_pos ⟨⟨this.1, this.2, z⟩, Or.inl ⟨by omega, by omega⟩⟩, if_pos z]
  · rw [if_neg (fun q => z q.1.2.2), if_neg z]
theorem L_drop (hq : mm_Q w) (hJ : J μ) (hn : n0 n) (h1 : -2147483648 ≤ e) (h2 : e ≤ 2147483647) (g1 : -2147483648 ≤ m) (g2 : m ≤ 2147483647) : PRI w X n (d + 200) 4 [.ref 32, .int (Int32.ofInt (e)), .int (Int32.ofInt (m)), .ref 178] 169 [.ref 129, .int (Int32.ofInt (e)), .int (Int32.ofInt (m))] μ := by
  intro Q1 hQ
  have hp := mm_QP hq
  have hleaf : (0 ≤ e ∧ e < 3 ∧ 0 ≤ m ∧ m < 6 ∧ μ (mm_tr e + 1) m ≠ -2) → (μ (mm_tr e + 4) m ≠ -1 ↔ sp_fc (rp μ e) m = -1) := fun a => by
    obtain ⟨t1, t2, t3, t4, t5, t6⟩ := hJ.1 e a.1 a.2.1
    have hL := (fo_Lin t1.1).2.1 m
    rw [t1.2.2.2.1 m a.2.2.1 a.2.2.2.1, ← ag_fc t4]
    by_cases z : m ∈ fo_L (μ (mm_tr e + 1))
    · rw [if_pos z]
      exact ⟨fun _ => (hL.mp z).2, fun _ => by omega⟩
    · rw [if_neg z]
      exact ⟨fun q => absurd rfl q, fun q => absurd (hL.mpr ⟨⟨a.2.2.1, a.2.2.2.1, a.2.2.2.2⟩, q⟩) z⟩
  have hnoch : ∀ q : Int → Int, sp_fc q m = -1 → ∀ x, 0 ≤ x → x < 6 → q x ≠ m := fun q hq x x0 x6 hx => by
    have := sp_fc_ch hq
    have hm : x ∈ fo_ch q m := fo_mem_ch.mpr ⟨⟨x0, x6⟩, hx⟩
    rw [this] at hm
    exact absurd hm List.not_mem_nil
  have hwf : (0 ≤ e ∧ e < 3 ∧ 0 ≤ m ∧ m < 6 ∧ μ (mm_tr e + 1) m ≠ -2) → μ (mm_tr e + 4) m ≠ -1 → fo_wf (mm_u μ (mm_tr e + 1) m (-2) (mm_tr e + 1)) := fun a hl => by
    obtain ⟨t1, t2, t3, t4, t5, t6⟩ := hJ.1 e a.1 a.2.1
    refine fo_wf_dr t1.1 (s := m) (hnoch _ (by rw [ag_fc t4]; exact (hleaf a).mp hl)) (fun x _ _ => ?_)
    rw [mm_ux]
    by_cases z : x = m
    · rw [if_pos ⟨rfl, z⟩, if_pos z]
    · rw [if_neg (fun q => z q.2), if_neg z]
  have hjd := J_jd hJ
  have hd4 : ∀ e, 0 ≤ e → e < 3 → -2147483648 ≤ μ 104 e ∧ μ 104 e ≤ 2147483647 := fun e e0 e1 => by have := (hjd.2 e e0 e1).2.1; omega
  rw [en_4 (d := d + 199), b_4_0 hq, c_30 (d := d + 188) hp (J_ct hJ) (J_cg1 hJ) hJ.2.2.2.2.2.2.2.2.2.1 (J_cr hJ) hd4 hwf h1 h2 g1 g2]
  have hiff : (0 ≤ e ∧ e < 3 ∧ 0 ≤ m ∧ m < 6 ∧ μ (mm_tr e + 1) m ≠ -2) ↔ (0 ≤ e ∧ e < 3 ∧ 0 ≤ m ∧ m < 6 ∧ μ 130 (6 * e + m) ≠ 0) :=
    ⟨fun z => ⟨z.1, z.2.1, z.2.2.1, z.2.2.2.1, (J_there hJ ⟨z.1, z.2.1⟩ ⟨z.2.2.1, z.2.2.2.1⟩).mp z.2.2.2.2⟩, fun z => ⟨z.1, z.2.1, z.2.2.1, z.2.2.2.1, (J_there hJ ⟨z.1, z.2.1⟩ ⟨z.2.2.1, z.2.2.2.1⟩).mpr z.2.2.2.2⟩⟩
  have hdr : ∀ e, 0 ≤ e → e < 3 → (0 ≤ μ 148 e ∧ μ 148 e ≤ 2) ∧ (-2147483648 ≤ μ 149 e ∧ μ 149 e ≤ 2147483647) := fun e e0 e1 => by
    have := hjd.2 e e0 e1
    rw [this.2.2.1]
    exact ⟨this.1, this.2.2.2.1⟩
  have hwr : ∀ M : mm_M, M 130 = μ 130 → M 131 = μ 131 → (0 ≤ e ∧ e < 3 ∧ 0 ≤ m ∧ m < 6 ∧ M 130 (6 * e + m) ≠ 0) → (sp_fc (rp M e) m = -1) → ((∀ x, 0 ≤ x → x < 6 → rp (mm_u M 130 (6 * e + m) 0) e x = if x = m then -2 else rp μ e x) ∧ fo_wf (rp (mm_u M 130 (6 * e + m) 0) e)) := fun M m0 m1 a hs => by
    have h : ∀ x, 0 ≤ x → x < 6 → rp (mm_u M 130 (6 * e + m) 0) e x = if x = m then -2 else rp μ e x := fun x x0 x6 => by
      unfold rp
      rw [mm_ux, mm_uu (show (131 : Nat) ≠ 130 by decide), m0, m1]
      by_cases z : x = m
      · rw [if_pos (c := (130 : Nat) = 130 ∧ 6 * e + x = 6 * e + m) ⟨rfl, by rw [z]⟩, if_neg (by decide), if_pos z]
      · rw [if_neg (c := (130 : Nat) = 130 ∧ 6 * e + x = 6 * e + m) (fun q => z (by have := q.2; omega)), if_neg z]
    refine ⟨h, fo_wf_dr (J_ro hJ e a.1 a.2.1).1 (s := m) (hnoch _ (by rw [← rp_c m0 m1]; exact hs)) h⟩
  by_cases a : 0 ≤ e ∧ e < 3 ∧ 0 ≤ m ∧ m < 6 ∧ μ (mm_tr e + 1) m ≠ -2
  · rw [if_neg (fun z => z a)]
    have a' := hiff.mp a
    have he : 0 ≤ e ∧ e < 3 := ⟨a.1, a.2.1⟩
    have hs : 0 ≤ m ∧ m < 6 := ⟨a.2.2.1, a.2.2.2.1⟩
    have hnm := J_names hJ he hs
    by_cases c : μ (mm_tr e + 4) m ≠ -1 ∧ crns μ e m (μ 53 1).toNat 0 = false
    · rw [if_neg (fun z => z c), bk_v, b_4_8 hq, mm_w0, mm_gd (by decide)]
      refine hQ 0 _ X n nr_r fun Q2 hQ2 => ?_
      obtain ⟨t1, t2, t3, t4, t5, t6⟩ := hJ.1 e he.1 he.2
      have hr := mm_tr_r he
      have hw := hwf a c.1
      have hL3 := (J_cg1 hJ).1
      have hsc : sp_fc (rp μ e) m = -1 := (hleaf a).mp c.1
      have hps : rp μ e m ≠ -2 := by rw [← t4 m hs.1 hs.2]; exact a.2.2.2.2
      generalize hA : mm_u (mm_u (chf μ) (mm_tr e + 1) m (-2)) (mm_tr e) 6 (μ (mm_tr e) 6 - 1) = A
      have A1 : A (mm_tr e + 1) = mm_u μ (mm_tr e + 1) m (-2) (mm_tr e + 1) := by
        funext j
        rw [← hA, mm_uu (by omega), mm_ux, mm_ux, chf_x (by omega)]
      have A0 : ∀ a, a ≠ 107 → a ≠ mm_tr e → a ≠ mm_tr e + 1 → A a = μ a := fun a b1 b2 b3 => by
        rw [← hA, mm_uu b2, mm_uu b3, chf_x b1]
      have A7 : A 107 = chf μ 107 := by rw [← hA, mm_uu (by omega), mm_uu (by omega)]
      have A6 : A (mm_tr e) 6 = μ (mm_tr e) 6 - 1 := by rw [← hA, mm_us]
      have hwA : fo_wf (A (mm_tr e + 1)) := by rw [A1]; exact hw
      have eA : ∀ a, 2 ≤ a → a ≤ 5 → A (mm_tr e + a) = μ (mm_tr e + a) := fun a a1 a2 => A0 _ (by omega) (by omega) (by omega)
      have hmany : rt_many (rp μ e) = rt_many (A (mm_tr e + 1)) + 1 := by
        refine rt_many_up (s := m) (b := rp μ e m) (p := A (mm_tr e + 1)) hs (by rw [A1, mm_us]) hps (fun x x0 x6 => ?_)
        by_cases z : x = m
        · rw [if_pos z, z]
        · rw [if_neg z, A1, mm_un z]; exact (t4 x x0 x6).symm
      have hmb := rt_many_b (p := A (mm_tr e + 1))
      have k1 := tr_arr_ok hwA
      have k2 : mm_tw (tr_arr e A) e := tr_arr_tw hwA (fun j j0 j6 => by rw [eA 2 (by omega) (by omega)]; exact (t2.1 j j0 j6).2.1) (fun j j0 j6 => by rw [eA 3 (by omega) (by omega)]; exact (t2.1 j j0 j6).2.2.1) (fun j j0 j6 => by rw [eA 5 (by omega) (by omega)]; exact (t2.1 j j0 j6).2.2.2.2) (by rw [A6]; have := t2.2.2; omega)
      have hD1 : cdr1 μ e m = tr_arr e A := by rw [← hA]; rfl
      have D0 : ∀ a, a ≠ 103 → a ≠ 104 → cdr2 μ e m a = tr_arr e A a := fun a b1 b2 => by
        unfold cdr2
        split
        · rw [mm_uu b2, mm_uu b1, hD1]
        · rw [hD1]
      have T0 : ∀ a, a ≠ 107 → (a < mm_tr e ∨ mm_tr e + 5 < a) → tr_arr e A a = μ a := fun a b1 b2 => by
        rw [tr_arr_row hwA (by omega) (by omega) (by omega) (by omega), A0 a b1 (by omega) (by omega)]
      have D3 : ∀ j, cdr2 μ e m 103 j = if μ 104 e = m ∧ j = e then 0 else μ 103 j := fun j => by
        unfold cdr2
        by_cases z : μ 104 e = m
        · rw [if_pos z, mm_uu (by decide), mm_ux, hD1, T0 103 (by decide) (by omega)]
          by_cases y : j = e
          · rw [if_pos ⟨rfl, y⟩, if_pos ⟨z, y⟩]
          · rw [if_neg (fun q => y q.2), if_neg (fun q => y q.2)]
        · rw [if_neg z, if_neg (fun q => z q.1), hD1, T0 103 (by decide) (by omega)]
      have D4 : ∀ j, cdr2 μ e m 104 j = if μ 104 e = m ∧ j = e then 0 else μ 104 j := fun j => by
        unfold cdr2
        by_cases z : μ 104 e = m
        · rw [if_pos z, mm_ux, mm_uu (by decide), hD1, T0 104 (by decide) (by omega)]
          by_cases y : j = e
          · rw [if_pos ⟨rfl, y⟩, if_pos ⟨z, y⟩]
          · rw [if_neg (fun q => y q.2), if_neg (fun q => y q.2)]
        · rw [if_neg z, if_neg (fun q => z q.1), hD1, T0 104 (by decide) (by omega)]
      have hcount : cwall (cdr2 μ e m) e m (μ 95 1).toNat = cn (rwpn μ e m) 648 := J_wiped6 hJ.2.2.1 (fun a a0 a1 => by rw [D0 a (by omega) (by omega), T0 a (by omega) (by omega)]) e m
      rw [hcount]
      generalize hW : mm_wp (cdr2 μ e m) e m (μ 95 1) 0 = W
      have W0 : ∀ a, a < 97 ∨ 99 < a → W a = cdr2 μ e m a := fun a ha => by rw [← hW]; exact mm_wp_o hL3.2 ha
      generalize hM : mm_u W 178 0 (mm_w (cn (rwpn μ e m) 648)) = M
      have eM : ∀ a, 105 ≤ a → a ≠ 178 → a ≠ 107 → M a = μ a := fun a a1 a2 a3 => by
        rw [← hM, mm_uu a2, W0 a (by omega), D0 a (by omega) (by omega), T0 a a3 (by omega)]
      have e130 := eM 130 (by decide) (by decide) (by decide)
      have e131 := eM 131 (by decide) (by decide) (by decide)
      have e129 := eM 129 (by decide) (by decide) (by decide)
      have e137 := eM 137 (by decide) (by decide) (by decide)
      have e138 := eM 138 (by decide) (by decide) (by decide)
      have e139 := eM 139 (by decide) (by decide) (by decide)
      have e140 := eM 140 (by decide) (by decide) (by decide)
      have e145 := eM 145 (by decide) (by decide) (by decide)
      have e146 := eM 146 (by decide) (by decide) (by decide)
      have e147 := eM 147 (by decide) (by decide) (by decide)
      have e148 := eM 148 (by decide) (by decide) (by decide)
      have e149 := eM 149 (by decide) (by decide) (by decide)
      have hrt : rt_a M := fun x x0 x1 m m0 m1 => by rw [e130, e131]; exact J_rt hJ x x0 x1 m m0 m1
      have hrg : rg_r M := by unfold rg_r; rw [e129, e137, e138]; exact J_rg hJ
      have hrsh : rsh_r M := by unfold rsh_r; rw [e129, e145, e146, e147]; exact J_rsh hJ
      have hrr : rr_r M := by unfold rr_r; rw [e129, e139, e140]; exact J_rr hJ
      have erp : rp M e = rp μ e := rp_c e130 e131
      have hrir : rir M e m (M 129 11).toNat = false := by
        have hrs' : ∀ r k, rir_s M e m r k = rir_s μ e m r k := fun r k => by
          induction k with
          | zero => rfl
          | succ k ih => unfold rir_s; rw [ih, e146, e147]
        have : ∀ k, rir M e m k = rir μ e m k := fun k => by
          induction k with
          | zero => rfl
          | succ k ih => unfold rir; rw [ih, hrs', e139, e140, e145]
        rw [this, e129, ← hnm]
        exact c.2
      have hcnt : cn (rwpn M e m) 648 = cn (rwpn μ e m) 648 := by
        have : rwpn M e m = rwpn μ e m := by unfold rwpn; rw [e137]
        rw [this]
      refine c_169 (d := d + 196) hp hrg hrt hrsh hrr (by rw [e148, e149]; exact hdr) h1 h2 g1 g2 (fun z y => (hwr M e130 e131 z y).2) (fun z => absurd (by rw [e130]; exact a') z) (fun _ z => absurd ⟨by rw [erp]; exact hsc, hrir⟩ z) (fun z y _ μ' f fo _ => ?_)
      have hrpN := (hwr M e130 e131 z y).1
      rw [hcnt]
      show Q2 _ (mm_hp w (rfgt μ') X n)
      have N9 : ∀ j, j ∉ [(0 : Int), 37, 38] → rfgt μ' 129 j = μ 129 j := fun j hj => by
        simp only [List.mem_cons, List.not_mem_nil, or_false, not_or] at hj
        unfold rfgt
        rw [mm_un hj.2.2, mm_un hj.2.1, f.1 129 (by decide) (by decide) (by decide)]
        unfold rdmp
        rw [mm_uu (by decide)]
        split
        · rw [mm_uu (by decide), rwpd_o (by decide), mm_un hj.1, e129]
        · rw [rwpd_o (by decide), mm_un hj.1, e129]
      have N0 : ∀ a, a ≠ 129 → a ≠ 130 → a ≠ 133 → a ≠ 134 → a ≠ 135 → a ≠ 137 → a ≠ 148 → rfgt μ' a = M a := fun a b1 b2 b3 b4 b5 b6 b7 => by
        rw [rfgt_x b1, f.1 a b3 b4 b5, rdmp_o ⟨b1, b2, b6, b7⟩]
      have N1 : ∀ a, a ≠ 129 → a ≠ 130 → a ≠ 133 → a ≠ 134 → a ≠ 135 → a ≠ 137 → a ≠ 148 → a ≠ 178 → a ≠ 103 → a ≠ 104 → (a < 97 ∨ 99 < a) → rfgt μ' a = tr_arr e A a := fun a b1 b2 b3 b4 b5 b6 b7 b8 b9 b10 b11 => by
        rw [N0 a b1 b2 b3 b4 b5 b6 b7, ← hM, mm_uu b8, W0 a b11, D0 a b9 b10]
      have N2 : ∀ a, a ≠ 129 → a ≠ 130 → a ≠ 133 → a ≠ 134 → a ≠ 135 → a ≠ 137 → a ≠ 148 → a ≠ 178 → a ≠ 103 → a ≠ 104 → (a < 97 ∨ 99 < a) → a ≠ 107 → (a < mm_tr e ∨ mm_tr e + 5 < a) → rfgt μ' a = μ a := fun a b1 b2 b3 b4 b5 b6 b7 b8 b9 b10 b11 b12 b13 => by
        rw [N1 a b1 b2 b3 b4 b5 b6 b7 b8 b9 b10 b11, T0 a b12 b13]
      have eK : ∀ k, k ≤ 5 → rfgt μ' (mm_tr e + k) = tr_arr e A (mm_tr e + k) := fun k hk => N1 _ (by omega) (by omega) (by omega) (by omega) (by omega) (by omega) (by omega) (by omega) (by omega) (by omega) (by omega)
      have n130 : rfgt μ' 130 = mm_u μ 130 (6 * e + m) 0 130 := by
        rw [rfgt_x (by decide), f.1 130 (by decide) (by decide) (by decide), rdmp_130]
        funext j
        rw [mm_ux, mm_ux, e130]
      have n131 : rfgt μ' 131 = μ 131 := by rw [N0 131 (by decide) (by decide) (by decide) (by decide) (by decide) (by decide) (by decide), e131]
      have n132 : rfgt μ' 132 = μ 132 := by rw [N0 132 (by decide) (by decide) (by decide) (by decide) (by decide) (by decide) (by decide), eM 132 (by decide) (by decide) (by decide)]
      have n138 : rfgt μ' 138 = μ 138 := by rw [N0 138 (by decide) (by decide) (by decide) (by decide) (by decide) (by decide) (by decide), e138]
      have n137 : ∀ j, rfgt μ' 137 j = if 0 ≤ j ∧ j < 648 ∧ rpart (j % 216) e = m then 0 else μ 137 j := fun j => by
        rw [rfgt_x (by decide), f.1 137 (by decide) (by decide) (by decide)]
        unfold rdmp
        rw [mm_uu (by decide)]
        have : ∀ M' : mm_M, M' 137 = μ 137 → rwpd M' e m 648 137 j = if 0 ≤ j ∧ j < 648 ∧ rpart (j % 216) e = m then 0 else μ 137 j := fun M' h => by
          unfold rwpd
          rw [h]
          by_cases y : 0 ≤ j ∧ j < 648 ∧ rpart (j % 216) e = m
          · rw [if_pos ⟨rfl, y⟩, if_pos y]
          · rw [if_neg (fun q => y q.2), if_neg y]
        split
        · rw [mm_uu (by decide)]
          exact this _ (by rw [mm_uu (by decide), e137])
        · exact this _ (by rw [mm_uu (by decide), e137])
      have n148 : ∀ j, rfgt μ' 148 j = if (0 < μ 148 e ∧ μ 149 e = m) ∧ j = e then 0 else μ 148 j := fun j => by
        rw [rfgt_x (by decide), f.1 148 (by decide) (by decide) (by decide)]
        unfold rdmp
        rw [mm_uu (by decide), e148, e149]
        by_cases y : 0 < μ 148 e ∧ μ 149 e = m
        · rw [if_pos y, mm_ux, rwpd_o (by decide), mm_uu (by decide), e148]
          by_cases u : j = e
          · rw [if_pos ⟨rfl, u⟩, if_pos ⟨y, u⟩]
          · rw [if_neg (fun q => u q.2), if_neg (fun q => u q.2)]
        · rw [if_neg y, if_neg (fun q => y q.1), rwpd_o (by decide), mm_uu (by decide), e148]
      have n149 : rfgt μ' 149 = μ 149 := by rw [N0 149 (by decide) (by decide) (by decide) (by decide) (by decide) (by decide) (by decide), e149]
      have n103 : ∀ j, rfgt μ' 103 j = if μ 104 e = m ∧ j = e then 0 else μ 103 j := fun j => by rw [N0 103 (by decide) (by decide) (by decide) (by decide) (by decide) (by decide) (by decide), ← hM, mm_uu (by decide), W0 103 (by decide), D3]
      have n104 : ∀ j, rfgt μ' 104 j = if μ 104 e = m ∧ j = e then 0 else μ 104 j := fun j => by rw [N0 104 (by decide) (by decide) (by decide) (by decide) (by decide) (by decide) (by decide), ← hM, mm_uu (by decide), W0 104 (by decide), D4]
      have rpN : ∀ x m', 0 ≤ x → x < 3 → 0 ≤ m' → m' < 6 → rp (rfgt μ') x m' = if x = e ∧ m' = m then -2 else rp μ x m' := fun x m' x0 x1 m0 m1 => by
        unfold rp
        rw [n130, n131, mm_ux]
        by_cases y : x = e ∧ m' = m
        · rw [if_pos (c := (130 : Nat) = 130 ∧ 6 * x + m' = 6 * e + m) ⟨rfl, by rw [y.1, y.2]⟩, if_neg (by decide), if_pos y]
        · rw [if_neg (c := (130 : Nat) = 130 ∧ 6 * x + m' = 6 * e + m) (fun q => y (by have := q.2; omega)), if_neg y]
      have hb : ∀ a, a < 178 → a ≠ 129 → a ∉ LD → rfgt μ' a = μ a := fun a a1 a2 a3 => by
        have := LD_m a3
        exact N2 a a2 (by omega) (by omega) (by omega) (by omega) (by omega) (by omega) (by omega) (by omega) (by omega) (by omega) (by omega) (by omega)
      have hagN : fo_ag (A (mm_tr e + 1)) (rp (rfgt μ') e) := fun x x0 x6 => by
        rw [A1, rpN e x he.1 he.2 x0 x6, mm_ux]
        by_cases y : x = m
        · rw [if_pos ⟨rfl, y⟩, if_pos ⟨rfl, y⟩]
        · rw [if_neg (fun q => y q.2), if_neg (fun q => y q.2)]; exact t4 x x0 x6
      have n95 : rfgt μ' 95 = μ 95 := hb 95 (by decide) (by decide) (by decide)
      have nin : ∀ l c, 0 ≤ l → l < μ 95 1 → 0 ≤ c → c < 216 → rfgt μ' (mm_inr l) (cc c) = if rpart c e = m then -2147483648 else μ (mm_inr l) (cc c) := fun l c l0 l1 c0 c1 => by
        have hi := mm_inr_r l
        rw [N0 (mm_inr l) (by omega) (by omega) (by omega) (by omega) (by omega) (by omega) (by omega), ← hM, mm_uu (by omega), ← hW, mm_wp_i ⟨l0, l1⟩ hL3.2 ⟨c0, c1⟩, D0 _ (by omega) (by omega), T0 _ (by omega) (by omega)]
      have nib : ∀ l j, -2147483648 ≤ μ (mm_inr l) j ∧ μ (mm_inr l) j ≤ 2147483647 → -2147483648 ≤ rfgt μ' (mm_inr l) j ∧ rfgt μ' (mm_inr l) j ≤ 2147483647 := fun l j hl => by
        have hi := mm_inr_r l
        rw [N0 (mm_inr l) (by omega) (by omega) (by omega) (by omega) (by omega) (by omega) (by omega), ← hM, mm_uu (by omega), ← hW]
        unfold mm_wp
        split
        · decide
        · rw [D0 _ (by omega) (by omega), T0 _ (by omega) (by omega)]
          exact hl
      obtain ⟨⟨cg1, cg2⟩, gg2, gg3, gg4⟩ := hJ.2.2.1
      have hrrJ := J_rr hJ
      refine hQ2 _ _ (J_mk LD [0, 37, 38] hb N9 hJ (Or.inr (J_t_1 he hJ.1 (fun a a1 a2 a3 => N2 a (by omega) (by omega) (by omega) (by omega) (by omega) (by omega) (by omega) (by omega) (by omega) (by omega) (by omega) (by omega) a3) (fun j hj => ?_) (fun j hj => ?_) ⟨tr_ok_c eK k1, mm_tw_c eK k2, rt_ok_c (fun a ha => rfgt_x (by omega)) fo, ?_, fun x x0 x6 q => ?_, ?_⟩)) (Or.inr (J_p_c (by rw [hb 53 (by decide) (by decide) (by decide)]) (hb 54 (by decide) (by decide) (by decide)) (fun b b1 b2 => hb b (by omega) (by omega) (fun q => ?_)) (N9 11 (by decide)) (hb 139 (by decide) (by decide) (by decide)) (hb 140 (by decide) (by decide) (by decide)) (fun r x r0 r1 x0 x1 g q => ?_) hJ.2.1)) (Or.inr ⟨⟨by rw [n95]; exact cg1, fun l j l0 l1 j0 j1 => nib l j (cg2 l j l0 l1 j0 j1)⟩, fun j j0 j1 => ?_, fun l c l0 l1 c0 c1 => ?_, fun j j0 j1 => ?_⟩) (Or.inl (by decide)) (Or.inl (by decide)) (Or.inl (by decide)) (Or.inr ⟨?_, fun x x0 x1 => ?_⟩) (Or.inl (by decide)) (Or.inl (by decide)) (Or.inl (by decide)) (Or.inl (by decide)) (Or.inr (J_h_f ?_ ?_ ?_ (hb 121 (by decide) (by decide) (by decide)) ?_ ?_ (fun b b1 b2 => hb b (by omega) (by omega) (fun q => ?_)) (J_jh hJ)))) ?_ (fun _ => ?_)
      · rw [n130, n131, n132, mm_un (by omega), rfgt_x (by decide), f.2.1 j hj, rdmp_o (by decide), eM 133 (by decide) (by decide) (by decide)]
        exact ⟨rfl, rfl, rfl, rfl⟩
      · rw [rfgt_x (by decide), f.2.2 j hj, rdmp_o (by decide), eM 134 (by decide) (by decide) (by decide)]
      · rw [eK 1 (by decide), tr_arr_row hwA (by omega) (by omega) (by omega) (by omega)]
        exact hagN
      · rw [rpN e x he.1 he.2 x0 x6] at q
        rw [eK 2 (by decide), tr_arr_row hwA (by omega) (by omega) (by omega) (by omega), n132, eA 2 (by omega) (by omega)]
        refine t5 x x0 x6 ?_
        by_cases y : x = m
        · rw [if_pos ⟨rfl, y⟩] at q; exact absurd rfl q
        · rw [if_neg (fun u => y u.2)] at q; exact q
      · have := eK 0 (by decide)
        rw [Nat.add_zero] at this
        rw [this, tr_arr_fld hwA (by decide), A6, ← rt_many_ag hagN, t6, hmany]
        omega
      · have := LD_n q; omega
      · have h1 := hJ.2.1.2.2.2 r x r0 r1 x0 x1
        have h2 := hrrJ.2 (3 * r + x) (by omega) (by have := hrrJ.1; omega)
        rw [rpN x _ x0 x1 (by omega) (by omega)]
        by_cases y : x = e ∧ μ 140 (3 * r + x) = m
        · exfalso
          have hf := c.2
          rw [hnm] at hf
          have hrk : ∀ k : Nat, r < k → rir μ e m k = true := fun k => by
            induction k with
            | zero => intro u; omega
            | succ k ih =>
              intro u
              unfold rir
              by_cases uu : r < k
              · rw [ih uu]; rfl
              · have : r = k := by omega
                rw [this] at y g h2
                rw [decide_eq_true (p := 0 < μ 139 (3 * (k : Int) + e) ∧ μ 140 (3 * (k : Int) + e) = m) ⟨by rw [← y.1]; omega, by rw [← y.1]; exact y.2⟩, Bool.or_true, Bool.true_or]
          rw [hrk _ (by omega)] at hf
          exact absurd hf (by decide)
        · rw [if_neg y]; exact q
      · rw [n137, n138]
        refine ⟨?_, (gg2 j j0 j1).2⟩
        split
        · exact Or.inl rfl
        · exact (gg2 j j0 j1).1
      · rw [n95] at l1
        rw [nin l c l0 l1 c0 c1, n137, n138, gg3 l c l0 l1 c0 c1]
        have em : (216 * l + c) % 216 = c := by omega
        rw [em]
        by_cases y : rpart c e = m
        · rw [if_pos y, if_pos (c := 0 ≤ 216 * l + c ∧ 216 * l + c < 648 ∧ rpart c e = m) ⟨by omega, by omega, y⟩, if_pos rfl]
        · rw [if_neg y, if_neg (c := 0 ≤ 216 * l + c ∧ 216 * l + c < 648 ∧ rpart c e = m) (fun u => y u.2.2)]
      · rw [n95] at j0
        rw [n137]
        split
        · rfl
        · exact gg4 j j0 j1
      · rw [hb 102 (by decide) (by decide) (by decide)]; exact hjd.1
      · have hx := hjd.2 x x0 x1
        rw [n103, n104, n148, n149]
        by_cases y : x = e
        · rw [y] at hx ⊢
          by_cases u : μ 104 e = m
          · rw [if_pos ⟨u, rfl⟩, if_pos ⟨u, rfl⟩]
            refine ⟨by decide, by decide, ?_, hx.2.2.2.1, fun q => absurd rfl q⟩
            by_cases vv : 0 < μ 148 e ∧ μ 149 e = m
            · rw [if_pos ⟨vv, rfl⟩]
            · rw [if_neg (fun q => vv q.1)]
              by_cases t : μ 103 e = 0
              · rw [hx.2.2.1, t]
              · exact absurd ⟨by rw [hx.2.2.1]; omega, by rw [(hx.2.2.2.2 t).1, u]⟩ vv
          · rw [if_neg (fun q => u q.1), if_neg (fun q => u q.1), if_neg (fun q => u (by rw [← (hx.2.2.2.2 (by have := q.1.1; have := hx.2.2.1; omega)).1]; exact q.1.2))]
            refine ⟨hx.1, hx.2.1, hx.2.2.1, hx.2.2.2.1, fun q => ⟨(hx.2.2.2.2 q).1, ?_⟩⟩
            rw [rpN e _ he.1 he.2 hx.2.1.1 (by omega), if_neg (fun t => u t.2)]
            exact (hx.2.2.2.2 q).2
        · rw [if_neg (fun q => y q.2), if_neg (fun q => y q.2), if_neg (fun q => y q.2)]
          refine ⟨hx.1, hx.2.1, hx.2.2.1, hx.2.2.2.1, fun q => ⟨(hx.2.2.2.2 q).1, ?_⟩⟩
          rw [rpN x _ x0 x1 hx.2.1.1 (by omega), if_neg (fun t => y t.1)]
          exact (hx.2.2.2.2 q).2
      · rw [N1 107 (by decide) (by decide) (by decide) (by decide) (by decide) (by decide) (by decide) (by decide) (by decide) (by decide) (by decide), tr_arr_row hwA (by omega) (by omega) (by omega) (by omega), A7, chf_7]
        exact if_neg (by decide)
      · rw [N1 107 (by decide) (by decide) (by decide) (by decide) (by decide) (by decide) (by decide) (by decide) (by decide) (by decide) (by decide), tr_arr_row hwA (by omega) (by omega) (by omega) (by omega), A7, chf_7]
        exact if_pos (by decide)
      · rw [N1 107 (by decide) (by decide) (by decide) (by decide) (by decide) (by decide) (by decide) (by decide) (by decide) (by decide) (by decide), tr_arr_row hwA (by omega) (by omega) (by omega) (by omega), A7, chf_7]
        exact if_pos (by decide)
      · unfold rfgt
        rw [mm_un (by decide), mm_us]
      · unfold rfgt
        rw [mm_us]
      · have := LD_n q; omega
      · unfold rfgt
        rw [mm_un (by decide), mm_un (by decide), f.1 129 (by decide) (by decide) (by decide)]
        unfold rdmp
        rw [mm_uu (by decide)]
        split
        · rw [mm_uu (by decide), rwpd_o (by decide), mm_us]
        · rw [rwpd_o (by decide), mm_us]
      · rw [N0 178 (by decide) (by decide) (by decide) (by decide) (by decide) (by decide) (by decide), ← hM, mm_us]
    · rw [if_pos c]
      refine ⟨n0_6 hn, ?_⟩
      rw [bk_h (hp := 17) (by decide +kernel), b_4_17 hq]
      refine hQ 2 _ X _ (nr_t hn) fun Q2 hQ2 => ?_
      have c' : ¬ (sp_fc (rp μ e) m = -1 ∧ rir μ e m (μ 129 11).toNat = false) := fun z => c ⟨(hleaf a).mpr z.1, by rw [hnm]; exact z.2⟩
      exact c_169 (d := d + 196) hp (J_rg hJ) (J_rt hJ) (J_rsh hJ) (J_rr hJ) hdr h1 h2 g1 g2 (fun z y => (hwr μ rfl rfl z y).2) (fun z => absurd a' z) (fun _ _ => hQ2 0 _ (J_th hJ) mm_us (fun z => absurd z (by decide))) (fun _ z y => absurd ⟨z, y⟩ c')
  · rw [if_pos a]
    refine ⟨n0_6 hn, ?_⟩
    rw [bk_h (hp := 13) (by decide +kernel), b_4_13 hq]
    refine hQ 1 _ X _ (nr_t hn) fun Q2 hQ2 => ?_
    exact c_169 (d := d + 196) hp (J_rg hJ) (J_rt hJ) (J_rsh hJ) (J_rr hJ) hdr h1 h2 g1 g2 (fun z y => (hwr μ rfl rfl z y).2) (fun _ => hQ2 0 _ (J_th hJ) mm_us (fun z => absurd z (by decide))) (fun z _ => absurd (hiff.mpr z) a) (fun z _ _ => absurd (hiff.mpr z) a)
end LC
