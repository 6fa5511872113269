/-! Calls of both sides: dropRule. -/
section LC
variable {d : Nat} {w : mm_Z} {μ μ' : mm_M} {X : mm_X} {n : mm_N} {e m l k v b s x z r c i : Int}
/-- how many entries a rule has in a row of the reference -/
def rwd (x : Nat) : Int := if x = 139 ∨ x = 140 then 3 else if x = 141 ∨ x = 145 then 1 else if x = 142 ∨ x = 143 ∨ x = 144 then 64 else if x = 146 ∨ x = 147 then 24 else 0
theorem rwd_r (x : Nat) : rwd x = 0 ∨ rwd x = 1 ∨ rwd x = 3 ∨ rwd x = 24 ∨ rwd x = 64 := by
  unfold rwd
  (repeat' split) <;> decide
theorem rmv1_at (x : Nat) (j : Int) : rmv1 μ i x j = if rwd x * i ≤ j ∧ j < rwd x * i + rwd x then μ x (j + rwd x) else μ x j := by
  have hA : ∀ y : Nat, y = 139 ∨ y = 140 → mm_sf μ 139 140 (3 * i) 3 3 y j = if 3 * i ≤ j ∧ j < 3 * i + 3 then μ y (j + 3) else μ y j := fun y hy => by
    unfold mm_sf
    by_cases q : 3 * i ≤ j ∧ j < 3 * i + 3
    · rw [if_pos ⟨by omega, q⟩, if_pos q]
    · rw [if_neg (fun u => q u.2), if_neg q]
  have hA0 : ∀ (y : Nat) (j : Int), y ≠ 139 → y ≠ 140 → mm_sf μ 139 140 (3 * i) 3 3 y j = μ y j := fun y j h1 h2 => by
    unfold mm_sf
    rw [if_neg (by omega)]
  have hB : ∀ (y : Nat) (j : Int), rmvB μ i y j = if y = 145 ∧ j = i then μ 145 (i + 1) else if y = 141 ∧ j = i then μ 141 (i + 1) else mm_sf μ 139 140 (3 * i) 3 3 y j := fun y j => by
    unfold rmvB
    rw [mm_ux, mm_uu (show (145 : Nat) ≠ 141 by decide), hA0 145 _ (by decide) (by decide), hA0 141 _ (by decide) (by decide), mm_ux]
  have hC : ∀ (y : Nat) (j : Int), rmv1 μ i y j = if (146 ≤ y ∧ y ≤ 147) ∧ 24 * i ≤ j ∧ j < 24 * i + 24 then μ y (j + 24) else if (142 ≤ y ∧ y ≤ 144) ∧ 64 * i ≤ j ∧ j < 64 * i + 64 then μ y (j + 64) else rmvB μ i y j := fun y j => by
    unfold rmv1
    have h1 : ∀ j, 146 ≤ y → mm_sf (rmvB μ i) 142 144 (64 * i) 64 64 y j = μ y j := fun j hy => by
      unfold mm_sf
      rw [if_neg (by omega)]
      rw [hB, if_neg (by omega), if_neg (by omega), hA0 y j (by omega) (by omega)]
    have h2 : ∀ j, 142 ≤ y → y ≤ 144 → rmvB μ i y j = μ y j := fun j hy hy2 => by
      rw [hB, if_neg (by omega), if_neg (by omega), hA0 y j (by omega) (by omega)]
    unfold mm_sf
    by_cases q : (146 ≤ y ∧ y ≤ 147) ∧ 24 * i ≤ j ∧ j < 24 * i + 24
    · rw [if_pos q, if_pos q]
      exact h1 _ q.1.1
    · rw [if_neg q, if_neg q]
      by_cases u : (142 ≤ y ∧ y ≤ 144) ∧ 64 * i ≤ j ∧ j < 64 * i + 64
      · rw [if_pos u, if_pos u]
        exact h2 _ u.1.1 u.1.2
      · rw [if_neg u, if_neg u]
  rw [hC]
  unfold rwd
  by_cases a : x = 139 ∨ x = 140
  · rw [if_pos a, if_neg (by omega), if_neg (by omega), hB, if_neg (by omega), if_neg (by omega), hA x a]
  · rw [if_neg a]
    by_cases b : x = 141 ∨ x = 145
    · rw [if_pos b, if_neg (by omega), if_neg (by omega), hB, Int.one_mul]
      by_cases y : j = i
      · rw [if_pos (c := i ≤ j ∧ j < i + 1) (by omega)]
        rcases b with b | b
        · rw [if_neg (by omega), if_pos ⟨b, y⟩, b, y]
        · rw [if_pos ⟨b, y⟩, b, y]
      · rw [if_neg (c := i ≤ j ∧ j < i + 1) (by omega), if_neg (fun q => y q.2), if_neg (fun q => y q.2), hA0 x j (by omega) (by omega)]
    · rw [if_neg b]
      by_cases c : x = 142 ∨ x = 143 ∨ x = 144
      · rw [if_pos c, if_neg (by omega)]
        by_cases y : 64 * i ≤ j ∧ j < 64 * i + 64
        · rw [if_pos ⟨by omega, y⟩, if_pos y]
        · rw [if_neg (fun q => y q.2), if_neg y, hB, if_neg (by omega), if_neg (by omega), hA0 x j (by omega) (by omega)]
      · rw [if_neg c]
        by_cases g : x = 146 ∨ x = 147
        · rw [if_pos g]
          by_cases y : 24 * i ≤ j ∧ j < 24 * i + 24
          · rw [if_pos ⟨by omega, y⟩, if_pos y]
          · rw [if_neg (fun q => y q.2), if_neg y, if_neg (by omega), hB, if_neg (by omega), if_neg (by omega), hA0 x j (by omega) (by omega)]
        · rw [if_neg g, if_neg (by omega), if_neg (by omega), hB, if_neg (by omega), if_neg (by omega), hA0 x j (by omega) (by omega), if_neg (by omega)]
theorem rmvs_at (x : Nat) (j : Int) : ∀ (k : Nat) (i : Int) (μ : mm_M), rmvs k i μ x j = if rwd x * i ≤ j ∧ j < rwd x * (i + k) then μ x (j + rwd x) else μ x j := by
  intro k
  induction k with
  | zero =>
    intro i μ
    rw [if_neg (by rw [show i + ((0 : Nat) : Int) = i by omega]; omega)]
    rfl
  | succ k ih =>
    intro i μ
    show rmvs k (i + 1) (rmv1 μ i) x j = _
    rw [ih, rmv1_at, rmv1_at]
    rcases rwd_r x with h | h | h | h | h <;> rw [h] <;> (repeat' split) <;> first | rfl | omega
/-- the rule that stands at r' when rule r went -/
def rho (r r' : Int) : Int := if r' < r then r' else r' + 1
theorem L_dropRule (hq : mm_Q w) (hJ : J μ) (hn : n0 n) (h1 : -2147483648 ≤ r) (h2 : r ≤ 2147483647) : PRI w X n (d + 200) 6 [.ref 32, .int (Int32.ofInt (r)), .ref 178] 171 [.ref 129, .int (Int32.ofInt (r))] μ := by
  intro Q1 hQ
  have hp := mm_QP hq
  obtain ⟨p1, p2, p3, p4⟩ := hJ.2.1
  have h11 := p1.1
  rw [en_6 (d := d + 199), b_6_0 hq, c_32 (d := d + 197) hp p2 h1 h2]
  by_cases a : 0 ≤ r ∧ r < μ 53 1
  · rw [if_neg (fun z => z a), bk_v, b_6_7 hq, mm_w0, mm_gd (by decide)]
    refine hQ 0 _ X n nr_r fun Q2 hQ2 => ?_
    have a' : 0 ≤ r ∧ r < μ 129 11 := by rw [← p3]; exact a
    generalize hM : mm_u (mm_u (mm_u (crot (chf μ) r 7) 54 7 (μ 54 r)) 53 1 (μ 53 1 - 1)) 178 0 (mm_w (μ 53 1 - 1)) = M
    have eM : ∀ a, a ≠ 53 → a ≠ 54 → a ≠ 107 → a ≠ 178 → M a = μ a := fun a b1 b2 b3 b4 => by
      rw [← hM, mm_uu b4, mm_uu b1, mm_uu b2]
      funext j
      unfold crot
      rw [if_neg (fun q => b2 q.1), chf_x b3]
    have e129 := eM 129 (by decide) (by decide) (by decide) (by decide)
    have hrr : rr_r M := by unfold rr_r; rw [e129, eM 139 (by decide) (by decide) (by decide) (by decide), eM 140 (by decide) (by decide) (by decide) (by decide)]; exact p1
    rw [c_171 (d := d + 198) hp hrr h1 h2, e129, if_neg (fun z => z a')]
    generalize hN : mm_u (mm_u (mm_u (rmvs (μ 129 11 - 1 - r).toNat r (mm_u M 129 0 0)) 129 11 (μ 129 11 - 1)) 129 37 0) 129 38 0 = N
    have N0 : ∀ a, a ≠ 129 → N a = fun j => if rwd a * r ≤ j ∧ j < rwd a * (μ 129 11 - 1) then M a (j + rwd a) else M a j := fun a b1 => by
      funext j
      rw [← hN, mm_uu b1, mm_uu b1, mm_uu b1, rmvs_at, mm_uu b1, show r + ((μ 129 11 - 1 - r).toNat : Int) = μ 129 11 - 1 by omega]
    have N1 : ∀ a, a ≠ 129 → rwd a = 0 → N a = M a := fun a b1 b2 => by
      rw [N0 a b1, b2]
      funext j
      rw [if_neg (by omega)]
    have N9 : ∀ j, j ∉ [(0 : Int), 11, 37, 38] → N 129 j = μ 129 j := fun j hj => by
      simp only [List.mem_cons, List.not_mem_nil, or_false, not_or] at hj
      rw [← hN, mm_un hj.2.2.2, mm_un hj.2.2.1, mm_un hj.2.1, rmvs_129, mm_un hj.1, e129]
    have N11 : N 129 11 = μ 129 11 - 1 := by rw [← hN, mm_un (by decide), mm_un (by decide), mm_us]
    have hb : ∀ a, a < 178 → a ≠ 129 → a ∉ [53, 54, 107, 139, 140, 141, 142, 143, 144, 145, 146, 147] → N a = μ a := fun a a1 a2 a3 => by
      simp only [List.mem_cons, List.not_mem_nil, or_false, not_or] at a3
      rw [N1 a a2 (by unfold rwd; rw [if_neg (by omega), if_neg (by omega), if_neg (by omega), if_neg (by omega)]), eM a (by omega) (by omega) (by omega) (by omega)]
    have n54 : ∀ j, 0 ≤ j → j < 8 → N 54 j = if j = 7 then μ 54 r else μ 54 (rho r j) := fun j j0 j1 => by
      rw [N1 54 (by decide) (by decide), ← hM, mm_uu (by decide), mm_uu (by decide), mm_ux]
      by_cases y : j = 7
      · rw [if_pos ⟨rfl, y⟩, if_pos y]
      · rw [if_neg (fun q => y q.2), if_neg y]
        unfold crot rho
        rw [chf_x (by decide)]
        by_cases u : j < r
        · rw [if_neg (by omega), if_pos u]
        · rw [if_pos ⟨rfl, by omega, by omega⟩, if_neg u]
    have n53 : N 53 1 = μ 53 1 - 1 := by rw [N1 53 (by decide) (by decide), ← hM, mm_uu (by decide), mm_us]
    have hrho : ∀ j, 0 ≤ j → j < μ 129 11 - 1 → 0 ≤ rho r j ∧ rho r j < μ 129 11 := fun j j0 j1 => by
      unfold rho
      split <;> omega
    have hrho7 : ∀ j, 0 ≤ j → j < 7 → (0 ≤ rho r j ∧ rho r j < 8) ∧ rho r j ≠ r := fun j j0 j1 => by
      unfold rho
      split <;> omega
    have n54' : ∀ j, 0 ≤ j → j < μ 129 11 - 1 → N 54 j = μ 54 (rho r j) := fun j j0 j1 => by rw [n54 j j0 (by omega), if_neg (by omega)]
    have nrow : ∀ (a : Nat) (W : Int), a ≠ 129 → a ≠ 53 → a ≠ 54 → a ≠ 107 → a ≠ 178 → rwd a = W → (W = 1 ∨ W = 3 ∨ W = 24 ∨ W = 64) → ∀ j t, 0 ≤ j → j < μ 129 11 - 1 → 0 ≤ t → t < W → N a (W * j + t) = μ a (W * rho r j + t) := fun a W b1 b2 b3 b4 b5 b6 b7 j t j0 j1 t0 t1 => by
      rw [N0 a b1, b6, eM a b2 b3 b4 b5]
      show (if W * r ≤ W * j + t ∧ W * j + t < W * (μ 129 11 - 1) then μ a (W * j + t + W) else μ a (W * j + t)) = _
      unfold rho
      by_cases u : j < r
      · rw [if_neg (by rcases b7 with h | h | h | h <;> subst h <;> omega), if_pos u]
      · rw [if_pos (by rcases b7 with h | h | h | h <;> subst h <;> omega), if_neg u]
        congr 1
        rcases b7 with h | h | h | h <;> subst h <;> omega
    have nval : ∀ (a : Nat) (P : Int → Prop), (a = 139 ∨ a = 140) → (∀ j, 0 ≤ j → j < 24 → P (μ a j)) → ∀ j, 0 ≤ j → j < 24 → P (N a j) := fun a P b1 h j j0 j1 => by
      have : rwd a = 3 := by unfold rwd; rw [if_pos b1]
      rw [N0 a (by omega), this, eM a (by omega) (by omega) (by omega) (by omega)]
      show P (if 3 * r ≤ j ∧ j < 3 * (μ 129 11 - 1) then μ a (j + 3) else μ a j)
      split
      · exact h _ (by omega) (by omega)
      · exact h _ j0 j1
    have nrl : ∀ v k, k ≤ 4 → N (mm_rl v + k) = μ (mm_rl v + k) := fun v k hk => by
      have := mm_rl_r v
      refine hb _ (by omega) (by omega) ?_
      simp only [List.mem_cons, List.not_mem_nil, or_false, not_or]
      omega
    have nrl0 : ∀ v, N (mm_rl v) = μ (mm_rl v) := fun v => by have := nrl v 0 (by decide); rw [Nat.add_zero] at this; exact this
    have n139 : ∀ j x, 0 ≤ j → j < μ 129 11 - 1 → 0 ≤ x → x < 3 → N 139 (3 * j + x) = μ 139 (3 * rho r j + x) := fun j x => nrow 139 3 (by decide) (by decide) (by decide) (by decide) (by decide) rfl (by decide) j x
    have n140 : ∀ j x, 0 ≤ j → j < μ 129 11 - 1 → 0 ≤ x → x < 3 → N 140 (3 * j + x) = μ 140 (3 * rho r j + x) := fun j x => nrow 140 3 (by decide) (by decide) (by decide) (by decide) (by decide) rfl (by decide) j x
    have n141 : ∀ j, 0 ≤ j → j < μ 129 11 - 1 → N 141 j = μ 141 (rho r j) := fun j j0 j1 => by have := nrow 141 1 (by decide) (by decide) (by decide) (by decide) (by decide) rfl (by decide) j 0 j0 j1 (by decide) (by decide); rw [show 1 * j + 0 = j by omega, show 1 * rho r j + 0 = rho r j by omega] at this; exact this
    have n145 : ∀ j, 0 ≤ j → j < μ 129 11 - 1 → N 145 j = μ 145 (rho r j) := fun j j0 j1 => by have := nrow 145 1 (by decide) (by decide) (by decide) (by decide) (by decide) rfl (by decide) j 0 j0 j1 (by decide) (by decide); rw [show 1 * j + 0 = j by omega, show 1 * rho r j + 0 = rho r j by omega] at this; exact this
    have erp : ∀ x, rp N x = rp μ x := fun x => rp_c (hb 130 (by decide) (by decide) (by decide)) (hb 131 (by decide) (by decide) (by decide))
    refine hQ2 _ N (J_mk [53, 54, 107, 139, 140, 141, 142, 143, 144, 145, 146, 147] [0, 11, 37, 38] hb N9 hJ (Or.inl (by decide)) (Or.inr ⟨⟨by rw [N11]; omega, fun j j0 j1 => ?_⟩, ⟨by rw [n53]; omega, fun j j0 j1 => ?_, fun v e v0 v1 e0 e1 => ?_⟩, by rw [n53, N11, p3], fun r' x r0 r1 x0 x1 => ?_⟩) (Or.inl (by decide)) (Or.inr fun r' r0 r1 => ?_) (Or.inr fun i j i0 i1 j0 j1 hij => ?_) (Or.inl (by decide)) (Or.inl (by decide)) (Or.inl (by decide)) (Or.inl (by decide)) (Or.inl (by decide)) (Or.inl (by decide)) (Or.inr (J_h_f ?_ ?_ ?_ (hb 121 (by decide) (by decide) (by decide)) ?_ ?_ (fun b b1 b2 => hb b (by omega) (by omega) (fun q => ?_)) (J_jh hJ)))) ?_ (fun _ => ?_)
    · have q := p1.2
      have hm : ∀ j, N 139 j = (if 3 * r ≤ j ∧ j < 3 * (μ 129 11 - 1) then μ 139 (j + 3) else μ 139 j) ∧ N 140 j = (if 3 * r ≤ j ∧ j < 3 * (μ 129 11 - 1) then μ 140 (j + 3) else μ 140 j) := fun j => by
        rw [N0 139 (by decide), N0 140 (by decide), eM 139 (by decide) (by decide) (by decide) (by decide), eM 140 (by decide) (by decide) (by decide) (by decide)]
        exact ⟨rfl, rfl⟩
      rw [(hm j).1, (hm j).2]
      by_cases u : 3 * r ≤ j ∧ j < 3 * (μ 129 11 - 1)
      · rw [if_pos u, if_pos u]
        exact q _ (by omega) (by omega)
      · rw [if_neg u, if_neg u]
        exact q _ j0 j1
    · rw [n54 j j0 j1]
      split
      · exact p2.2.1 r a.1 (by omega)
      · exact p2.2.1 _ (hrho7 j j0 (by omega)).1.1 (hrho7 j j0 (by omega)).1.2
    · rw [nrl v 1 (by decide), nrl v 2 (by decide)]
      exact p2.2.2 v e v0 v1 e0 e1
    · rw [N11] at r1
      have hr := hrho r' r0 r1
      rw [n54' r' r0 r1, nrl _ 1 (by decide), nrl _ 2 (by decide), n139 r' x r0 r1 x0 x1, n140 r' x r0 r1 x0 x1, erp]
      exact p4 (rho r r') x hr.1 hr.2 x0 x1
    · rw [N11] at r1
      have hr := hrho r' r0 r1
      obtain ⟨C, S, c1, c2, c3, c4⟩ := hJ.2.2.2.1 (rho r r') hr.1 hr.2
      have hC24 := rd_fok_24 c3
      refine ⟨C, S, ⟨by rw [n141 r' r0 r1]; exact c1.1, fun i hi => ?_⟩, ⟨by rw [n145 r' r0 r1]; exact c2.1, fun j hj => ?_⟩, c3, ?_⟩
      · rw [nrow 142 64 (by decide) (by decide) (by decide) (by decide) (by decide) rfl (by decide) r' i r0 r1 (by omega) (by omega), nrow 143 64 (by decide) (by decide) (by decide) (by decide) (by decide) rfl (by decide) r' i r0 r1 (by omega) (by omega), nrow 144 64 (by decide) (by decide) (by decide) (by decide) (by decide) rfl (by decide) r' i r0 r1 (by omega) (by omega)]
        exact c1.2 i hi
      · have hS24 := c3.2.2.1
        rw [nrow 146 24 (by decide) (by decide) (by decide) (by decide) (by decide) rfl (by decide) r' j r0 r1 (by omega) (by omega), nrow 147 24 (by decide) (by decide) (by decide) (by decide) (by decide) rfl (by decide) r' j r0 r1 (by omega) (by omega)]
        exact c2.2 j hj
      · unfold rd_lyr
        rw [n54' r' r0 r1, nrl0, nrl _ 3 (by decide), nrl _ 4 (by decide)]
        exact c4
    · have hu := hJ.2.2.2.2.1
      rw [n54 i i0 i1, n54 j j0 j1] at hij
      by_cases y : i = 7
      · by_cases u : j = 7
        · rw [y, u]
        · rw [if_pos y, if_neg u] at hij
          have := hrho7 j j0 (by omega)
          exact absurd (hu _ _ a.1 (by omega) this.1.1 this.1.2 hij).symm this.2
      · by_cases u : j = 7
        · rw [if_neg y, if_pos u] at hij
          have := hrho7 i i0 (by omega)
          exact absurd (hu _ _ this.1.1 this.1.2 a.1 (by omega) hij) this.2
        · rw [if_neg y, if_neg u] at hij
          have h1 := hrho7 i i0 (by omega)
          have h2 := hrho7 j j0 (by omega)
          have := hu _ _ h1.1.1 h1.1.2 h2.1.1 h2.1.2 hij
          unfold rho at this
          (repeat' split at this) <;> omega
    · have : N 107 = chf μ 107 := by
        rw [N1 107 (by decide) (by decide), ← hM, mm_uu (by decide), mm_uu (by decide), mm_uu (by decide)]
        funext j
        unfold crot
        rw [if_neg (by omega)]
      rw [this, chf_7]
      exact if_neg (by decide)
    · have : N 107 = chf μ 107 := by
        rw [N1 107 (by decide) (by decide), ← hM, mm_uu (by decide), mm_uu (by decide), mm_uu (by decide)]
        funext j
        unfold crot
        rw [if_neg (by omega)]
      rw [this, chf_7]
      exact if_pos (by decide)
    · have : N 107 = chf μ 107 := by
        rw [N1 107 (by decide) (by decide), ← hM, mm_uu (by decide), mm_uu (by decide), mm_uu (by decide)]
        funext j
        unfold crot
        rw [if_neg (by omega)]
      rw [this, chf_7]
      exact if_pos (by decide)
    · rw [← hN, mm_un (by decide), mm_us]
    · rw [← hN, mm_us]
    · simp only [List.mem_cons, List.not_mem_nil, or_false] at q
      omega
    · rw [← hN, mm_un (by decide), mm_un (by decide), mm_un (by decide), rmvs_129, mm_us]
    · rw [N1 178 (by decide) (by decide), ← hM, mm_us, p3]
  · rw [if_pos a]
    refine ⟨n0_6 hn, ?_⟩
    rw [bk_h (hp := 12) (by decide +kernel), b_6_12 hq]
    refine hQ 1 _ X _ (nr_t hn) fun Q2 hQ2 => ?_
    rw [c_171 (d := d + 198) hp p1 h1 h2, if_pos (by rw [← p3]; exact a)]
    exact hQ2 0 _ (J_th hJ) mm_us (fun z => absurd z (by decide))
end LC
