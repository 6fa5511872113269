/-! The reference's first members; the relation holds at the start. -/
/-- the trees of one dimension, both sides -/
def jt (μ : mm_M) (e : Int) : Prop := tr_ok μ e ∧ mm_tw μ e ∧ rt_ok μ e ∧ fo_ag (μ (mm_tr e + 1)) (rp μ e) ∧ (∀ m, 0 ≤ m → m < 6 → rp μ e m ≠ -2 → μ (mm_tr e + 2) m = μ 132 (6 * e + m)) ∧ μ (mm_tr e) 6 = rt_many (rp μ e)
def qroot : Int → Int := fun j => if j = 0 then -1 else if 0 ≤ j ∧ j < 6 then -2 else 0
def qB (B : mm_M) : Prop := ∀ e, 0 ≤ e → e < 3 → tr_ok B e ∧ mm_tw B e ∧ B (mm_tr e + 1) = qroot ∧ B (mm_tr e + 2) 0 = 1 ∧ B (mm_tr e) 6 = 1
def qV (B N : mm_M) (k : Int) : Prop := (∀ b, b < 130 ∨ 135 < b → N b = B b) ∧ (∀ e, 0 ≤ e → e < k → jt N e) ∧ (∀ j, 6 * k ≤ j → j < 18 → N 130 j = 0 ∧ N 131 j = 0) ∧ ∀ j, 0 ≤ j → j < 18 → 0 ≤ N 132 j ∧ N 132 j ≤ 4
section QJ
variable {d : Nat} {Q : am_Ou → am_G → Prop} {w : mm_Z} {μ μ' B N M : mm_M} {X : mm_X} {n : mm_N} {e k x : Int}
theorem qroot_wf : fo_wf qroot := by
  intro m h0 h1
  rcases (by omega : m = 0 ∨ m = 1 ∨ m = 2 ∨ m = 3 ∨ m = 4 ∨ m = 5) with rfl | rfl | rfl | rfl | rfl | rfl <;> decide
theorem qroot_many : rt_many qroot = 1 := by decide
theorem jt_cl (x0 : 0 ≤ x) (x1 : x < 3) (ha : ∀ k, k ≤ 5 → μ' (mm_tr x + k) = μ (mm_tr x + k)) (h : tr_ok μ x ∧ mm_tw μ x) : tr_ok μ' x ∧ mm_tw μ' x := by
  have e0 := ha 0 (by omega)
  rw [Nat.add_zero] at e0
  obtain ⟨⟨a1, a2, a3, a4, a5⟩, b⟩ := h
  constructor
  · unfold tr_ok
    rw [e0, ha 1 (by omega), ha 3 (by omega), ha 4 (by omega), ha 5 (by omega)]
    exact ⟨a1, a2, a3, a4, a5⟩
  · unfold mm_tw
    rw [e0, ha 1 (by omega), ha 2 (by omega), ha 3 (by omega), ha 4 (by omega), ha 5 (by omega)]
    exact b
theorem jt_c (x0 : 0 ≤ x) (x1 : x < 3) (ha : ∀ k, k ≤ 5 → μ' (mm_tr x + k) = μ (mm_tr x + k)) (h0 : ∀ m, 0 ≤ m → m < 6 → μ' 130 (6 * x + m) = μ 130 (6 * x + m) ∧ μ' 131 (6 * x + m) = μ 131 (6 * x + m) ∧ μ' 132 (6 * x + m) = μ 132 (6 * x + m) ∧ μ' 133 (6 * x + m) = μ 133 (6 * x + m)) (h4 : μ' 134 x = μ 134 x) (h : jt μ x) : jt μ' x := by
  have hag : fo_ag (rp μ x) (rp μ' x) := fun m m0 m6 => by
    unfold rp
    rw [(h0 m m0 m6).1, (h0 m m0 m6).2.1]
  obtain ⟨a, b, ⟨c1, c2, c3, c4⟩, d, f, g⟩ := h
  have hL : fo_L (rp μ' x) = fo_L (rp μ x) := (ag_L hag).symm
  have e0 := ha 0 (by omega)
  rw [Nat.add_zero] at e0
  obtain ⟨r1, r2⟩ := jt_cl x0 x1 ha ⟨a, b⟩
  refine ⟨r1, r2, ⟨fo_wf_ag hag c1, fun m m0 m6 => ?_, ?_, fun j j0 jl => ?_⟩, fun m m0 m6 => ?_, fun m m0 m6 q => ?_, ?_⟩
  · rw [(h0 m m0 m6).1, (h0 m m0 m6).2.1]
    exact c2 m m0 m6
  · rw [h4, hL, c3]
  · rw [hL] at jl ⊢
    have := (fo_Lin c1).2.2
    rw [(h0 j j0 (by omega)).2.2.2]
    exact c4 j j0 jl
  · rw [ha 1 (by omega), ← hag m m0 m6]
    exact d m m0 m6
  · rw [← hag m m0 m6] at q
    rw [ha 2 (by omega), (h0 m m0 m6).2.2.1]
    exact f m m0 m6 q
  · rw [e0, g]
    exact rt_many_ag hag
/-- a dimension's first member in the reference -/
def q1 (N : mm_M) (k : Int) : mm_M := mm_u (mm_u (mm_u N 130 (6 * k) 1) 131 (6 * k) (-1)) 132 (6 * k) 1
theorem q1_o {b : Nat} (h : b ≠ 130 ∧ b ≠ 131 ∧ b ≠ 132) : q1 N k b = N b := by
  unfold q1
  rw [mm_uu h.2.2, mm_uu h.2.1, mm_uu h.1]
theorem q1_0 : q1 N k 130 = fun j => if j = 6 * k then 1 else N 130 j := by
  unfold q1
  rw [mm_uu (by decide), mm_uu (by decide), mm_us3]
theorem q1_1 : q1 N k 131 = fun j => if j = 6 * k then -1 else N 131 j := by
  unfold q1
  rw [mm_uu (by decide), mm_us3, mm_uu (by decide)]
theorem q1_2 : q1 N k 132 = fun j => if j = 6 * k then 1 else N 132 j := by
  unfold q1
  rw [mm_us3, mm_uu (by decide), mm_uu (by decide)]
theorem q1_ag (hk : 0 ≤ k ∧ k < 3) (h : qV B N k) : fo_ag qroot (rp (q1 N k) k) := by
  intro m m0 m6
  unfold rp
  rw [q1_0, q1_1]
  show qroot m = if (if 6 * k + m = 6 * k then (1 : Int) else N 130 (6 * k + m)) = 1 then (if 6 * k + m = 6 * k then (-1 : Int) else N 131 (6 * k + m)) else -2
  unfold qroot
  by_cases z : m = 0
  · rw [if_pos z, if_pos (show 6 * k + m = 6 * k by omega), if_pos (show 6 * k + m = 6 * k by omega), if_pos rfl]
  · rw [if_neg z, if_pos ⟨m0, m6⟩, if_neg (show ¬ 6 * k + m = 6 * k by omega), (h.2.2.1 _ (by omega) (by omega)).1, if_neg (by decide)]
theorem q1_r (hk : 0 ≤ k ∧ k < 3) (h : qV B N k) : rt_r (q1 N k) k := by
  intro m m0 m6
  rw [q1_0, q1_1]
  show ((if 6 * k + m = 6 * k then (1 : Int) else N 130 (6 * k + m)) = 0 ∨ (if 6 * k + m = 6 * k then (1 : Int) else N 130 (6 * k + m)) = 1) ∧ (-1 ≤ (if 6 * k + m = 6 * k then (-1 : Int) else N 131 (6 * k + m)) ∧ (if 6 * k + m = 6 * k then (-1 : Int) else N 131 (6 * k + m)) ≤ 5)
  by_cases z : m = 0
  · rw [if_pos (show 6 * k + m = 6 * k by omega), if_pos (show 6 * k + m = 6 * k by omega)]
    exact ⟨Or.inr rfl, by decide, by decide⟩
  · rw [if_neg (show ¬ 6 * k + m = 6 * k by omega), if_neg (show ¬ 6 * k + m = 6 * k by omega), (h.2.2.1 _ (by omega) (by omega)).1, (h.2.2.1 _ (by omega) (by omega)).2]
    exact ⟨Or.inl rfl, by decide, by decide⟩
theorem q_st (hB : qB B) (hk : 0 ≤ k ∧ k < 3) (h : qV B N k) (h1 : rf_fr k (q1 N k) μ') (h2 : rt_ok μ' k) (h3 : rp μ' k = rp (q1 N k) k) : qV B μ' (k + 1) := by
  obtain ⟨a1, a2, a3, a4⟩ := h
  obtain ⟨f1, f2, f3⟩ := h1
  have hag := q1_ag hk ⟨a1, a2, a3, a4⟩
  rw [← h3] at hag
  have ho : ∀ b, b < 130 ∨ 135 < b → μ' b = N b := fun b hb => by rw [f1 b (by omega) (by omega) (by omega), q1_o ⟨by omega, by omega, by omega⟩]
  have t : ∀ e : Int, mm_tr e + 5 < 130 := fun e => by have := mm_tr_b (z := e); omega
  refine ⟨fun b hb => (ho b hb).trans (a1 b hb), fun e e0 e1 => ?_, fun j j0 j1 => ?_, fun j j0 j1 => ?_⟩
  · by_cases z : e = k
    · rw [z]
      obtain ⟨b1, b2, b3, b4, b5⟩ := hB k hk.1 hk.2
      have tk := t k
      have hc : ∀ i, i ≤ 5 → μ' (mm_tr k + i) = B (mm_tr k + i) := fun i hi => (ho _ (Or.inl (by omega))).trans (a1 _ (Or.inl (by omega)))
      obtain ⟨c1, c2⟩ := jt_cl hk.1 hk.2 hc ⟨b1, b2⟩
      have e0 := hc 0 (by omega)
      rw [Nat.add_zero] at e0
      refine ⟨c1, c2, h2, ?_, fun m m0 m6 q => ?_, ?_⟩
      · rw [hc 1 (by omega), b3]
        exact hag
      · have hm : m = 0 := by
          by_cases y : m = 0
          · exact y
          · rw [← hag m m0 m6] at q
            exact absurd (show qroot m = -2 by unfold qroot; rw [if_neg y, if_pos ⟨m0, m6⟩]) q
        rw [hm, hc 2 (by omega), b4, f1 132 (by decide) (by decide) (by decide), q1_2]
        show (1 : Int) = if 6 * k + 0 = 6 * k then 1 else _
        rw [if_pos (by omega)]
      · rw [e0, b5, ← rt_many_ag hag, qroot_many]
    · refine jt_c e0 (by omega) (fun i hi => ho _ (Or.inl (by have := t e; omega))) (fun m m0 m6 => ?_) ?_ (a2 e e0 (by omega))
      · rw [f1 130 (by decide) (by decide) (by decide), f1 131 (by decide) (by decide) (by decide), f1 132 (by decide) (by decide) (by decide), q1_0, q1_1, q1_2, f2 _ (Or.inl (by omega)), q1_o ⟨by decide, by decide, by decide⟩]
        exact ⟨if_neg (by omega), if_neg (by omega), if_neg (by omega), rfl⟩
      · rw [f3 e z, q1_o ⟨by decide, by decide, by decide⟩]
  · rw [f1 130 (by decide) (by decide) (by decide), f1 131 (by decide) (by decide) (by decide), q1_0, q1_1]
    show (if j = 6 * k then (1 : Int) else N 130 j) = 0 ∧ (if j = 6 * k then (-1 : Int) else N 131 j) = 0
    rw [if_neg (by omega), if_neg (by omega)]
    exact a3 j (by omega) j1
  · rw [f1 132 (by decide) (by decide) (by decide), q1_2]
    show 0 ≤ (if j = 6 * k then (1 : Int) else N 132 j) ∧ (if j = 6 * k then (1 : Int) else N 132 j) ≤ 4
    split
    · decide
    · exact a4 j j0 j1
theorem q_gf {a : Nat} (hq : mm_P w) (j : Nat) (h : mm_fk 11 j = 2) (ha : mm_rf 129 j = a) : am_gf (mm_hp w μ X n) 129 11 j = some (.ref a) := mm_gf (by decide) (hq _ (by decide) (by decide)) rfl (by
  unfold mm_ob
  rw [h, if_neg (by decide), if_neg (by decide), ha])
/-- one round of the loop -/
theorem q_rd (hq : mm_P w) (hB : qB B) (hk : 0 ≤ k ∧ k < 3) (h : qV B N k) (H : ∀ μ', qV B μ' (k + 1) → am_E 298 156 Q (412, [some (.ref 129), some (.int (Int32.ofInt (k + 1)))], [], mm_hp w μ' X n)) : am_E 298 156 Q (412, [some (.ref 129), some (.int (Int32.ofInt k))], [], mm_hp w N X n) := by
  have w6 : mm_w (6 * k) = 6 * k := mm_wv (by omega) (by omega)
  have go : am_C 298 179 [.ref 129, .int (Int32.ofInt k)] (mm_hp w (q1 N k) X n) (am_bk 156 449 [some (.ref 129), some (.int (Int32.ofInt k))] [] (am_E 298 156 Q) Q) := by
    refine c_179 (d := 295) hq hk (fo_wf_ag (q1_ag hk h) qroot_wf) (q1_r hk h) fun μ' b1 b2 b3 _ => ?_
    rw [bk_n, x_156_452 rfl (by simp), s1_1 (by rfl), show ((1 : Int32)) = Int32.ofInt (1) from by decide, mm_ad, x_156_455]
    exact H μ' (q_st hB hk h b1 b2 b3)
  rw [x_156_412, lc_I_1, x_156_413, show ((3 : Int32)) = Int32.ofInt (3) from by decide, x_156_414, am_cmp_ge, am_E_ite, if_neg (by rw [mm_lex, mm_wv (by omega) (by omega), mm_wv (by omega) (by omega)]; omega), x_156_417, lc_A_0, x_156_418, q_gf hq 1 rfl rfl, am_kv_some, x_156_421, show ((6 : Int32)) = Int32.ofInt (6) from by decide, x_156_423, lc_I_1, x_156_424, mm_ml, x_156_425, show ((1 : Int32)) = Int32.ofInt (1) from by decide, x_156_426, mm_bas (by decide) (hq _ (by decide) (by decide)) rfl, w6, if_pos ⟨by omega, by omega⟩, mm_b11, am_kg_some]
  rw [x_156_427, lc_A_0, x_156_428, q_gf hq 2 rfl rfl, am_kv_some, x_156_431, show ((6 : Int32)) = Int32.ofInt (6) from by decide, x_156_433, lc_I_1, x_156_434, mm_ml, x_156_435, show ((-1 : Int32)) = Int32.ofInt (-1) from by decide, x_156_436, mm_ias (by decide) (hq _ (by decide) (by decide)) rfl, w6, if_pos ⟨by omega, by omega⟩, am_kg_some]
  rw [x_156_437, lc_A_0, x_156_438, q_gf hq 3 rfl rfl, am_kv_some, x_156_441, show ((6 : Int32)) = Int32.ofInt (6) from by decide, x_156_443, lc_I_1, x_156_444, mm_ml, x_156_445, show ((1 : Int32)) = Int32.ofInt (1) from by decide, x_156_446, mm_ias (by decide) (hq _ (by decide) (by decide)) rfl, w6, if_pos ⟨by omega, by omega⟩, am_kg_some]
  rw [x_156_447, lc_A_0, x_156_448, lc_I_1, z_156_449 (by simp) (mm_oc (by decide) (hq _ (by decide) (by decide)) rfl)]
  exact go
theorem q_lp (hq : mm_P w) (hB : qB B) (h : qV B B 0) (H : ∀ μ', qV B μ' 3 → Q (.inl none) (mm_hp w μ' X n)) : am_E 298 156 Q (412, [some (.ref 129), some (.int (Int32.ofInt 0))], [], mm_hp w B X n) := by
  refine q_rd hq hB (by decide) h fun N1 h1 => q_rd hq hB (by decide) h1 fun N2 h2 => q_rd hq hB (by decide) h2 fun N3 h3 => ?_
  rw [x_156_412, lc_I_1, x_156_413, show ((3 : Int32)) = Int32.ofInt (3) from by decide, x_156_414, am_cmp_ge, am_E_ite, if_pos (by decide), x_156_458]
  exact H N3 h3
/-! the start -/
theorem qM_B : qB qM := by
  have g0 := q_gr (zt := 0) (by decide) qR0
  have g1 := q_gr (zt := 1) (by decide) qR1
  have g2 := q_gr (zt := 2) (by decide) qR2
  have u6 : ∀ b, b ≠ 97 → qM b = qM6 b := fun b hb => q_fio hb
  have u4 : ∀ b, b < 47 → qM6 b = qM4 b := fun b hb => (g2.1 b (by rw [show mm_tr 2 = 47 from rfl]; omega)).trans (q_fio (by omega))
  have u2 : ∀ b, b < 41 → qM4 b = qM2 b := fun b hb => (g1.1 b (by rw [show mm_tr 1 = 41 from rfl]; omega)).trans (q_fio (by omega))
  have fi : ∀ (M : mm_M) (a b : Nat) (j : Int), b ≠ a → mm_fi M a 6 (-2) b j = M b j := fun M a b j hb => congrFun (q_fio hb) j
  intro e e0 e1
  rcases (by omega : e = 0 ∨ e = 1 ∨ e = 2) with rfl | rfl | rfl
  · obtain ⟨-, b1, b2, b3, b4, b5⟩ := g0
    have hc : ∀ i, i ≤ 5 → qM (mm_tr 0 + i) = qM2 (mm_tr 0 + i) := fun i hi => by
      rw [show mm_tr 0 = 35 from rfl]
      exact (u6 _ (by omega)).trans ((u4 _ (by omega)).trans (u2 _ (by omega)))
    have z6 : qM1 (mm_tr 0) 6 = 0 := (fi qM0 36 35 6 (by decide)).trans (by rfl)
    obtain ⟨c1, c2⟩ := jt_cl (μ' := qM) (x := 0) (by decide) (by decide) hc ⟨b1, b5 (fun j _ _ => ⟨(fi qM0 36 37 j (by decide)).trans rfl, (fi qM0 36 38 j (by decide)).trans rfl, (fi qM0 36 40 j (by decide)).trans rfl⟩) z6⟩
    refine ⟨c1, c2, (hc 1 (by decide)).trans b2, (congrFun ((hc 2 (by decide)).trans b3) 0).trans (if_pos rfl), (congrFun (hc 0 (by decide)) 6).trans (b4.trans ?_)⟩
    rw [z6]
    rfl
  · obtain ⟨-, b1, b2, b3, b4, b5⟩ := g1
    have hc : ∀ i, i ≤ 5 → qM (mm_tr 1 + i) = qM4 (mm_tr 1 + i) := fun i hi => by
      rw [show mm_tr 1 = 41 from rfl]
      exact (u6 _ (by omega)).trans (u4 _ (by omega))
    have s : ∀ b, b < 35 ∨ 40 < b → ∀ j, qM2 b j = qI b j := fun b hb j => congrFun (qE2 hb) j
    have z6 : qM3 (mm_tr 1) 6 = 0 := (fi qM2 42 41 6 (by decide)).trans ((s 41 (by decide) 6).trans rfl)
    obtain ⟨c1, c2⟩ := jt_cl (μ' := qM) (x := 1) (by decide) (by decide) hc ⟨b1, b5 (fun j _ _ => ⟨(fi qM2 42 43 j (by decide)).trans ((s 43 (by decide) j).trans rfl), (fi qM2 42 44 j (by decide)).trans ((s 44 (by decide) j).trans rfl), (fi qM2 42 46 j (by decide)).trans ((s 46 (by decide) j).trans rfl)⟩) z6⟩
    refine ⟨c1, c2, (hc 1 (by decide)).trans b2, (congrFun ((hc 2 (by decide)).trans b3) 0).trans (if_pos rfl), (congrFun (hc 0 (by decide)) 6).trans (b4.trans ?_)⟩
    rw [z6]
    rfl
  · obtain ⟨-, b1, b2, b3, b4, b5⟩ := g2
    have hc : ∀ i, i ≤ 5 → qM (mm_tr 2 + i) = qM6 (mm_tr 2 + i) := fun i hi => by
      rw [show mm_tr 2 = 47 from rfl]
      exact u6 _ (by omega)
    have s : ∀ b, b < 35 ∨ 46 < b → ∀ j, qM4 b j = qI b j := fun b hb j => congrFun (qE4 hb) j
    have z6 : qM5 (mm_tr 2) 6 = 0 := (fi qM4 48 47 6 (by decide)).trans ((s 47 (by decide) 6).trans rfl)
    obtain ⟨c1, c2⟩ := jt_cl (μ' := qM) (x := 2) (by decide) (by decide) hc ⟨b1, b5 (fun j _ _ => ⟨(fi qM4 48 49 j (by decide)).trans ((s 49 (by decide) j).trans rfl), (fi qM4 48 50 j (by decide)).trans ((s 50 (by decide) j).trans rfl), (fi qM4 48 52 j (by decide)).trans ((s 52 (by decide) j).trans rfl)⟩) z6⟩
    refine ⟨c1, c2, (hc 1 (by decide)).trans b2, (congrFun ((hc 2 (by decide)).trans b3) 0).trans (if_pos rfl), (congrFun (hc 0 (by decide)) 6).trans (b4.trans ?_)⟩
    rw [z6]
    rfl
theorem qM_V : qV qM qM 0 := by
  have z : ∀ b, (b < 35 ∨ 52 < b) ∧ b ≠ 97 → ∀ j, qM b j = qI b j := fun b hb j => congrFun (qMe hb) j
  refine ⟨fun _ _ => rfl, fun e e0 e1 => by omega, fun j _ _ => ⟨(z 130 (by decide) j).trans rfl, (z 131 (by decide) j).trans rfl⟩, fun j _ _ => ?_⟩
  rw [z 132 (by decide) j]
  exact ⟨Int.le_refl 0, (show (0 : Int) ≤ 4 by decide)⟩
/-- the relation at the start -/
theorem q_J (h : qV qM N 3) : J N := by
  obtain ⟨a1, a2, a3, a4⟩ := h
  have z : ∀ b, b < 130 ∨ 135 < b → (b < 35 ∨ 52 < b) → b ≠ 97 → ∀ j, N b j = qI b j := fun b h1 h2 h3 j => by rw [a1 b h1, qMe ⟨h2, h3⟩]
  have zr : ∀ (v : Int) (i : Nat), i ≤ 4 → ∀ j, N (mm_rl v + i) j = qI (mm_rl v + i) j := fun v i hi j => z _ (by have := mm_rl_r v; omega) (by have := mm_rl_r v; omega) (by have := mm_rl_r v; omega) j
  have zr0 : ∀ (v : Int) (i : Nat), i ≤ 4 → ∀ j, N (mm_rl v + i) j = 0 := fun v i hi j => by
    rw [zr v i hi j]
    have := mm_rl_r v
    unfold qI
    rw [if_neg (by omega), if_neg (by omega), if_neg (by omega), if_neg (by omega), if_neg (by omega)]
  have z0 : ∀ b, b < 130 ∨ 135 < b → (b < 35 ∨ 52 < b) → b ≠ 97 → b ≠ 54 → b ≠ 95 → b ≠ 122 → b ≠ 129 → ∀ j, N b j = 0 := fun b h1 h2 h3 h4 h5 h6 h7 j => by
    rw [z b h1 h2 h3 j]
    unfold qI
    rw [if_neg h4, if_neg (fun q => h5 q.1), if_neg (fun q => h6 q.1), if_neg (fun q => h7 q.1), if_neg (fun q => h7 q.1)]
  have z9 : ∀ j, j ≠ 8 → j ≠ 65 → N 129 j = 0 := fun j h1 h2 => by
    rw [z 129 (by decide) (by decide) (by decide) j]
    unfold qI
    rw [if_neg (by decide), if_neg (fun q => absurd q.1 (by decide)), if_neg (fun q => absurd q.1 (by decide)), if_neg (fun q => h1 q.2), if_neg (fun q => h2 q.2)]
  have z95 : N 95 1 = 1 := (z 95 (by decide) (by decide) (by decide) 1).trans rfl
  have z122 : N 122 8 = 300 := (z 122 (by decide) (by decide) (by decide) 8).trans rfl
  have z1229 : N 122 9 = 0 := (z 122 (by decide) (by decide) (by decide) 9).trans rfl
  have z54 : ∀ j, N 54 j = j := fun j => (z 54 (by decide) (by decide) (by decide) j).trans rfl
  have z97 : ∀ j, 0 ≤ j → j < 216 → N 97 j = -2147483648 := fun j j0 j1 => by
    rw [a1 97 (by decide), qM97]
    exact if_pos ⟨j0, j1⟩
  have zg : ∀ l j : Int, 0 ≤ l → l < 3 → 0 ≤ j → j < 216 → -2147483648 ≤ N (mm_inr l) j ∧ N (mm_inr l) j ≤ 2147483647 := fun l j l0 l1 j0 j1 => by
    rcases (by omega : l = 0 ∨ l = 1 ∨ l = 2) with rfl | rfl | rfl
    · rw [show mm_inr 0 = 97 from rfl, z97 j j0 j1]
      decide
    · rw [show mm_inr 1 = 98 from rfl, z0 98 (by decide) (by decide) (by decide) (by decide) (by decide) (by decide) (by decide) j]
      decide
    · rw [show mm_inr 2 = 99 from rfl, z0 99 (by decide) (by decide) (by decide) (by decide) (by decide) (by decide) (by decide) j]
      decide
  refine ⟨fun e e0 e1 => a2 e e0 e1, ⟨⟨?_, fun j j0 j1 => ?_⟩, ⟨?_, fun j j0 j1 => ?_, fun v e v0 v1 e0 e1 => ?_⟩, ?_, fun r e r0 r1 => ?_⟩, ⟨⟨?_, zg⟩, fun j j0 j1 => ?_, fun l c l0 l1 c0 c1 => ?_, fun j j0 j1 => ?_⟩, fun r r0 r1 => ?_, fun i j i0 i1 j0 j1 h => ?_, fun e e0 e1 => ?_, ⟨?_, fun e e0 e1 => ?_⟩, ⟨?_, ?_, fun i i0 i1 => ?_⟩, ⟨?_, ?_, ?_, ?_, ?_⟩, fun v v0 v1 => ⟨?_, fun j j0 j1 => ?_⟩, a4, J_h_0 ?_ ?_ ?_ ?_ ?_ ?_ ?_ ?_ ?_⟩
  · rw [z9 11 (by decide) (by decide)]; decide
  · rw [z0 139 (by decide) (by decide) (by decide) (by decide) (by decide) (by decide) (by decide) j, z0 140 (by decide) (by decide) (by decide) (by decide) (by decide) (by decide) (by decide) j]; decide
  · rw [z0 53 (by decide) (by decide) (by decide) (by decide) (by decide) (by decide) (by decide) 1]; decide
  · rw [z54]; exact ⟨j0, j1⟩
  · rw [zr0 v 1 (by decide), zr0 v 2 (by decide)]; decide
  · rw [z0 53 (by decide) (by decide) (by decide) (by decide) (by decide) (by decide) (by decide) 1, z9 11 (by decide) (by decide)]
  · rw [z9 11 (by decide) (by decide)] at r1; omega
  · rw [z95]; decide
  · rw [z0 137 (by decide) (by decide) (by decide) (by decide) (by decide) (by decide) (by decide) j, z0 138 (by decide) (by decide) (by decide) (by decide) (by decide) (by decide) (by decide) j]; decide
  · rw [z95] at l1
    obtain rfl : l = 0 := by omega
    have hcc : 0 ≤ cc c ∧ cc c < 216 := by unfold cc; omega
    rw [show mm_inr 0 = 97 from rfl, z97 _ hcc.1 hcc.2, z0 137 (by decide) (by decide) (by decide) (by decide) (by decide) (by decide) (by decide), if_pos rfl]
  · exact z0 137 (by decide) (by decide) (by decide) (by decide) (by decide) (by decide) (by decide) j
  · rw [z9 11 (by decide) (by decide)] at r1; omega
  · rw [z54, z54] at h; exact h
  · rw [z0 128 (by decide) (by decide) (by decide) (by decide) (by decide) (by decide) (by decide) e, z0 136 (by decide) (by decide) (by decide) (by decide) (by decide) (by decide) (by decide) e]; decide
  · rw [z0 102 (by decide) (by decide) (by decide) (by decide) (by decide) (by decide) (by decide) 4]; decide
  · rw [z0 103 (by decide) (by decide) (by decide) (by decide) (by decide) (by decide) (by decide) e, z0 104 (by decide) (by decide) (by decide) (by decide) (by decide) (by decide) (by decide) e, z0 148 (by decide) (by decide) (by decide) (by decide) (by decide) (by decide) (by decide) e, z0 149 (by decide) (by decide) (by decide) (by decide) (by decide) (by decide) (by decide) e]
    exact ⟨by decide, by decide, rfl, by decide, fun q => absurd rfl q⟩
  · rw [z9 23 (by decide) (by decide), z0 100 (by decide) (by decide) (by decide) (by decide) (by decide) (by decide) (by decide) 1]
  · rw [z0 100 (by decide) (by decide) (by decide) (by decide) (by decide) (by decide) (by decide) 1]; decide
  · rw [z0 100 (by decide) (by decide) (by decide) (by decide) (by decide) (by decide) (by decide) 1] at i1; omega
  · rw [z95]; exact (z 129 (by decide) (by decide) (by decide) 8).trans rfl
  · rw [z122]; exact (z 129 (by decide) (by decide) (by decide) 65).trans rfl
  · rw [z122]; decide
  · rw [z1229]; exact z9 64 (by decide) (by decide)
  · rw [z9 46 (by decide) (by decide)]; decide
  · have := zr0 v 0 (by decide) 4
    rw [Nat.add_zero] at this
    rw [this]; decide
  · have := zr0 v 0 (by decide) 4
    rw [Nat.add_zero] at this
    rw [this] at j1; omega
  · rw [z0 107 (by decide) (by decide) (by decide) (by decide) (by decide) (by decide) (by decide) 3]; decide
  · exact z0 107 (by decide) (by decide) (by decide) (by decide) (by decide) (by decide) (by decide) 4
  · exact z0 107 (by decide) (by decide) (by decide) (by decide) (by decide) (by decide) (by decide) 5
  · intro s s0 s1
    rw [z0 121 (by decide) (by decide) (by decide) (by decide) (by decide) (by decide) (by decide) s]; decide
  · exact z9 37 (by decide) (by decide)
  · exact z9 38 (by decide) (by decide)
  · intro e e0 e1
    rw [z0 157 (by decide) (by decide) (by decide) (by decide) (by decide) (by decide) (by decide) e, z0 158 (by decide) (by decide) (by decide) (by decide) (by decide) (by decide) (by decide) e]; decide
  · intro k k0 k1
    rw [z0 159 (by decide) (by decide) (by decide) (by decide) (by decide) (by decide) (by decide) k, z0 160 (by decide) (by decide) (by decide) (by decide) (by decide) (by decide) (by decide) k, z0 162 (by decide) (by decide) (by decide) (by decide) (by decide) (by decide) (by decide) k]; decide
  · intro k k0 k1
    rw [z0 161 (by decide) (by decide) (by decide) (by decide) (by decide) (by decide) (by decide) k, z0 163 (by decide) (by decide) (by decide) (by decide) (by decide) (by decide) (by decide) k]; decide
end QJ
