/-! The class's trees and rules beside the reference's. -/
/-- a cell of the reference, as the class numbers it -/
def cc (c : Int) : Int := 36 * (c % 6) + 6 * (c / 6 % 6) + c / 36
def fo_ag (p p' : Int → Int) : Prop := ∀ m, 0 ≤ m → m < 6 → p m = p' m
/-- the trees of both sides -/
def J_t (μ : mm_M) : Prop := ∀ e, 0 ≤ e → e < 3 → tr_ok μ e ∧ mm_tw μ e ∧ rt_ok μ e ∧ fo_ag (μ (mm_tr e + 1)) (rp μ e) ∧ (∀ m, 0 ≤ m → m < 6 → rp μ e m ≠ -2 → μ (mm_tr e + 2) m = μ 132 (6 * e + m)) ∧ μ (mm_tr e) 6 = rt_many (rp μ e)
/-- the patterns of the rules of both sides -/
def J_p (μ : mm_M) : Prop := rr_r μ ∧ cr_r μ ∧ μ 53 1 = μ 129 11 ∧ ∀ r e, 0 ≤ r → r < μ 129 11 → 0 ≤ e → e < 3 → μ (mm_rl (μ 54 r) + 1) e = μ 139 (3 * r + e) ∧ (μ 139 (3 * r + e) ≠ 0 → μ (mm_rl (μ 54 r) + 2) e = μ 140 (3 * r + e) ∧ rp μ e (μ 140 (3 * r + e)) ≠ -2)
section RE
variable {μ : mm_M} {p p' : Int → Int} {e m c r t : Int}
theorem rp_q' (h : rp μ e m ≠ -2) : rq μ e m = rp μ e m := by
  unfold rp at h ⊢
  split at h
  · rename_i e1; rw [if_pos e1]; rfl
  · exact absurd rfl h
theorem cc_b (h0 : 0 ≤ c) (h1 : c < 216) : 0 ≤ cc c ∧ cc c < 216 := by unfold cc; omega
theorem cc_d (h0 : 0 ≤ c) (h1 : c < 216) : ∃ x y z : Int, (0 ≤ x ∧ x < 6) ∧ (0 ≤ y ∧ y < 6) ∧ (0 ≤ z ∧ z < 6) ∧ c % 6 = x ∧ c / 6 % 6 = y ∧ c / 36 = z ∧ c = x + 6 * y + 36 * z ∧ cc c = 36 * x + 6 * y + z := by
  refine ⟨c % 6, c / 6 % 6, c / 36, ?_, ?_, ?_, rfl, rfl, rfl, ?_, rfl⟩ <;> omega
theorem cc_p (h0 : 0 ≤ c) (h1 : c < 216) : cpart (cc c) e = rpart c e := by
  obtain ⟨x, y, z, hx, hy, hz, ex, ey, ez, ec, e1⟩ := cc_d h0 h1
  have f1 : (36 * x + 6 * y + z) % 6 = z := by omega
  have f2 : (36 * x + 6 * y + z) / 6 % 6 = y := by omega
  have f3 : (36 * x + 6 * y + z) / 36 = x := by omega
  unfold cpart rpart
  rw [e1, ex, ey, ez, f1, f2, f3]
theorem cc_cc (h0 : 0 ≤ c) (h1 : c < 216) : cc (cc c) = c := by
  obtain ⟨x, y, z, hx, hy, hz, ex, ey, ez, ec, e1⟩ := cc_d h0 h1
  have f1 : (36 * x + 6 * y + z) % 6 = z := by omega
  have f2 : (36 * x + 6 * y + z) / 6 % 6 = y := by omega
  have f3 : (36 * x + 6 * y + z) / 36 = x := by omega
  rw [e1]
  unfold cc
  rw [f1, f2, f3]
  omega
theorem rmv_b (h0 : 0 ≤ c) (h1 : c < 216) (he : 0 ≤ e ∧ e < 3) (hm : 0 ≤ m ∧ m < 6) : 0 ≤ c + (m - rpart c e) * rscale e ∧ c + (m - rpart c e) * rscale e < 216 := by
  rcases (by omega : e = 0 ∨ e = 1 ∨ e = 2) with rfl | rfl | rfl
  · show 0 ≤ c + (m - c % 6) * 1 ∧ c + (m - c % 6) * 1 < 216
    omega
  · show 0 ≤ c + (m - c / 6 % 6) * 6 ∧ c + (m - c / 6 % 6) * 6 < 216
    omega
  · show 0 ≤ c + (m - c / 36) * 36 ∧ c + (m - c / 36) * 36 < 216
    omega
theorem rmv_cc (h0 : 0 ≤ c) (h1 : c < 216) (he : 0 ≤ e ∧ e < 3) (hm : 0 ≤ m ∧ m < 6) : cc (c + (m - rpart c e) * rscale e) = cc c + (m - cpart (cc c) e) * mm_span e := by
  rw [cc_p h0 h1]
  rcases (by omega : e = 0 ∨ e = 1 ∨ e = 2) with rfl | rfl | rfl
  · show cc (c + (m - c % 6) * 1) = cc c + (m - c % 6) * 36
    unfold cc; omega
  · show cc (c + (m - c / 6 % 6) * 6) = cc c + (m - c / 6 % 6) * 6
    unfold cc; omega
  · show cc (c + (m - c / 36) * 36) = cc c + (m - c / 36) * 1
    unfold cc; omega
theorem rmv_p (h0 : 0 ≤ c) (h1 : c < 216) (he : 0 ≤ e ∧ e < 3) (hm : 0 ≤ m ∧ m < 6) {e' : Int} (he' : 0 ≤ e' ∧ e' < 3) : rpart (c + (m - rpart c e) * rscale e) e' = if e' = e then m else rpart c e' := by
  rcases (by omega : e = 0 ∨ e = 1 ∨ e = 2) with rfl | rfl | rfl <;> rcases (by omega : e' = 0 ∨ e' = 1 ∨ e' = 2) with rfl | rfl | rfl
  · show (c + (m - c % 6) * 1) % 6 = m; omega
  · show (c + (m - c % 6) * 1) / 6 % 6 = c / 6 % 6; omega
  · show (c + (m - c % 6) * 1) / 36 = c / 36; omega
  · show (c + (m - c / 6 % 6) * 6) % 6 = c % 6; omega
  · show (c + (m - c / 6 % 6) * 6) / 6 % 6 = m; omega
  · show (c + (m - c / 6 % 6) * 6) / 36 = c / 36; omega
  · show (c + (m - c / 36) * 36) % 6 = c % 6; omega
  · show (c + (m - c / 36) * 36) / 6 % 6 = c / 6 % 6; omega
  · show (c + (m - c / 36) * 36) / 36 = m; omega
theorem ag_ch (h : fo_ag p p') : fo_ch p m = fo_ch p' m := by
  unfold fo_ch
  refine List.filter_congr fun c hc => ?_
  have := fo_mem_rg.mp hc
  rw [h c this.1 this.2]
theorem ag_fc (h : fo_ag p p') : sp_fc p m = sp_fc p' m := by
  rw [← fo_ch0, ← fo_ch0, ag_ch h]
theorem ag_pr (h : fo_ag p p') : ∀ (f : Nat) (t : Int), fo_pr p f t = fo_pr p' f t := by
  intro f
  induction f with
  | zero => intro t; rfl
  | succ f ih =>
    intro t
    unfold fo_pr
    rw [ag_ch h]
    congr 1
    funext c
    rw [ih c]
theorem ag_L (h : fo_ag p p') : fo_L p = fo_L p' := by
  unfold fo_L
  rw [ag_pr h]
  congr 1
  funext m
  rw [ag_fc h]
theorem ag_dp (h : fo_ag p p') (hb : ∀ m, 0 ≤ m → m < 6 → p m ≤ 5) : ∀ (k : Nat) (m : Int), 0 ≤ m → m < 6 → fo_dp p k m = fo_dp p' k m := by
  intro k
  induction k with
  | zero => intro m _ _; rfl
  | succ k ih =>
    intro m h0 h6
    have := hb m h0 h6
    unfold fo_dp
    rw [← h m h0 h6]
    split
    · rfl
    · rw [ih (p m) (by omega) (by omega)]
theorem ag_in (h : fo_ag p p') (hb : ∀ m, 0 ≤ m → m < 6 → p m ≤ 5) : ∀ (k : Nat) (m : Int), m < 6 → sp_in p t k m = sp_in p' t k m := by
  intro k
  induction k with
  | zero => intro m _; rfl
  | succ k ih =>
    intro m h6
    unfold sp_in
    by_cases a : m < 0
    · rw [if_pos a, if_pos a]
    · have := hb m (by omega) h6
      rw [if_neg a, if_neg a, ← h m (by omega) h6, ih (p m) (by omega)]
/-- the reference's raw parents, where a member is there -/
theorem q_dp (hw : fo_wf (rp μ e)) : ∀ (k : Nat) (m : Int), 0 ≤ m → m < 6 → rp μ e m ≠ -2 → fo_dp (rq μ e) k m = fo_dp (rp μ e) k m := by
  intro k
  induction k with
  | zero => intro m _ _ _; rfl
  | succ k ih =>
    intro m h0 h6 h
    have hm := hw m h0 h6
    have hq := rp_q' h
    unfold fo_dp
    rw [hq]
    split
    · rfl
    · rw [ih (rp μ e m) (by omega) (by omega) (hm.2.1 (by omega))]
theorem q_in (hw : fo_wf (rp μ e)) (ht : 0 ≤ t) : ∀ (k : Nat) (m : Int), m < 6 → (0 ≤ m → rp μ e m ≠ -2) → fo_rc (rp μ e) k m = true → (rt_u (rq μ e) t k m = t ↔ sp_in (rp μ e) t k m = true) := by
  intro k
  induction k with
  | zero =>
    intro m h6 h hr
    have hr : m < 0 := of_decide_eq_true hr
    show m = t ↔ false = true
    refine ⟨fun q => by omega, fun q => absurd q (by decide)⟩
  | succ k ih =>
    intro m h6 h hr
    unfold rt_u sp_in
    by_cases a : m < 0
    · rw [if_pos a, if_pos a]
      refine ⟨fun q => by omega, fun q => absurd q (by decide)⟩
    · rw [if_neg a, if_neg a]
      by_cases b : m = t
      · rw [if_pos b, if_pos b]
        exact ⟨fun _ => rfl, fun _ => b⟩
      · have hm := hw m (by omega) h6
        rw [if_neg b, if_neg b, rp_q' (h (by omega))]
        unfold fo_rc at hr
        rw [if_neg a] at hr
        exact ih (rp μ e m) (by omega) (fun q => hm.2.1 q) hr
theorem J_wfc (h : J_t μ) (he : 0 ≤ e ∧ e < 3) : fo_wf (rp μ e) := (h e he.1 he.2).2.2.1.1
theorem J_le (h : J_t μ) (he : 0 ≤ e ∧ e < 3) : ∀ m, 0 ≤ m → m < 6 → μ (mm_tr e + 1) m ≤ 5 := fun m h0 h6 => (((h e he.1 he.2).2.1).1 m h0 h6).1.2
/-- a member that is there is a leaf on both sides or on none -/
theorem J_leaf (h : J_t μ) (he : 0 ≤ e ∧ e < 3) (h0 : 0 ≤ m) (h6 : m < 6) (hm : rp μ e m ≠ -2) : μ (mm_tr e + 4) m = -1 ↔ ¬ sp_fc (rp μ e) m = -1 := by
  obtain ⟨⟨g1, g2, g3, g4, g5⟩, -, -, ha, -⟩ := h e he.1 he.2
  have hL := fo_Lin (J_wfc h he)
  rw [g4 m h0 h6, ag_L ha]
  by_cases a : m ∈ fo_L (rp μ e)
  · rw [if_pos a]
    have := ((hL.2.1 m).mp a).2
    refine ⟨fun q => by omega, fun q => absurd this q⟩
  · rw [if_neg a]
    refine ⟨fun _ q => a ((hL.2.1 m).mpr ⟨⟨h0, h6, hm⟩, q⟩), fun _ => rfl⟩
theorem J_in (h : J_t μ) (he : 0 ≤ e ∧ e < 3) (h0 : 0 ≤ m) (h6 : m < 6) (hm : rp μ e m ≠ -2) (ht : 0 ≤ t) : rt_u (rq μ e) t 6 m = t ↔ sp_in (μ (mm_tr e + 1)) t 6 m = true := by
  have hw := J_wfc h he
  rw [ag_in (h e he.1 he.2).2.2.2.1 (J_le h he) 6 m h6]
  exact q_in hw ht 6 m h6 (fun _ => hm) ((hw m h0 h6).2.2 hm)
theorem J_dep (h : J_t μ) (he : 0 ≤ e ∧ e < 3) (h0 : 0 ≤ m) (h6 : m < 6) (hm : rp μ e m ≠ -2) : μ (mm_tr e + 3) m = fo_dp (rq μ e) 6 m := by
  obtain ⟨⟨g1, g2, g3, g4, g5⟩, -, -, ha, -⟩ := h e he.1 he.2
  rw [g5 m h0 h6 (by rw [ha m h0 h6]; exact hm), ag_dp ha (J_le h he) 6 m h0 h6, q_dp (J_wfc h he) 6 m h0 h6 hm]
/-- all members of a cell are there -/
def rcell (μ : mm_M) (c : Int) : Prop := (0 ≤ c ∧ c < 216) ∧ ∀ e, 0 ≤ e → e < 3 → rp μ e (rpart c e) ≠ -2
theorem J_fit (h : J_t μ) (hp : J_p μ) (h0 : 0 ≤ r) (h1 : r < μ 129 11) (he : 0 ≤ e ∧ e < 3) (hm : 0 ≤ m ∧ m < 6 ∧ rp μ e m ≠ -2) : cfit μ (μ 54 r) e m = rfit μ r e m := by
  obtain ⟨hr, hc, hs, hk⟩ := hp
  have hk := hk r e h0 h1 he.1 he.2
  have hrr := hr.2 (3 * r + e) (by have := hr.1; omega) (by have := hr.1; omega)
  unfold cfit rfit
  rw [hk.1]
  refine decide_eq_decide.mpr ?_
  by_cases k0 : μ 139 (3 * r + e) = 0
  · exact ⟨fun _ => Or.inl k0, fun _ => ⟨fun q => by omega, fun q => by omega⟩⟩
  · obtain ⟨k1, k2⟩ := hk.2 k0
    rw [k1]
    have hof := hrr.2.2 k0
    have hl := J_leaf h he hm.1 hm.2.1 hm.2.2
    have hi := J_in h he hm.1 hm.2.1 hm.2.2 (t := μ 140 (3 * r + e)) (by omega)
    by_cases k3 : μ 139 (3 * r + e) = 1
    · refine ⟨fun q => Or.inr (Or.inl ⟨k3, q.1 k3⟩), fun q => ⟨fun _ => ?_, fun q2 => by omega⟩⟩
      rcases q with q | q | q <;> omega
    · have k4 : μ 139 (3 * r + e) = 2 := by omega
      refine ⟨fun q => Or.inr (Or.inr ⟨k4, ?_, ?_⟩), fun q => ⟨fun q2 => by omega, fun _ => ?_⟩⟩
      · have := (q.2 k4).1
        exact Decidable.not_not.mp (fun q3 => this (hl.mpr q3))
      · exact hi.mpr (q.2 k4).2
      · rcases q with q | q | q
        · omega
        · omega
        · exact ⟨fun q2 => hl.mp q2 q.2.1, hi.mp q.2.2⟩
theorem J_fits (h : J_t μ) (hp : J_p μ) (h0 : 0 ≤ r) (h1 : r < μ 129 11) (hc : rcell μ c) : cfits μ (μ 54 r) (cc c) = rfits μ r c := by
  unfold cfits rfits
  rw [cc_p hc.1.1 hc.1.2, cc_p hc.1.1 hc.1.2, cc_p hc.1.1 hc.1.2]
  have b := fun e => rpart_b (e := e) hc.1.1 hc.1.2
  rw [J_fit h hp h0 h1 (by decide) ⟨(b 0).1, (b 0).2, hc.2 0 (by decide) (by decide)⟩, J_fit h hp h0 h1 (by decide) ⟨(b 1).1, (b 1).2, hc.2 1 (by decide) (by decide)⟩, J_fit h hp h0 h1 (by decide) ⟨(b 2).1, (b 2).2, hc.2 2 (by decide) (by decide)⟩]
theorem J_rank1 (h : J_t μ) (hp : J_p μ) (h0 : 0 ≤ r) (h1 : r < μ 129 11) (he : 0 ≤ e ∧ e < 3) : rspc1 μ r e = 100 * cpat μ (μ 54 r) e + cdep μ (μ 54 r) e ∧ (cpat μ (μ 54 r) e = 0 ∨ cpat μ (μ 54 r) e = 1) ∧ 0 ≤ cdep μ (μ 54 r) e ∧ cdep μ (μ 54 r) e ≤ 5 := by
  have hcb := cdep_b (v := μ 54 r) (fun e g0 g1 => (h e g0 g1).2.1) hp.2.1 (hp.2.1.2.1 r h0 (by have := hp.1.1; omega)) he
  obtain ⟨hr, hc, hs, hk⟩ := hp
  have hk := hk r e h0 h1 he.1 he.2
  have hrr := hr.2 (3 * r + e) (by have := hr.1; omega) (by have := hr.1; omega)
  refine ⟨?_, by omega, hcb.2.1, hcb.2.2⟩
  unfold rspc1 cpat cdep
  rw [hk.1]
  by_cases k0 : μ 139 (3 * r + e) = 0
  · rw [if_pos (by omega), if_pos k0, if_pos k0]; rfl
  · obtain ⟨k1, k2⟩ := hk.2 k0
    have hof := hrr.2.2 k0
    rw [if_neg (by omega), if_neg k0, if_neg k0, k1, J_dep h he (by omega) (by omega) k2]
    omega
theorem J_rank (h : J_t μ) (hp : J_p μ) {s : Int} (h0 : 0 ≤ r) (h1 : r < μ 129 11) (g0 : 0 ≤ s) (g1 : s < μ 129 11) : rspc μ s ≤ rspc μ r ↔ crank μ (μ 54 s) ≤ crank μ (μ 54 r) := by
  have a0 := J_rank1 h hp h0 h1 (e := 0) (by decide)
  have a1 := J_rank1 h hp h0 h1 (e := 1) (by decide)
  have a2 := J_rank1 h hp h0 h1 (e := 2) (by decide)
  have b0 := J_rank1 h hp g0 g1 (e := 0) (by decide)
  have b1 := J_rank1 h hp g0 g1 (e := 1) (by decide)
  have b2 := J_rank1 h hp g0 g1 (e := 2) (by decide)
  unfold rspc crank
  omega
/-- the same rule wins on both sides -/
theorem J_win (h : J_t μ) (hp : J_p μ) (hc : rcell μ c) : ∀ (k : Nat), (k : Int) ≤ μ 129 11 → (cbest μ (cc c) k).1 = rwin μ c k ∧ (cbest μ (cc c) k).2 = if rwin μ c k < 0 then 0 else crank μ (μ 54 (rwin μ c k)) := by
  intro k
  induction k with
  | zero => intro _; exact ⟨rfl, rfl⟩
  | succ k ih =>
    intro hk
    obtain ⟨i1, i2⟩ := ih (by omega)
    have hb := rwin_b (μ := μ) (c := c) k
    have hrk := crank_b (v := μ 54 k) (fun e g0 g1 => (h e g0 g1).2.1) hp.2.1 (hp.2.1.2.1 k (by omega) (by have := hp.1.1; omega))
    unfold cbest rwin
    rw [J_fits h hp (by omega) (by omega) hc, i2]
    by_cases f : rfits μ k c = true
    · by_cases g : rwin μ c k < 0
      · rw [if_pos ⟨f, by rw [if_pos g]; exact hrk.1⟩, if_pos ⟨f, Or.inl g⟩]
        exact ⟨rfl, (if_neg (by omega)).symm⟩
      · have hj := J_rank h hp (r := k) (s := rwin μ c k) (by omega) (by omega) (by omega) (by omega)
        by_cases v : rspc μ (rwin μ c k) ≤ rspc μ k
        · rw [if_pos ⟨f, by rw [if_neg g]; exact hj.mp v⟩, if_pos ⟨f, Or.inr v⟩]
          exact ⟨rfl, (if_neg (by omega)).symm⟩
        · rw [if_neg (fun q => by rw [if_neg g] at q; exact v (hj.mpr q.2)), if_neg (fun q => by rcases q.2 with q | q; exact g q; exact v q)]
          exact ⟨i1, i2⟩
    · rw [if_neg (fun q => f q.1), if_neg (fun q => f q.1)]
      exact ⟨i1, i2⟩
end RE
