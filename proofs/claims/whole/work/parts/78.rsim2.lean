/-! The reference's sums are those of the pure evaluation. -/
def rF (μ : mm_M) (n cT ρ a e c0 : Int) : Prop := μ 164 n = cT ∧ μ 165 n = ρ ∧ μ 166 n = a ∧ μ 167 n = e ∧ μ 168 n = c0
def rZ (μ : mm_M) (n i : Int) (s : ev_K) : Prop := μ 169 n = i ∧ μ 170 n = s.2 ∧ μ 171 n = sp_wt s.1 ∧ μ 172 n = i
def rPa (μ : mm_M) (n : Int) (P : List Int) : Prop := ∀ c', c' ∈ P ↔ ∃ i, 0 ≤ i ∧ i < n ∧ μ 164 i = c'
/-- steps are spent -/
def rsp (μ : mm_M) : Prop := μ 129 48 = 1 ∧ 0 ≤ μ 129 47 ∧ μ 129 47 ≤ 20
def rW (μ0 : mm_M) (Lp : mm_M → Prop) (G : Int → Prop) (f : Nat) : Prop := ∀ (n m t : Int) (P : List Int) (c : Int) (μ : mm_M), n + f = 20 → rS μ0 μ n m t → m + 9 * f ≤ 200 → rPa μ n P → G c →
  (∀ x t', ev (rNv μ0) f P c t = some (x, t') → (∀ μ', rS μ0 μ' n m t' → rK n m μ μ' → μ' 129 62 = x.1 → μ' 129 63 = sp_pl x.1 x.2 → Lp (rdel μ')) → Lp (rned μ c)) ∧ (ev (rNv μ0) f P c t = none → (∀ μ', mm_re μ' = mm_re μ0 → rsp μ' → Lp μ') → Lp (rned μ c))
section S2
variable {μ0 μ μ1 μ' : mm_M} {n m t : Int} {c e r : Int} {G : Int → Prop} {Lp : mm_M → Prop} {a : Nat} {k z : Int}
theorem rK_r : rK n m μ μ := ⟨fun _ _ => ⟨rfl, rfl, rfl, rfl, rfl, rfl, rfl, rfl, rfl⟩, fun _ _ => ⟨rfl, rfl⟩⟩
theorem rK_t (h1 : rK n m μ μ1) (h2 : rK n m μ1 μ') : rK n m μ μ' := by
  refine ⟨fun i hi => ?_, fun j hj => ?_⟩
  · have a := h1.1 i hi
    have b := h2.1 i hi
    rw [b.1, b.2.1, b.2.2.1, b.2.2.2.1, b.2.2.2.2.1, b.2.2.2.2.2.1, b.2.2.2.2.2.2.1, b.2.2.2.2.2.2.2.1, b.2.2.2.2.2.2.2.2]
    exact a
  · have a := h1.2 j hj
    have b := h2.2 j hj
    rw [b.1, b.2]
    exact a
theorem rK_le {n' m' : Int} (h : rK n m μ μ') (hn : n' ≤ n) (hm : m' ≤ m) : rK n' m' μ μ' := ⟨fun i hi => h.1 i (by omega), fun j hj => h.2 j (by omega)⟩
theorem mm_ub {b : Nat} {j : Int} (h : b = a → j ≠ k) : mm_u μ a k z b j = μ b j := if_neg fun q => h q.1 q.2
theorem rK_u (h : rK n m μ μ') (h1 : 164 ≤ a → a ≤ 172 → n ≤ k) (h2 : 173 ≤ a → a ≤ 174 → m ≤ k) : rK n m μ (mm_u μ' a k z) := by
  refine rK_t h ⟨fun i hi => ?_, fun j hj => ?_⟩
  · refine ⟨?_, ?_, ?_, ?_, ?_, ?_, ?_, ?_, ?_⟩ <;> exact mm_ub fun q => by have := h1 (by omega) (by omega); omega
  · refine ⟨?_, ?_⟩ <;> exact mm_ub fun q => by have := h2 (by omega) (by omega); omega
theorem rS_o (h : rS μ0 μ n m t) (ha : 164 ≤ a ∧ a ≤ 174) (hv : rfv (mm_u μ a k z)) (h2 : 173 ≤ a → a ≤ 174 → m ≤ k) : rS μ0 (mm_u μ a k z) n m t := by
  obtain ⟨g1, g2, g3, g4, g5, g6, g7, g8⟩ := h
  refine ⟨by rw [re_u (by omega)]; exact g1, by rw [mm_uu (by omega)]; exact g2, by rw [mm_uu (by omega)]; exact g3, by rw [mm_uu (by omega)]; exact g4, by rw [mm_uu (by omega)]; exact g5, hv, fun j j0 j1 => ?_, g8⟩
  rw [mm_ub (fun q => by have := h2 (by omega) (by omega); omega), mm_ub (fun q => by have := h2 (by omega) (by omega); omega)]
  exact g7 j j0 j1
theorem rfv_171 (hv : rfv μ) (hz : 0 ≤ z ∧ z ≤ 3) : rfv (mm_u μ 171 k z) := by
  refine ⟨by rw [mm_uu (by decide)]; exact hv.1, fun i i0 i1 => ?_, fun j j0 j1 => by rw [mm_uu (by decide)]; exact hv.2.2 j j0 j1⟩
  rw [mm_uu (by decide)] at i1
  have := hv.2.1 i i0 i1
  simp only [mm_uu (show (164 : Nat) ≠ 171 by decide), mm_uu (show (165 : Nat) ≠ 171 by decide), mm_uu (show (167 : Nat) ≠ 171 by decide), mm_uu (show (168 : Nat) ≠ 171 by decide), mm_uu (show (169 : Nat) ≠ 171 by decide), mm_uu (show (172 : Nat) ≠ 171 by decide), mm_ux]
  refine ⟨this.1, this.2.1, this.2.2.1, this.2.2.2.1, this.2.2.2.2.1, this.2.2.2.2.2.1, ?_, this.2.2.2.2.2.2.2⟩
  split
  · exact hz
  · exact this.2.2.2.2.2.2.1
theorem rfv_172 (hv : rfv μ) (hz : 0 ≤ z ∧ z ≤ 6) : rfv (mm_u μ 172 k z) := by
  refine ⟨by rw [mm_uu (by decide)]; exact hv.1, fun i i0 i1 => ?_, fun j j0 j1 => by rw [mm_uu (by decide)]; exact hv.2.2 j j0 j1⟩
  rw [mm_uu (by decide)] at i1
  have := hv.2.1 i i0 i1
  simp only [mm_uu (show (164 : Nat) ≠ 172 by decide), mm_uu (show (165 : Nat) ≠ 172 by decide), mm_uu (show (167 : Nat) ≠ 172 by decide), mm_uu (show (168 : Nat) ≠ 172 by decide), mm_uu (show (169 : Nat) ≠ 172 by decide), mm_uu (show (171 : Nat) ≠ 172 by decide), mm_ux]
  refine ⟨this.1, this.2.1, this.2.2.1, this.2.2.2.1, this.2.2.2.2.1, this.2.2.2.2.2.1, this.2.2.2.2.2.2.1, ?_⟩
  split
  · exact hz
  · exact this.2.2.2.2.2.2.2
theorem rS_u129 (h : rS μ0 μ n m t) (hk : k = 62 ∨ k = 63) : rS μ0 (mm_u μ 129 k z) n m t := by
  obtain ⟨g1, g2, g3, g4, g5, g6, g7, g8⟩ := h
  refine ⟨by rw [re_u (by omega)]; exact g1, by rw [mm_un (by omega)]; exact g2, by rw [mm_un (by omega)]; exact g3, by rw [mm_un (by omega)]; exact g4, by rw [mm_un (by omega)]; exact g5, rfv_f (by omega) g6, fun j j0 j1 => ?_, g8⟩
  rw [mm_uu (by decide), mm_uu (by decide)]
  exact g7 j j0 j1
theorem rS_res (h : rS μ0 μ n m t) {k v : Int} : rS μ0 (rres μ k v) n m t := rS_u129 (rS_u129 h (by decide)) (by decide)
theorem rPa_K {P : List Int} (h : rPa μ n P) (hk : rK n m μ μ') : rPa μ' n P := by
  intro c'
  rw [h c']
  constructor
  · rintro ⟨i, i0, i1, i2⟩
    exact ⟨i, i0, i1, by rw [(hk.1 i i1).1]; exact i2⟩
  · rintro ⟨i, i0, i1, i2⟩
    exact ⟨i, i0, i1, by rw [← (hk.1 i i1).1]; exact i2⟩
theorem kids_N (h : mm_re μ = mm_re μ0) {cT ρ a e c0 : Int} (hF : rF μ n cT ρ a e c0) : rkids μ n = nv_kid (rNv μ0) e (rpart c0 e) := by
  unfold rkids
  rw [hF.2.2.2.1, hF.2.2.2.2, re_rp2 h]
  rfl
theorem roll_N (h : mm_re μ = mm_re μ0) {cT ρ a e c0 : Int} (hF : rF μ n cT ρ a e c0) : rroll μ n = if ρ < 0 then nv_roll (rNv μ0) e (rpart c0 e) else 1 := by
  unfold rroll
  rw [hF.2.1, hF.2.2.2.1, hF.2.2.2.2, re_row h (by decide)]
  rfl
/-- the children that are left are summed -/
theorem rsim_sum (hA : rA μ0) (hL : rL μ0 Lp) (hN : ev_en (rNv μ0) G) {f : Nat} (hW : rW μ0 Lp G f) {P : List Int} {cT ρ a e c0 : Int} (hn : n + 1 + f = 20) (hm : m + 9 * f ≤ 200) (he : 0 ≤ e ∧ e < 3) (hc0 : G c0) (hρ : ρ < 0 → c0 = cT ∧ (nv_roll (rNv μ0) e (rpart c0 e) = 1 ∨ nv_roll (rNv μ0) e (rpart c0 e) = 2)) :
    ∀ (l : List Int) (i : Nat) (s : ev_K) (t : Int) (μ : mm_M), (nv_kid (rNv μ0) e (rpart c0 e)).drop i = l → rS μ0 μ (n + 1) m t → rF μ n cT ρ a e c0 → rZ μ n i s → (0 ≤ s.1 ∧ s.1 ≤ 4) → (-(2000000000 * (i : Int)) ≤ s.2 ∧ s.2 ≤ 2000000000 * (i : Int)) → rPa μ (n + 1) P → 0 ≤ n → i ≤ (nv_kid (rNv μ0) e (rpart c0 e)).length →
      (∀ s' t', ev_sum (ev (rNv μ0) f P) c0 e l s t = some (s', t') → (∀ μ', rS μ0 μ' (n + 1) m t' → rK n m μ μ' → rF μ' n cT ρ a e c0 → rZ μ' n (nv_kid (rNv μ0) e (rpart c0 e)).length s' → Lp μ') → Lp μ) ∧ (ev_sum (ev (rNv μ0) f P) c0 e l s t = none → (∀ μ', mm_re μ' = mm_re μ0 → rsp μ' → Lp μ') → Lp μ) := by
  have hlen := hN.2.2.2.2.2.2.2.1 c0 e hc0 he.1 he.2
  intro l
  induction l with
  | nil =>
    intro i s t μ hl hS hF hZ hs hs2 hP n0 hi
    refine ⟨fun s' t' h K => ?_, fun h => by cases h⟩
    cases h
    have hi2 : i = (nv_kid (rNv μ0) e (rpart c0 e)).length := by
      have := List.drop_eq_nil_iff.mp hl
      omega
    exact K μ hS rK_r hF (by rw [← hi2]; exact hZ)
  | cons k l ih =>
    intro i s t μ hl hS hF hZ hs hs2 hP n0 hi
    have hil : i < (nv_kid (rNv μ0) e (rpart c0 e)).length := by
      have := congrArg List.length hl
      rw [List.length_drop, List.length_cons] at this
      omega
    have hgk : (nv_kid (rNv μ0) e (rpart c0 e)).getD i (-1) = k := by
      rw [List.getD_eq_getElem?_getD, ← Nat.add_zero i, ← List.getElem?_drop, hl]
      rfl
    have hkm : k ∈ nv_kid (rNv μ0) e (rpart c0 e) := by
      have : k ∈ (nv_kid (rNv μ0) e (rpart c0 e)).drop i := by rw [hl]; exact List.mem_cons_self
      exact List.mem_of_mem_drop this
    have hkG := hN.2.2.2.2.2.2.1 c0 e k hc0 he.1 he.2 hkm
    have hl' : (nv_kid (rNv μ0) e (rpart c0 e)).drop (i + 1) = l := by
      rw [← List.drop_drop, hl]
      rfl
    have hro := roll_N hS.1 hF
    have hr12 : rroll μ n = 1 ∨ rroll μ n = 2 := by
      rw [hro]
      split
      · exact (hρ (by assumption)).2
      · exact Or.inl rfl
    have hnx : rnxt μ n = i := by
      unfold rnxt
      rw [if_neg (fun q => by omega), hZ.1]
    have hki := kids_N hS.1 hF
    have hsum : rsum μ n = rned (mm_u μ 169 n ((i : Int) + 1)) (ev_mv c0 e k) := by
      unfold rsum
      rw [hki, hnx, show ((i : Int)).toNat = i by omega, hgk, if_neg (by omega), hF.2.2.2.1, hF.2.2.2.2]
      rfl
    obtain ⟨g1, g2, g3, g4, g5, g6, g7, g8⟩ := id hS
    have hfu : μ0 129 65 ≤ 2000 := hA.2.2.2.2.2.2.1.2
    have hgo : Lp (rned (mm_u μ 169 n ((i : Int) + 1)) (ev_mv c0 e k)) → Lp μ := by
      intro q
      refine hL.2 μ n g1 g6 n0 (by omega) g5 (by rw [hF.2.2.2.1]; exact he.1) (by omega) (by omega) (by rw [hZ.2.1]; omega) ?_ (by rw [hZ.1]; omega) (by rw [hsum]; exact q)
      intro _ q2
      rw [hki, hnx, show ((i : Int)).toNat = i by omega, hgk] at q2
      omega
    have hS1 : rS μ0 (mm_u μ 169 n ((i : Int) + 1)) (n + 1) m t := rS_o hS (by decide) (rfv_169 g6 (by omega)) (by omega)
    have hP1 : rPa (mm_u μ 169 n ((i : Int) + 1)) (n + 1) P := by
      intro c'
      rw [hP c', mm_uu (show (164 : Nat) ≠ 169 by decide)]
    have hk01 : rK n m μ (mm_u μ 169 n ((i : Int) + 1)) := rK_u rK_r (fun _ _ => Int.le_refl _) (by omega)
    have hW1 := hW (n + 1) m t P (ev_mv c0 e k) _ (by omega) hS1 hm hP1 hkG.2
    have hnext : ∀ (μ' : mm_M) (x : ev_K) (t1 : Int), rS μ0 μ' (n + 1) m t1 → rK (n + 1) m (mm_u μ 169 n ((i : Int) + 1)) μ' → μ' 129 62 = x.1 → μ' 129 63 = sp_pl x.1 x.2 → ev_ok x →
        ∃ μ2, rdel μ' = μ2 ∧ rS μ0 μ2 (n + 1) m t1 ∧ rK n m μ μ2 ∧ rF μ2 n cT ρ a e c0 ∧ rZ μ2 n ((i + 1 : Nat) : Int) (sp_str s.1 x.1, s.2 + sp_pl x.1 x.2) ∧ rPa μ2 (n + 1) P := by
      intro μ' x t1 hS' hK' h62 h63 hx
      obtain ⟨b1, b2, b3, b4, b5, b6, b7, b8, b9⟩ := hK'.1 n (by omega)
      rw [mm_uu (show (164 : Nat) ≠ 169 by decide), hF.1] at b1
      rw [mm_uu (show (165 : Nat) ≠ 169 by decide), hF.2.1] at b2
      rw [mm_uu (show (166 : Nat) ≠ 169 by decide), hF.2.2.1] at b3
      rw [mm_uu (show (167 : Nat) ≠ 169 by decide), hF.2.2.2.1] at b4
      rw [mm_uu (show (168 : Nat) ≠ 169 by decide), hF.2.2.2.2] at b5
      rw [mm_us] at b6
      rw [mm_uu (show (170 : Nat) ≠ 169 by decide), hZ.2.1] at b7
      rw [mm_uu (show (171 : Nat) ≠ 169 by decide), hZ.2.2.1] at b8
      rw [mm_uu (show (172 : Nat) ≠ 169 by decide), hZ.2.2.2] at b9
      have h47 := hS'.2.1
      have hrd : rdel μ' = rdl1 μ' := by
        refine rdel_k (by omega) (Or.inr ?_)
        rw [h47, show n + 1 - 1 = n by omega, b2, b4, b1, re_row hS'.1 (by decide)]
        rintro ⟨q1, q2⟩
        obtain ⟨q3, q4⟩ := hρ q1
        rw [← q3] at q2
        have : nv_roll (rNv μ0) e (rpart c0 e) = μ0 132 (6 * e + rpart c0 e) := rfl
        omega
      have hrd1 : rdl1 μ' = mm_u (mm_u (mm_u μ' 170 n (s.2 + sp_pl x.1 x.2)) 171 n (sp_wt (sp_str s.1 x.1))) 172 n ((i : Int) + 1) := by
        unfold rdl1
        rw [h47, if_neg (by omega), show n + 1 - 1 = n by omega, b4, if_pos he.1, b7, h63, h62, b8, b9, (sp_wtstr hs hx.1).1]
      refine ⟨_, rfl, ?_⟩
      rw [hrd, hrd1]
      have v1 : rfv (mm_u μ' 170 n (s.2 + sp_pl x.1 x.2)) := rfv_o (by decide) hS'.2.2.2.2.2.1
      have v2 := rfv_171 (k := n) v1 (sp_wt_b (k := sp_str s.1 x.1))
      have v3 := rfv_172 (k := n) v2 (show 0 ≤ (i : Int) + 1 ∧ (i : Int) + 1 ≤ 6 by omega)
      refine ⟨rS_o (rS_o (rS_o hS' (by decide) v1 (by omega)) (by decide) v2 (by omega)) (by decide) v3 (by omega), ?_, ⟨?_, ?_, ?_, ?_, ?_⟩, ⟨?_, ?_, ?_, ?_⟩, ?_⟩
      · exact rK_u (rK_u (rK_u (rK_t hk01 (rK_le hK' (by omega) (Int.le_refl _))) (fun _ _ => Int.le_refl _) (by omega)) (fun _ _ => Int.le_refl _) (by omega)) (fun _ _ => Int.le_refl _) (by omega)
      · rw [mm_uu (by decide), mm_uu (by decide), mm_uu (by decide)]; exact b1
      · rw [mm_uu (by decide), mm_uu (by decide), mm_uu (by decide)]; exact b2
      · rw [mm_uu (by decide), mm_uu (by decide), mm_uu (by decide)]; exact b3
      · rw [mm_uu (by decide), mm_uu (by decide), mm_uu (by decide)]; exact b4
      · rw [mm_uu (by decide), mm_uu (by decide), mm_uu (by decide)]; exact b5
      · rw [mm_uu (by decide), mm_uu (by decide), mm_uu (by decide)]; exact b6
      · rw [mm_uu (by decide), mm_uu (by decide), mm_us]
      · rw [mm_uu (by decide), mm_us]
      · rw [mm_us]; rfl
      · have := rPa_K hP1 hK'
        intro c'
        rw [this c', mm_uu (show (164 : Nat) ≠ 172 by decide), mm_uu (show (164 : Nat) ≠ 171 by decide), mm_uu (show (164 : Nat) ≠ 170 by decide)]
    have hpl : ∀ x : ev_K, ev_ok x → -2000000000 ≤ sp_pl x.1 x.2 ∧ sp_pl x.1 x.2 ≤ 2000000000 := fun x hx => sp_pl_b fun _ => hx.2
    unfold ev_sum
    cases hE : ev (rNv μ0) f P (ev_mv c0 e k) t with
    | none =>
      dsimp only
      exact ⟨fun s' t' h => (by cases h), fun _ K => hgo (hW1.2 hE K)⟩
    | some y =>
      obtain ⟨x, t1⟩ := y
      dsimp only
      have hx := ev_o hN f P _ _ _ _ hkG.2 hE
      have hxp := hpl x hx.1
      have hsb := sp_str_b hs hx.1.1
      refine ⟨fun s' t' h K => hgo (hW1.1 x t1 hE fun μ' hS' hK' h62 h63 => ?_), fun h K => hgo (hW1.1 x t1 hE fun μ' hS' hK' h62 h63 => ?_)⟩
      · obtain ⟨μ2, e1, e2, e3, e4, e5, e6⟩ := hnext μ' x t1 hS' hK' h62 h63 hx.1
        rw [e1]
        exact (ih (i + 1) _ t1 μ2 hl' e2 e4 e5 hsb (by dsimp only; omega) e6 n0 (by omega)).1 s' t' h fun μ3 k1 k2 k3 k4 => K μ3 k1 (rK_t e3 k2) k3 k4
      · obtain ⟨μ2, e1, e2, e3, e4, e5, e6⟩ := hnext μ' x t1 hS' hK' h62 h63 hx.1
        rw [e1]
        exact (ih (i + 1) _ t1 μ2 hl' e2 e4 e5 hsb (by dsimp only; omega) e6 n0 (by omega)).2 h K
end S2
