/-! The reference's evaluation, as memories: its environment, its state. -/
def sgc (s : Int) : Int := if s = 60 then 6 else if s = 62 then 7 else if s = 94 then 8 else if s = 36 then 9 else s - 48
def sgd (s : Int) : Int := if s = 6 then 60 else if s = 7 then 62 else if s = 8 then 94 else if s = 9 then 36 else s + 48
/-- the environment that the reference's memory holds -/
def rNv (μ : mm_M) : ev_N := (fun c => if 0 ≤ rilay μ c then μ 138 (216 * rilay μ c + c) else -2147483648, fun c => rwin μ c (μ 129 11).toNat, fun c => rinner μ c, fun e m => μ 132 (6 * e + m), fun e m => fo_ch (rp μ e) m,
  fun r => (List.range (μ 141 r).toNat).map fun (i : Nat) => (μ 142 (64 * r + i), μ 143 (64 * r + i), μ 144 (64 * r + i)), fun r a b => (List.range b.toNat).map fun (j : Nat) => (μ 146 (24 * r + a + j), sgc (μ 147 (24 * r + a + j))), fun e s m => rtg μ e (sgd s) m, μ 129 65)
/-- a whole reference stands last alone -/
def rA_l (μ : mm_M) : Prop := ∀ r, 0 ≤ r → r < μ 129 11 → ∀ i, 0 ≤ i → i < μ 141 r → μ 142 (64 * r + i) = 1 → ∀ j, 24 * r + μ 143 (64 * r + i) ≤ j → j + 1 < 24 * r + μ 143 (64 * r + i) + μ 144 (64 * r + i) → μ 147 j ≠ 36
/-- the state of the reference's work: frames, operands, steps -/
def rS (μ0 μ : mm_M) (n m t : Int) : Prop := mm_re μ = mm_re μ0 ∧ μ 129 47 = n ∧ μ 129 59 = m ∧ μ 129 49 = t ∧ μ 129 48 = 0 ∧ rfv μ ∧ (∀ j, 0 ≤ j → j < m → rop (μ 173 j) (μ 174 j)) ∧ (0 ≤ m ∧ m ≤ 600) ∧ (0 ≤ t ∧ t ≤ μ0 129 65)
/-- what lies below is kept -/
def rK (n m : Int) (μ μ' : mm_M) : Prop := (∀ i, i < n → μ' 164 i = μ 164 i ∧ μ' 165 i = μ 165 i ∧ μ' 166 i = μ 166 i ∧ μ' 167 i = μ 167 i ∧ μ' 168 i = μ 168 i ∧ μ' 169 i = μ 169 i ∧ μ' 170 i = μ 170 i ∧ μ' 171 i = μ 171 i ∧ μ' 172 i = μ 172 i) ∧ ∀ j, j < m → μ' 173 j = μ 173 j ∧ μ' 174 j = μ 174 j
/-- a run of the work's loop that goes on -/
def rL (μ0 : mm_M) (Lp : mm_M → Prop) : Prop :=
  (∀ μ f, mm_re μ = mm_re μ0 → rfv μ → 0 ≤ f → f + 1 = μ 129 47 → μ 129 48 = 0 → μ 167 f < 0 → (0 ≤ μ 165 f ∧ μ 165 f < μ0 129 11) → (0 ≤ μ 166 f ∧ μ 166 f ≤ μ0 141 (μ 165 f)) → (0 ≤ μ 129 49 ∧ μ 129 49 ≤ 3000) → (0 ≤ μ 129 59 ∧ μ 129 59 < 639) → (∀ j, 0 ≤ j → j < μ 129 59 → rop (μ 173 j) (μ 174 j)) →
    (μ 166 f = μ0 141 (μ 165 f) → 1 ≤ μ 129 59) → (μ 166 f < μ0 141 (μ 165 f) → μ0 142 (64 * μ 165 f + μ 166 f) = 6 → 1 ≤ μ 129 59) → (μ 166 f < μ0 141 (μ 165 f) → 2 ≤ μ0 142 (64 * μ 165 f + μ 166 f) → μ0 142 (64 * μ 165 f + μ 166 f) ≤ 5 → 2 ≤ μ 129 59) → Lp (rord μ f) → Lp μ)
  ∧ ∀ μ f, mm_re μ = mm_re μ0 → rfv μ → 0 ≤ f → f + 1 = μ 129 47 → μ 129 48 = 0 → 0 ≤ μ 167 f → (0 ≤ μ 129 49 ∧ μ 129 49 ≤ 3000) → (0 ≤ μ 129 59 ∧ μ 129 59 < 640) → (-1000000000000 ≤ μ 170 f ∧ μ 170 f ≤ 1000000000000) → (rroll μ f = 2 → (rkids μ f).getD (rnxt μ f).toNat (-1) < 0 → μ 172 f ≠ 0) → μ 169 f ≤ 6 → Lp (rsum μ f) → Lp μ
section SI
variable {w : mm_Z} {μ0 μ μ' : mm_M} {X : mm_X} {n m t : Int} {c e f r : Int} {N : ev_N} {G : Int → Prop}
theorem re_at {a : Nat} {k : Int} (h : mm_re μ' = mm_re μ) (ha : ¬ ((164 ≤ a ∧ a ≤ 174) ∨ (a = 129 ∧ (k = 47 ∨ k = 48 ∨ k = 49 ∨ k = 59 ∨ k = 62 ∨ k = 63)))) : μ' a k = μ a k := by
  have := congrFun (congrFun h a) k
  unfold mm_re at this
  rw [if_neg ha, if_neg ha] at this
  exact this
theorem re_row {a : Nat} (h : mm_re μ' = mm_re μ) (ha : a ≠ 129 ∧ (a < 164 ∨ 174 < a)) : μ' a = μ a := funext fun k => re_at h (by omega)
theorem re_in2 (h : mm_re μ' = mm_re μ) : rinner μ' c = rinner μ c := by rw [← re_inner, h, re_inner]
theorem re_il2 (h : mm_re μ' = mm_re μ) : rilay μ' c = rilay μ c := by rw [← re_il, h, re_il]
theorem re_win2 {k : Nat} (h : mm_re μ' = mm_re μ) : rwin μ' c k = rwin μ c k := by rw [← re_win, h, re_win]
theorem re_tr2 {k : Nat} {j : Int} (h : mm_re μ' = mm_re μ) : rtr μ' k j c = rtr μ k j c := by rw [← re_tr, h, re_tr]
theorem re_rp2 (h : mm_re μ' = mm_re μ) : rp μ' e = rp μ e := by rw [← re_rp, h, re_rp]
theorem rwk_iff : ∀ (k : Nat), rwk μ c k = true ↔ ∃ i : Int, 0 ≤ i ∧ i < k ∧ μ 164 i = c := by
  intro k
  induction k with
  | zero => exact ⟨fun q => (by cases q), fun ⟨i, h0, h1, _⟩ => by omega⟩
  | succ k ih =>
    unfold rwk
    rw [Bool.or_eq_true, ih, decide_eq_true_iff]
    constructor
    · rintro (⟨i, h0, h1, h2⟩ | h)
      · exact ⟨i, h0, by omega, h2⟩
      · exact ⟨k, by omega, by omega, h⟩
    · rintro ⟨i, h0, h1, h2⟩
      by_cases q : i = k
      · right; rw [← q]; exact h2
      · left; exact ⟨i, h0, by omega, h2⟩
theorem rpop_u {x : Int} : ∀ k : Nat, rpop (mm_u μ 129 47 x) k = rpop μ k := by
  intro k
  induction k with
  | zero => rfl
  | succ k ih =>
    unfold rpop
    rw [ih]
    rfl
/-- the top frame keeps a result -/
theorem rdel_k (h : 0 ≤ μ 129 47) (hk : μ 129 47 = 0 ∨ ¬ (μ 165 (μ 129 47 - 1) < 0 ∧ 3 ≤ μ 132 (6 * μ 167 (μ 129 47 - 1) + rpart (μ 164 (μ 129 47 - 1)) (μ 167 (μ 129 47 - 1))))) : rdel μ = rdl1 μ := by
  unfold rdel
  have : ((rpop μ (μ 129 47).toNat : Nat) : Int) = μ 129 47 := by
    generalize hx : μ 129 47 = x at *
    rcases hk with q | q
    · rw [show x.toNat = 0 by omega]
      show ((0 : Nat) : Int) = x
      omega
    · obtain ⟨k, hk⟩ : ∃ k : Nat, x = (k : Int) + 1 ∨ x = 0 := ⟨(x - 1).toNat, by omega⟩
      rcases hk with hk | hk
      · rw [show x.toNat = k + 1 by omega]
        rw [show x - 1 = k by omega] at q
        rw [show rpop μ (k + 1) = if μ 165 k < 0 ∧ 3 ≤ μ 132 (6 * μ 167 k + rpart (μ 164 k) (μ 167 k)) then rpop μ k else k + 1 from rfl, if_neg q]
        omega
      · rw [hk]; rfl
  rw [this, mm_un_id]
/-- the top frame passes a result on -/
theorem rdel_p (h : 0 < μ 129 47) (hk : μ 165 (μ 129 47 - 1) < 0 ∧ 3 ≤ μ 132 (6 * μ 167 (μ 129 47 - 1) + rpart (μ 164 (μ 129 47 - 1)) (μ 167 (μ 129 47 - 1)))) : rdel μ = rdel (mm_u μ 129 47 (μ 129 47 - 1)) := by
  unfold rdel
  rw [mm_us, rpop_u, mm_u2]
  obtain ⟨k, hk2⟩ : ∃ k : Nat, μ 129 47 = (k : Int) + 1 := ⟨(μ 129 47 - 1).toNat, by omega⟩
  rw [hk2, show (k : Int) + 1 - 1 = k by omega] at hk
  rw [hk2, show ((k : Int) + 1).toNat = k + 1 by omega, show ((k : Int) + 1 - 1).toNat = k by omega, show rpop μ (k + 1) = if μ 165 k < 0 ∧ 3 ≤ μ 132 (6 * μ 167 k + rpart (μ 164 k) (μ 167 k)) then rpop μ k else k + 1 from rfl, if_pos hk]
theorem sgd_sgc {s : Int} (h : rsg s) : sgd (sgc s) = s := by
  unfold rsg at h
  rcases (by omega : s = 60 ∨ s = 62 ∨ s = 94 ∨ s = 36 ∨ s = 48 ∨ s = 49 ∨ s = 50 ∨ s = 51 ∨ s = 52 ∨ s = 53) with rfl | rfl | rfl | rfl | rfl | rfl | rfl | rfl | rfl | rfl <;> decide
theorem sgc_9 {s : Int} (h : rsg s) : sgc s = 9 ↔ s = 36 := by
  unfold rsg at h
  rcases (by omega : s = 60 ∨ s = 62 ∨ s = 94 ∨ s = 36 ∨ s = 48 ∨ s = 49 ∨ s = 50 ∨ s = 51 ∨ s = 52 ∨ s = 53) with rfl | rfl | rfl | rfl | rfl | rfl | rfl | rfl | rfl | rfl <;> decide
theorem rng_cons {α : Type} (k : Nat) (g : Nat → α) : (List.range (k + 1)).map g = g 0 :: (List.range k).map (fun i => g (i + 1)) := by
  rw [List.range_succ_eq_map, List.map_cons, List.map_map]
  rfl
theorem rtr_tgt (hA : rA μ) : ∀ (k : Nat) (j c : Int), 0 ≤ c → c < 216 → (∀ i, j ≤ i → i < j + k → (0 ≤ μ 146 i ∧ μ 146 i < 3) ∧ rsg (μ 147 i)) → (∀ i, j ≤ i → i + 1 < j + k → μ 147 i ≠ 36) → ∀ q, ev_tgt (rNv μ) ((List.range k).map fun (i : Nat) => (μ 146 (j + i), sgc (μ 147 (j + i)))) c = q →
    (q.1 = 0 ∧ rtr μ k j c < 0) ∨ (q.1 = 1 ∧ rtr μ k j c = q.2.1 ∧ (0 < k → μ 147 (j + k - 1) ≠ 36)) ∨ (q.1 = 2 ∧ rtr μ k j c = q.2.1 ∧ 0 < k ∧ μ 147 (j + k - 1) = 36 ∧ μ 146 (j + k - 1) = q.2.2) := by
  intro k
  induction k with
  | zero =>
    intro j c h0 h1 hs h36 q hq
    subst hq
    exact Or.inr (Or.inl ⟨rfl, rfl, fun q => absurd q (by omega)⟩)
  | succ k ih =>
    intro j c h0 h1 hs h36 q hq
    subst hq
    have hj := hs j (Int.le_refl _) (by omega)
    have hm := rpart_b (e := μ 146 j) h0 h1
    have hb := rtg_b (hA.1 _ hj.1.1 hj.1.2) hm hj.2
    rw [rng_cons]
    have hf : (fun i : Nat => (μ 146 (j + ((i + 1 : Nat) : Int)), sgc (μ 147 (j + ((i + 1 : Nat) : Int))))) = fun i : Nat => (μ 146 (j + 1 + (i : Int)), sgc (μ 147 (j + 1 + (i : Int)))) := by
      funext i
      rw [show j + ((i + 1 : Nat) : Int) = j + 1 + i by omega]
    rw [hf, show j + ((0 : Nat) : Int) = j by omega]
    unfold ev_tgt rtr
    rw [if_neg (show ¬ c < 0 by omega)]
    dsimp only
    have htg : nv_tg (rNv μ) (μ 146 j) (sgc (μ 147 j)) (rpart c (μ 146 j)) = rtg μ (μ 146 j) (μ 147 j) (rpart c (μ 146 j)) := by
      show rtg μ (μ 146 j) (sgd (sgc (μ 147 j))) (rpart c (μ 146 j)) = _
      rw [sgd_sgc hj.2]
    by_cases g9 : μ 147 j = 36
    · have hk : k = 0 := Decidable.byContradiction fun q => h36 j (Int.le_refl _) (by omega) g9
      subst hk
      rw [if_pos ((sgc_9 hj.2).mpr g9)]
      refine Or.inr (Or.inr ⟨rfl, ?_, by omega, by rw [show j + ((0 + 1 : Nat) : Int) - 1 = j by omega]; exact g9, by rw [show j + ((0 + 1 : Nat) : Int) - 1 = j by omega]⟩)
      have ht : rtg μ (μ 146 j) (μ 147 j) (rpart c (μ 146 j)) = rpart c (μ 146 j) := by
        unfold rtg
        rw [if_neg (by omega), if_neg (by omega), if_neg (by omega), if_pos g9]
      rw [ht, if_pos hm.1]
      show c + (rpart c (μ 146 j) - rpart c (μ 146 j)) * rscale (μ 146 j) = c
      rw [Int.sub_self, Int.zero_mul, Int.add_zero]
    · rw [if_neg (fun q => g9 ((sgc_9 hj.2).mp q)), htg]
      by_cases gt : rtg μ (μ 146 j) (μ 147 j) (rpart c (μ 146 j)) < 0
      · rw [if_pos gt, if_neg (show ¬ 0 ≤ rtg μ (μ 146 j) (μ 147 j) (rpart c (μ 146 j)) by omega)]
        refine Or.inl ⟨rfl, ?_⟩
        cases k with
        | zero => show (-1 : Int) < 0; decide
        | succ k => unfold rtr; rw [if_pos (by decide)]; decide
      · have hmv := rmv_b h0 h1 hj.1 (show 0 ≤ rtg μ (μ 146 j) (μ 147 j) (rpart c (μ 146 j)) ∧ rtg μ (μ 146 j) (μ 147 j) (rpart c (μ 146 j)) < 6 by omega)
        rw [if_neg gt, if_pos (show 0 ≤ rtg μ (μ 146 j) (μ 147 j) (rpart c (μ 146 j)) by omega)]
        have := ih (j + 1) (c + (rtg μ (μ 146 j) (μ 147 j) (rpart c (μ 146 j)) - rpart c (μ 146 j)) * rscale (μ 146 j)) hmv.1 hmv.2 (fun i i0 i1 => hs i (by omega) (by omega)) (fun i i0 i1 => h36 i (by omega) (by omega)) _ rfl
        unfold ev_mv
        rcases this with q | q | q
        · exact Or.inl q
        · refine Or.inr (Or.inl ⟨q.1, q.2.1, fun _ => ?_⟩)
          by_cases k0 : k = 0
          · rw [k0, show j + ((0 + 1 : Nat) : Int) - 1 = j by omega]; exact g9
          · rw [show j + ((k + 1 : Nat) : Int) - 1 = j + 1 + k - 1 by omega]; exact q.2.2 (by omega)
        · exact Or.inr (Or.inr ⟨q.1, q.2.1, by omega, by rw [show j + ((k + 1 : Nat) : Int) - 1 = j + 1 + k - 1 by omega]; exact q.2.2.2.1, by rw [show j + ((k + 1 : Nat) : Int) - 1 = j + 1 + k - 1 by omega]; exact q.2.2.2.2⟩)
end SI
