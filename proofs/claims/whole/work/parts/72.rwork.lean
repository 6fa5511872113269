/-! The reference's evaluation: its small methods. -/
def rbeg (μ : mm_M) (f e c : Int) : mm_M := mm_u (mm_u (mm_u (mm_u (mm_u (mm_u μ 167 f e) 168 f c) 169 f 0) 170 f 0) 171 f 0) 172 f 0
def rfrm (μ : mm_M) (c r e : Int) : mm_M := mm_u (rbeg (mm_u (mm_u (mm_u (mm_u (mm_u μ 164 (μ 129 47) c) 165 (μ 129 47) r) 166 (μ 129 47) 0) 167 (μ 129 47) e) 168 (μ 129 47) c) (μ 129 47) e c) 129 47 (μ 129 47 + 1)
def rwk (μ : mm_M) (c : Int) : Nat → Bool
  | 0 => false
  | k + 1 => rwk μ c k || decide (μ 164 k = c)
/-- where a shift goes -/
def rtg (μ : mm_M) (e s m : Int) : Int :=
  if s = 60 then (if m ∈ fo_L (rp μ e) ∧ 0 < ((fo_L (rp μ e)).idxOf m : Int) then (fo_L (rp μ e)).getD ((fo_L (rp μ e)).idxOf m - 1) (-1) else -1)
  else if s = 62 then (if m ∈ fo_L (rp μ e) then (fo_L (rp μ e)).getD ((fo_L (rp μ e)).idxOf m + 1) (-1) else -1)
  else if s = 94 then rq μ e m else if s = 36 then m else if μ 130 (6 * e + (s - 48)) = 0 then -1 else s - 48
def rtr (μ : mm_M) : Nat → Int → Int → Int
  | 0, _, c => c
  | k + 1, j, c => if c < 0 then c else rtr μ k (j + 1) (if 0 ≤ rtg μ (μ 146 j) (μ 147 j) (rpart c (μ 146 j)) then c + (rtg μ (μ 146 j) (μ 147 j) (rpart c (μ 146 j)) - rpart c (μ 146 j)) * rscale (μ 146 j) else -1)
def rsg (s : Int) : Prop := s = 60 ∨ s = 62 ∨ s = 94 ∨ s = 36 ∨ (48 ≤ s ∧ s ≤ 53)
section RW
variable {d : Nat} {Q : am_Ou → am_G → Prop} {w : mm_Z} {μ : mm_M} {X : mm_X} {n : mm_N} {c e m f r : Int}
theorem rbeg_o {b : Nat} (h : b < 167 ∨ 172 < b) : rbeg μ f e c b = μ b := by
  unfold rbeg
  rw [mm_uu (by omega), mm_uu (by omega), mm_uu (by omega), mm_uu (by omega), mm_uu (by omega), mm_uu (by omega)]
theorem c_161 (hq : mm_P w) (h : 0 ≤ f ∧ f < 20) : am_C (d + 1) 161 [.ref 129, .int (Int32.ofInt (f)), .int (Int32.ofInt (e)), .int (Int32.ofInt (c))] (mm_hp w μ X n) Q ↔ Q (.inl none) (mm_hp w (rbeg μ f e c) X n) := by
  rw [en_161, b_161_0 hq]
  simp (disch := omega) only [and_self, true_and, mm_ltx, mm_lex, mm_eqx, mm_wv, mm_gd, ↓reduceIte, Int.reduceAdd, Int.reduceSub, Int.reduceNeg, Int.reduceLE, Int.reduceLT, Int.reduceMul, Int.reduceEq, if_pos, if_neg]
  rfl
theorem c_183 (hq : mm_P w) (h : 0 ≤ μ 129 47 ∧ μ 129 47 < 20) : am_C (d + 2) 183 [.ref 129, .int (Int32.ofInt (c)), .int (Int32.ofInt (r)), .int (Int32.ofInt (e))] (mm_hp w μ X n) Q ↔ Q (.inl none) (mm_hp w (rfrm μ c r e) X n) := by
  rw [en_183 (d := d + 1), b_183_0 hq]
  simp (disch := omega) only [and_self, true_and, mm_ltx, mm_lex, mm_eqx, mm_wv, mm_gd, ↓reduceIte, Int.reduceAdd, Int.reduceSub, Int.reduceNeg, Int.reduceLE, Int.reduceLT, Int.reduceMul, Int.reduceEq, mm_uu (show (129 : Nat) ≠ 164 by decide), mm_uu (show (129 : Nat) ≠ 165 by decide), mm_uu (show (129 : Nat) ≠ 166 by decide), mm_uu (show (129 : Nat) ≠ 167 by decide), mm_uu (show (129 : Nat) ≠ 168 by decide)]
  rw [c_161 (d := d) hq h, bk_n, b_183_60 hq, rbeg_o (b := 129) (by decide), mm_uu (show (129 : Nat) ≠ 168 by decide), mm_uu (show (129 : Nat) ≠ 167 by decide), mm_uu (show (129 : Nat) ≠ 166 by decide), mm_uu (show (129 : Nat) ≠ 165 by decide), mm_uu (show (129 : Nat) ≠ 164 by decide)]
  rfl
theorem c_245_4 (hq : mm_P w) (hn : 0 ≤ μ 129 47 ∧ μ 129 47 ≤ 20) (hf : ∀ i, 0 ≤ i → i < μ 129 47 → 0 ≤ μ 164 i ∧ μ 164 i < 216) (hc : 0 ≤ c ∧ c < 216) : ∀ (k i : Nat), (i : Int) + k = μ 129 47 → (am_E d 245 Q (4, [some (.ref 129), some (.int (Int32.ofInt (c))), some (.int (Int32.ofInt (if rwk μ c i = true then 1 else 0))), some (.int (Int32.ofInt ((i : Int))))], [], mm_hp w μ X n) ↔ Q (.inl (some (.int (Int32.ofInt (if rwk μ c (i + k) = true then 1 else 0))))) (mm_hp w μ X n)) := by
  intro k
  induction k with
  | zero =>
    intro i hi
    rw [b_245_4 hq, if_pos (by rw [mm_lex, mm_wv (by omega) (by omega), mm_wv (by omega) (by omega)]; omega), if_pos (mm_okc.mpr trivial)]
    rfl
  | succ k ih =>
    intro i hi
    have hfi := hf i (by omega) (by omega)
    have s31 : ∀ s : Int, s = (if rwk μ c (i + 1) = true then 1 else 0) → (am_E d 245 Q (31, [some (.ref 129), some (.int (Int32.ofInt (c))), some (.int (Int32.ofInt (if rwk μ c i = true then 1 else 0))), some (.int (Int32.ofInt ((i : Int))))], [.int (Int32.ofInt (s))], mm_hp w μ X n) ↔ Q (.inl (some (.int (Int32.ofInt (if rwk μ c (i + (k + 1)) = true then 1 else 0))))) (mm_hp w μ X n)) := by
      rintro _ rfl
      rw [b_245_31 hq]
      have := ih (i + 1) (by omega)
      rw [show ((i + 1 : Nat) : Int) = (i : Int) + 1 by omega, show i + 1 + k = i + (k + 1) by omega] at this
      exact this
    rw [b_245_4 hq, if_neg (by rw [mm_lex, mm_wv (by omega) (by omega), mm_wv (by omega) (by omega)]; omega)]
    by_cases e : rwk μ c i = true
    · rw [if_neg (by rw [if_pos e]; decide), b_245_26 hq]
      refine s31 1 ?_
      unfold rwk
      rw [e, Bool.true_or, if_pos rfl]
    · rw [if_pos (by rw [if_neg e])]
      simp (disch := omega) only [and_self, true_and, mm_ltx, mm_lex, mm_eqx, mm_wv, mm_gd, ↓reduceIte, Int.reduceAdd, Int.reduceSub, Int.reduceNeg, Int.reduceLE, Int.reduceLT, Int.reduceMul, Int.reduceEq]
      by_cases g : μ 164 i = c
      · rw [if_pos g, b_245_26 hq]
        refine s31 1 ?_
        unfold rwk
        rw [decide_eq_true g, Bool.or_true, if_pos rfl]
      · rw [if_neg g]
        refine s31 0 ?_
        unfold rwk
        rw [decide_eq_false g, Bool.or_false, if_neg e]
theorem c_245 (hq : mm_P w) (hn : 0 ≤ μ 129 47 ∧ μ 129 47 ≤ 20) (hf : ∀ i, 0 ≤ i → i < μ 129 47 → 0 ≤ μ 164 i ∧ μ 164 i < 216) (hc : 0 ≤ c ∧ c < 216) : am_C (d + 1) 245 [.ref 129, .int (Int32.ofInt (c))] (mm_hp w μ X n) Q ↔ Q (.inl (some (.int (Int32.ofInt (if rwk μ c (μ 129 47).toNat = true then 1 else 0))))) (mm_hp w μ X n) := by
  rw [en_245, b_245_0 hq]
  have := c_245_4 (d := d) (Q := Q) (X := X) (n := n) hq hn hf hc (μ 129 47).toNat 0 (by omega)
  rw [Nat.zero_add] at this
  exact this
theorem rtg_b (ho : rt_ok μ e) (hm : 0 ≤ m ∧ m < 6) {s : Int} (hs : rsg s) : -1 ≤ rtg μ e s m ∧ rtg μ e s m ≤ 5 := by
  obtain ⟨o1, o2, o3, o4⟩ := ho
  have hL := fo_Lin o1
  have hg : ∀ i : Nat, -1 ≤ (fo_L (rp μ e)).getD i (-1) ∧ (fo_L (rp μ e)).getD i (-1) ≤ 5 := by
    intro i
    by_cases hi : i < (fo_L (rp μ e)).length
    · exact fo_getD_in (P := fun x => -1 ≤ x ∧ x ≤ 5) (fun x hx => by have := ((hL.2.1 x).mp hx).1; omega) hi
    · rw [List.getD_eq_getElem?_getD, List.getElem?_eq_none (by omega)]
      exact ⟨Int.le_refl _, show (-1 : Int) ≤ 5 by decide⟩
  have hr := o2 m hm.1 hm.2
  unfold rtg rsg at *
  split
  · split
    · exact hg _
    · decide
  · split
    · split
      · exact hg _
      · decide
    · split
      · exact hr.2
      · split
        · omega
        · split
          · decide
          · omega
theorem c_235_12 (hq : mm_P w) (ht : ∀ e, 0 ≤ e → e < 3 → rt_ok μ e) {x1 x2 x3 x4 : Int} (hz : 0 ≤ x1 ∧ x1 < 8 ∧ 0 ≤ x2 ∧ 0 ≤ x3 ∧ x2 + x3 ≤ 24) : ∀ (k : Nat) (c j : Int) (e7 e8 e9 e10 e11 : Option Value), am_n2 e7 = true → am_n2 e8 = true → am_n2 e9 = true → am_n2 e10 = true → am_n2 e11 = true → -1 ≤ c → c < 216 → 0 ≤ j → j + k = 24 * x1 + x2 + x3 → (∀ i, j ≤ i → i < j + k → (0 ≤ μ 146 i ∧ μ 146 i < 3) ∧ rsg (μ 147 i)) → (am_E (d + 2) 235 Q (12, [some (.ref 129), some (.int (Int32.ofInt (x1))), some (.int (Int32.ofInt (x2))), some (.int (Int32.ofInt (x3))), some (.int (Int32.ofInt (x4))), some (.int (Int32.ofInt (c))), some (.int (Int32.ofInt (j))), e7, e8, e9, e10, e11], [], mm_hp w μ X n) ↔ Q (.inl (some (.int (Int32.ofInt (rtr μ k j c))))) (mm_hp w μ X n)) := by
  intro k
  induction k with
  | zero =>
    intro c j e7 e8 e9 e10 e11 h7 h8 h9 h10 h11 c0 c1 j0 hj hs
    rw [b_235_12 hq h7 h8 h9 h10 h11, if_pos (by rw [mm_lex, mm_wv (by omega) (by omega), mm_wv (by omega) (by omega)]; omega)]
    rfl
  | succ k ih =>
    intro c j e7 e8 e9 e10 e11 h7 h8 h9 h10 h11 c0 c1 j0 hj hs
    rw [b_235_12 hq h7 h8 h9 h10 h11, if_neg (by rw [mm_lex, mm_wv (by omega) (by omega), mm_wv (by omega) (by omega)]; omega)]
    unfold rtr
    by_cases cn : c < 0
    · rw [if_pos (by rw [mm_ltx, mm_wv (by omega) (by omega), mm_wv (by decide) (by decide)]; exact cn), if_pos cn]
    · obtain ⟨he, hsj⟩ := hs j (Int.le_refl _) (by omega)
      have hm := rpart_b (e := μ 146 j) (show 0 ≤ c by omega) c1
      have ho := ht _ he.1 he.2
      have hb := rtg_b ho hm hsj
      have hL := fo_Lin ho.1
      have hx := @List.idxOf_lt_length_iff Int _ _ (fo_L (rp μ (μ 146 j))) (rpart c (μ 146 j))
      rw [if_neg (by rw [mm_ltx, mm_wv (by omega) (by omega), mm_wv (by decide) (by decide)]; exact cn), if_neg cn]
      simp (disch := omega) only [and_self, true_and, mm_ltx, mm_lex, mm_eqx, mm_wv, mm_gd, ↓reduceIte, Int.reduceAdd, Int.reduceSub, Int.reduceNeg, Int.reduceLE, Int.reduceLT, Int.reduceMul, Int.reduceEq]
      rw [d_213 (d := d + 1) hq (by omega) c1 he, bk_v, b_235_55 hq h9 h10 h11, c_201 (d := d + 1) hq he hm.1 hm.2 ho, bk_v, b_235_65 hq h10 h11]
      have s219 : ∀ x10 v, v = rtg μ (μ 146 j) (μ 147 j) (rpart c (μ 146 j)) → (am_E (d + 2) 235 Q (219, [some (.ref 129), some (.int (Int32.ofInt (x1))), some (.int (Int32.ofInt (x2))), some (.int (Int32.ofInt (x3))), some (.int (Int32.ofInt (x4))), some (.int (Int32.ofInt (c))), some (.int (Int32.ofInt (j))), some (.int (Int32.ofInt (μ 146 j))), some (.int (Int32.ofInt (μ 147 j))), some (.int (Int32.ofInt (rpart c (μ 146 j)))), some (.int (Int32.ofInt (x10))), some (.int (Int32.ofInt (v)))], [], mm_hp w μ X n) ↔ Q (.inl (some (.int (Int32.ofInt (rtr μ k (j + 1) (if 0 ≤ rtg μ (μ 146 j) (μ 147 j) (rpart c (μ 146 j)) then c + (rtg μ (μ 146 j) (μ 147 j) (rpart c (μ 146 j)) - rpart c (μ 146 j)) * rscale (μ 146 j) else -1)))))) (mm_hp w μ X n)) := by
        rintro x10 _ rfl
        rw [b_235_219 hq]
        generalize rtg μ (μ 146 j) (μ 147 j) (rpart c (μ 146 j)) = v at *
        by_cases v0 : 0 ≤ v
        · have hc' := rmv_b (show 0 ≤ c by omega) c1 he (show 0 ≤ v ∧ v < 6 by omega)
          rw [if_pos (by rw [mm_lex, mm_wv (by decide) (by decide), mm_wv (by omega) (by omega)]; exact v0), if_pos v0, c_207 (d := d) hq (by omega) c1 he (by omega), bk_v, b_235_238 hq]
          exact ih _ _ _ _ _ _ _ rfl rfl rfl rfl rfl (by omega) (by omega) (by omega) (by omega) (fun i i0 i1 => hs i (by omega) (by omega))
        · rw [if_neg (by rw [mm_lex, mm_wv (by decide) (by decide), mm_wv (by omega) (by omega)]; exact v0), if_neg v0, b_235_238 hq]
          exact ih _ _ _ _ _ _ _ rfl rfl rfl rfl rfl (by decide) (by decide) (by omega) (by omega) (fun i i0 i1 => hs i (by omega) (by omega))
      have hgd : ∀ i : Int, 0 ≤ i → i < (fo_L (rp μ (μ 146 j))).length → μ 133 (6 * μ 146 j + i) = (fo_L (rp μ (μ 146 j))).getD i.toNat (-1) := ho.2.2.2
      have hlen := ho.2.2.1
      have e60 : μ 147 j = 60 → rtg μ (μ 146 j) (μ 147 j) (rpart c (μ 146 j)) = (if rpart c (μ 146 j) ∈ fo_L (rp μ (μ 146 j)) ∧ 0 < ((fo_L (rp μ (μ 146 j))).idxOf (rpart c (μ 146 j)) : Int) then (fo_L (rp μ (μ 146 j))).getD ((fo_L (rp μ (μ 146 j))).idxOf (rpart c (μ 146 j)) - 1) (-1) else -1) := fun q => by unfold rtg; rw [if_pos q]
      have e62 : μ 147 j = 62 → rtg μ (μ 146 j) (μ 147 j) (rpart c (μ 146 j)) = (if rpart c (μ 146 j) ∈ fo_L (rp μ (μ 146 j)) then (fo_L (rp μ (μ 146 j))).getD ((fo_L (rp μ (μ 146 j))).idxOf (rpart c (μ 146 j)) + 1) (-1) else -1) := fun q => by unfold rtg; rw [if_neg (by omega), if_pos q]
      have e94 : μ 147 j = 94 → rtg μ (μ 146 j) (μ 147 j) (rpart c (μ 146 j)) = μ 131 (6 * μ 146 j + rpart c (μ 146 j)) := fun q => by unfold rtg; rw [if_neg (by omega), if_neg (by omega), if_pos q]; rfl
      have e36 : μ 147 j = 36 → rtg μ (μ 146 j) (μ 147 j) (rpart c (μ 146 j)) = rpart c (μ 146 j) := fun q => by unfold rtg; rw [if_neg (by omega), if_neg (by omega), if_neg (by omega), if_pos q]
      have e48 : 48 ≤ μ 147 j ∧ μ 147 j ≤ 53 → rtg μ (μ 146 j) (μ 147 j) (rpart c (μ 146 j)) = if μ 130 (6 * μ 146 j + (μ 147 j - 48)) = 0 then -1 else μ 147 j - 48 := fun q => by unfold rtg; rw [if_neg (by omega), if_neg (by omega), if_neg (by omega), if_neg (by omega)]
      generalize hv : rtg μ (μ 146 j) (μ 147 j) (rpart c (μ 146 j)) = v at *
      generalize hLl : fo_L (rp μ (μ 146 j)) = L at *
      generalize rpart c (μ 146 j) = m at *
      have hkey : ∀ s0 : Int, (m ∈ L → s0 = (L.idxOf m : Int)) → (m ∉ L → s0 = -1) → (-1 ≤ s0 ∧ s0 < 6) := by
        intro s0 a b
        by_cases q : m ∈ L
        · have := hx.mpr q; have := a q; omega
        · have := b q; omega
      have hs0 : ∀ s0 : Int, s0 = (if m ∈ L then (L.idxOf m : Int) else -1) → (m ∈ L → s0 = (L.idxOf m : Int)) ∧ (m ∉ L → s0 = -1) := by
        rintro s0 rfl
        exact ⟨fun q => if_pos q, fun q => if_neg q⟩
      generalize hs1 : (if m ∈ L then (L.idxOf m : Int) else -1) = s0
      obtain ⟨k1, k2⟩ := hs0 s0 hs1.symm
      have k3 := hkey s0 k1 k2
      have hs147 : 0 ≤ μ 147 j ∧ μ 147 j ≤ 100 := by unfold rsg at hsj; omega
      generalize μ 147 j = s at *
      generalize hee : μ 146 j = e at *
      by_cases a60 : s = 60
      · rw [if_pos (by rw [a60])]
        by_cases b0 : s0 ≤ 0
        · rw [if_pos (by rw [mm_lex, mm_wv (by omega) (by omega), mm_wv (by decide) (by decide)]; exact b0), b_235_102 hq]
          refine s219 _ _ ?_
          rw [e60 a60]
          split
          · rename_i q; have := k1 q.1; omega
          · rfl
        · rw [if_neg (by rw [mm_lex, mm_wv (by omega) (by omega), mm_wv (by decide) (by decide)]; exact b0)]
          have q : m ∈ L := Decidable.byContradiction fun q => by have := k2 q; omega
          have q1 := k1 q
          have q2 := hx.mpr q
          simp (disch := omega) only [and_self, true_and, mm_ltx, mm_lex, mm_eqx, mm_wv, mm_gd, ↓reduceIte, Int.reduceAdd, Int.reduceSub, Int.reduceNeg, Int.reduceLE, Int.reduceLT, Int.reduceMul, Int.reduceEq]
          rw [b_235_102 hq]
          refine s219 _ _ ?_
          rw [e60 a60, if_pos ⟨q, by omega⟩, show 6 * e + s0 - 1 = 6 * e + (s0 - 1) by omega, hgd (s0 - 1) (by omega) (by omega), show (s0 - 1).toNat = L.idxOf m - 1 by omega]
      · rw [if_neg (by rw [mm_eqx, mm_wv (by omega) (by omega), mm_wv (by decide) (by decide)]; exact a60)]
        by_cases a62 : s = 62
        · rw [if_pos (by rw [a62])]
          by_cases b0 : s0 < 0
          · rw [if_pos (by rw [mm_ltx, mm_wv (by omega) (by omega), mm_wv (by decide) (by decide)]; exact b0), b_235_151 hq, b_235_152 hq]
            refine s219 _ _ ?_
            rw [e62 a62]
            split
            · rename_i q; have := k1 q; omega
            · rfl
          · rw [if_neg (by rw [mm_ltx, mm_wv (by omega) (by omega), mm_wv (by decide) (by decide)]; exact b0)]
            have q : m ∈ L := Decidable.byContradiction fun q => by have := k2 q; omega
            have q1 := k1 q
            have q2 := hx.mpr q
            simp (disch := omega) only [and_self, true_and, mm_ltx, mm_lex, mm_eqx, mm_wv, mm_gd, ↓reduceIte, Int.reduceAdd, Int.reduceSub, Int.reduceNeg, Int.reduceLE, Int.reduceLT, Int.reduceMul, Int.reduceEq]
            by_cases b1 : μ 134 e ≤ s0 + 1
            · rw [if_pos b1, b_235_151 hq, b_235_152 hq]
              refine s219 _ _ ?_
              rw [e62 a62, if_pos q, List.getD_eq_getElem?_getD, List.getElem?_eq_none (by omega)]
              rfl
            · rw [if_neg b1, b_235_152 hq]
              refine s219 _ _ ?_
              rw [e62 a62, if_pos q, show 6 * e + s0 + 1 = 6 * e + (s0 + 1) by omega, hgd (s0 + 1) (by omega) (by omega), show (s0 + 1).toNat = L.idxOf m + 1 by omega]
        · rw [if_neg (by rw [mm_eqx, mm_wv (by omega) (by omega), mm_wv (by decide) (by decide)]; exact a62)]
          by_cases a94 : s = 94
          · rw [if_pos (by rw [a94])]
            simp (disch := omega) only [and_self, true_and, mm_ltx, mm_lex, mm_eqx, mm_wv, mm_gd, ↓reduceIte, Int.reduceAdd, Int.reduceSub, Int.reduceNeg, Int.reduceLE, Int.reduceLT, Int.reduceMul, Int.reduceEq]
            exact s219 _ _ (e94 a94).symm
          · rw [if_neg (by rw [mm_eqx, mm_wv (by omega) (by omega), mm_wv (by decide) (by decide)]; exact a94)]
            by_cases a36 : s = 36
            · rw [if_pos (by rw [a36])]
              exact s219 _ _ (e36 a36).symm
            · have a48 : 48 ≤ s ∧ s ≤ 53 := by unfold rsg at hsj; omega
              have a49 := (ho.2.1 (s - 48) (by omega) (by omega)).1
              have e48 := e48 a48
              rw [if_neg (by rw [mm_eqx, mm_wv (by omega) (by omega), mm_wv (by decide) (by decide)]; exact a36)]
              rw [show 6 * e + s - 48 = 6 * e + (s - 48) by omega]
              simp (disch := omega) only [and_self, true_and, mm_ltx, mm_lex, mm_eqx, mm_wv, mm_gd, ↓reduceIte, Int.reduceAdd, Int.reduceSub, Int.reduceNeg, Int.reduceLE, Int.reduceLT, Int.reduceMul, Int.reduceEq]
              by_cases a0 : μ 130 (6 * e + (s - 48)) = 0
              · rw [if_pos a0] at e48 ⊢
                rw [b_235_217 hq]
                exact s219 _ _ e48.symm
              · rw [if_neg a0] at e48 ⊢
                rw [b_235_217 hq]
                exact s219 _ _ e48.symm
theorem c_235 (hq : mm_P w) (ht : ∀ e, 0 ≤ e → e < 3 → rt_ok μ e) {x1 x2 x3 : Int} (hz : 0 ≤ x1 ∧ x1 < 8 ∧ 0 ≤ x2 ∧ 0 ≤ x3 ∧ x2 + x3 ≤ 24) (c0 : 0 ≤ c) (c1 : c < 216) (hs : ∀ i, 24 * x1 + x2 ≤ i → i < 24 * x1 + x2 + x3 → (0 ≤ μ 146 i ∧ μ 146 i < 3) ∧ rsg (μ 147 i)) : am_C (d + 3) 235 [.ref 129, .int (Int32.ofInt (x1)), .int (Int32.ofInt (x2)), .int (Int32.ofInt (x3)), .int (Int32.ofInt (c))] (mm_hp w μ X n) Q ↔ Q (.inl (some (.int (Int32.ofInt (rtr μ x3.toNat (24 * x1 + x2) c))))) (mm_hp w μ X n) := by
  rw [en_235 (d := d + 2), b_235_0 hq]
  exact c_235_12 hq ht hz x3.toNat c _ _ _ _ _ _ rfl rfl rfl rfl rfl (by omega) c1 (by omega) (by omega) (fun i i0 i1 => hs i i0 (by omega))
end RW
