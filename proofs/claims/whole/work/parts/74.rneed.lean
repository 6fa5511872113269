/-! The reference needs a cell; refers; sums; takes the next order. -/
/-- what the evaluation reads and doesn't write -/
def mm_re (μ : mm_M) : mm_M := fun a k => if (164 ≤ a ∧ a ≤ 174) ∨ (a = 129 ∧ (k = 47 ∨ k = 48 ∨ k = 49 ∨ k = 59 ∨ k = 62 ∨ k = 63)) then 0 else μ a k
/-- an order of a formula as the reference keeps it -/
def rA_o (μ : mm_M) (r i : Int) : Prop := (0 ≤ μ 142 (64 * r + i) ∧ μ 142 (64 * r + i) ≤ 7) ∧ (μ 142 (64 * r + i) = 0 → 0 ≤ μ 143 (64 * r + i) ∧ μ 143 (64 * r + i) ≤ 99999) ∧ (μ 142 (64 * r + i) = 1 → (0 ≤ μ 143 (64 * r + i) ∧ 1 ≤ μ 144 (64 * r + i) ∧ μ 143 (64 * r + i) + μ 144 (64 * r + i) ≤ 24) ∧ ∀ j, 24 * r + μ 143 (64 * r + i) ≤ j → j < 24 * r + μ 143 (64 * r + i) + μ 144 (64 * r + i) → (0 ≤ μ 146 j ∧ μ 146 j < 3) ∧ rsg (μ 147 j))
  ∧ (6 ≤ μ 142 (64 * r + i) → (0 ≤ μ 143 (64 * r + i) ∧ μ 143 (64 * r + i) ≤ 24) ∧ (μ 142 (64 * r + i) = 6 → 0 ≤ μ 144 (64 * r + i) ∧ μ 144 (64 * r + i) ≤ 24))
def rA (μ : mm_M) : Prop := (∀ e, 0 ≤ e → e < 3 → rt_ok μ e) ∧ rr_r μ ∧ (∀ j, 0 ≤ j → j < 648 → μ 137 j = 0 ∨ μ 137 j = 1) ∧ (∀ j, 0 ≤ j → j < 648 → -2000000000 ≤ μ 138 j ∧ μ 138 j ≤ 2000000000) ∧ (∀ j, 0 ≤ j → j < 18 → 0 ≤ μ 132 j ∧ μ 132 j ≤ 4) ∧ (0 ≤ μ 129 46 ∧ μ 129 46 < 3) ∧ (1 ≤ μ 129 65 ∧ μ 129 65 ≤ 2000)
  ∧ ∀ r, 0 ≤ r → r < μ 129 11 → (0 ≤ μ 141 r ∧ μ 141 r ≤ 24) ∧ ∀ i, 0 ≤ i → i < μ 141 r → rA_o μ r i
def rilay (μ : mm_M) (c : Int) : Int := if rinner μ c = -1 then rlay μ c (μ 129 46 + 1).toNat else -1
def rned (μ : mm_M) (c : Int) : mm_M :=
  if rwk μ c (μ 129 47).toNat = true then rdel (rres μ 2 0)
  else if μ 129 65 < μ 129 49 + 1 ∨ μ 129 47 = 20 then mm_u (mm_u μ 129 49 (μ 129 49 + 1)) 129 48 1
  else if 0 ≤ rilay μ c then rdel (rres (mm_u μ 129 49 (μ 129 49 + 1)) 0 (μ 138 (216 * rilay μ c + c)))
  else if 0 ≤ rwin μ c (μ 129 11).toNat then rfrm (mm_u μ 129 49 (μ 129 49 + 1)) c (rwin μ c (μ 129 11).toNat) (-1)
  else if rinner μ c < 0 ∨ μ 132 (6 * rinner μ c + rpart c (rinner μ c)) = 0 then rdel (rres (mm_u μ 129 49 (μ 129 49 + 1)) 1 0)
  else rfrm (mm_u μ 129 49 (μ 129 49 + 1)) c (-1) (rinner μ c)
def rref (μ : mm_M) (f a b : Int) : mm_M :=
  if rtr μ b.toNat (24 * μ 165 f + a) (μ 164 f) < 0 then rpsh μ 1 0
  else if μ 147 (24 * μ 165 f + a + b - 1) = 36 then rbeg μ f (μ 146 (24 * μ 165 f + a + b - 1)) (rtr μ b.toNat (24 * μ 165 f + a) (μ 164 f))
  else rned μ (rtr μ b.toNat (24 * μ 165 f + a) (μ 164 f))
def rroll (μ : mm_M) (f : Int) : Int := if μ 165 f < 0 then μ 132 (6 * μ 167 f + rpart (μ 168 f) (μ 167 f)) else 1
def rkids (μ : mm_M) (f : Int) : List Int := fo_ch (rp μ (μ 167 f)) (rpart (μ 168 f) (μ 167 f))
def rnxt (μ : mm_M) (f : Int) : Int := if rroll μ f = 4 ∧ μ 169 f + 1 < (rkids μ f).length then (rkids μ f).length - 1 else μ 169 f
def rsum (μ : mm_M) (f : Int) : mm_M :=
  if (rkids μ f).getD (rnxt μ f).toNat (-1) < 0 then
    if μ 165 f < 0 then rdel (rres (mm_u (mm_u μ 169 f (rnxt μ f + 1)) 129 47 (μ 129 47 - 1)) (if μ 171 f ≤ 0 then (sp_fit (if rroll μ f = 2 then sp_rnd (μ 170 f) (μ 172 f) else μ 170 f)).1 else sp_ow (μ 171 f)) (if μ 171 f ≤ 0 then (sp_fit (if rroll μ f = 2 then sp_rnd (μ 170 f) (μ 172 f) else μ 170 f)).2 else 0))
    else rpsh (rres (mm_u (mm_u μ 169 f (rnxt μ f + 1)) 167 f (-1)) (if μ 171 f ≤ 0 then (sp_fit (μ 170 f)).1 else sp_ow (μ 171 f)) (if μ 171 f ≤ 0 then (sp_fit (μ 170 f)).2 else 0)) (if μ 171 f ≤ 0 then (sp_fit (μ 170 f)).1 else sp_ow (μ 171 f)) (if μ 171 f ≤ 0 then (sp_fit (μ 170 f)).2 else 0)
  else rned (mm_u μ 169 f (rnxt μ f + 1)) (μ 168 f + ((rkids μ f).getD (rnxt μ f).toNat (-1) - rpart (μ 168 f) (μ 167 f)) * rscale (μ 167 f))
/-- the next order of a frame -/
def rord (μ : mm_M) (f : Int) : mm_M :=
  if μ 166 f = μ 141 (μ 165 f) then rdel (mm_u (mm_u (mm_u (mm_u μ 129 59 (μ 129 59 - 1)) 129 62 (μ 173 (μ 129 59 - 1))) 129 63 (μ 174 (μ 129 59 - 1))) 129 47 (μ 129 47 - 1))
  else if μ 142 (64 * μ 165 f + μ 166 f) = 0 then rpsh (mm_u μ 166 f (μ 166 f + 1)) 0 (1000 * μ 143 (64 * μ 165 f + μ 166 f))
  else if μ 142 (64 * μ 165 f + μ 166 f) = 1 then rref (mm_u μ 166 f (μ 166 f + 1)) f (μ 143 (64 * μ 165 f + μ 166 f)) (μ 144 (64 * μ 165 f + μ 166 f))
  else if μ 142 (64 * μ 165 f + μ 166 f) = 7 then mm_u μ 166 f (μ 143 (64 * μ 165 f + μ 166 f))
  else if μ 142 (64 * μ 165 f + μ 166 f) = 6 then
    if 2 ≤ μ 173 (μ 129 59 - 1) then mm_u μ 166 f (μ 144 (64 * μ 165 f + μ 166 f))
    else mm_u (mm_u μ 129 59 (μ 129 59 - 1)) 166 f (if 0 < μ 174 (μ 129 59 - 1) then μ 166 f + 1 else μ 143 (64 * μ 165 f + μ 166 f))
  else rcmb (mm_u μ 166 f (μ 166 f + 1)) (μ 142 (64 * μ 165 f + μ 166 f))
section RN
variable {d : Nat} {Q : am_Ou → am_G → Prop} {w : mm_Z} {μ μ' : mm_M} {X : mm_X} {n : mm_N} {c e m f r : Int}
theorem re_inner : rinner (mm_re μ) c = rinner μ c := rfl
theorem re_lay {k : Nat} : rlay (mm_re μ) c k = rlay μ c k := by
  induction k with
  | zero => rfl
  | succ k ih =>
    unfold rlay
    rw [ih]
    rfl
theorem re_win {k : Nat} : rwin (mm_re μ) c k = rwin μ c k := by
  induction k with
  | zero => rfl
  | succ k ih =>
    unfold rwin
    rw [ih]
    rfl
theorem re_tr {k : Nat} : ∀ {j c : Int}, rtr (mm_re μ) k j c = rtr μ k j c := by
  induction k with
  | zero => intro j c; rfl
  | succ k ih =>
    intro j c
    unfold rtr
    rw [ih]
    rfl
theorem re_rp : rp (mm_re μ) e = rp μ e := rfl
theorem re_A : rA (mm_re μ) = rA μ := rfl
theorem re_il : rilay (mm_re μ) c = rilay μ c := by
  unfold rilay
  rw [re_lay]
  rfl
theorem re_u {a : Nat} {k z : Int} (h : (164 ≤ a ∧ a ≤ 174) ∨ (a = 129 ∧ (k = 47 ∨ k = 48 ∨ k = 49 ∨ k = 59 ∨ k = 62 ∨ k = 63))) : mm_re (mm_u μ a k z) = mm_re μ := by
  funext b j
  unfold mm_re mm_u
  split
  · rfl
  · rw [if_neg]
    rintro ⟨q1, q2⟩
    subst q1 q2
    contradiction
theorem re_pop {k : Nat} : rpop (mm_re μ) k = rpop (mm_re μ) k := rfl
theorem rA_c (h : mm_re μ' = mm_re μ) (hA : rA μ) : rA μ' := by
  rw [← re_A, h, re_A]; exact hA
theorem rfv_f {k z : Int} (h : k ≠ 47) (hv : rfv μ) : rfv (mm_u μ 129 k z) := by
  unfold rfv
  rw [mm_un (fun q => h q.symm)]
  refine ⟨hv.1, fun i i0 i1 => ?_, fun j j0 j1 => ?_⟩
  · simp only [mm_uu (show (164 : Nat) ≠ 129 by decide), mm_uu (show (165 : Nat) ≠ 129 by decide), mm_uu (show (167 : Nat) ≠ 129 by decide), mm_uu (show (168 : Nat) ≠ 129 by decide), mm_uu (show (169 : Nat) ≠ 129 by decide), mm_uu (show (171 : Nat) ≠ 129 by decide), mm_uu (show (172 : Nat) ≠ 129 by decide)]
    exact hv.2.1 i i0 i1
  · rw [mm_uu (show (132 : Nat) ≠ 129 by decide)]
    exact hv.2.2 j j0 j1
theorem rfv_res {k z : Int} (hv : rfv μ) : rfv (rres μ k z) := rfv_f (by decide) (rfv_f (by decide) hv)
theorem c_208 (hq : mm_P w) (hA : rA μ) (hv : rfv μ) (hc : 0 ≤ c ∧ c < 216) (h49 : 0 ≤ μ 129 49 ∧ μ 129 49 ≤ 3000) (h59 : 0 ≤ μ 129 59 ∧ μ 129 59 < 640) : am_C (d + 5) 208 [.ref 129, .int (Int32.ofInt (c))] (mm_hp w μ X n) Q ↔ Q (.inl none) (mm_hp w (rned μ c) X n) := by
  obtain ⟨a1, a2, a3, a4, a5, a6, a7, a8⟩ := id hA
  have hn := hv.1
  rw [en_208 (d := d + 4), b_208_0 hq, c_245 (d := d + 3) hq hn (fun i i0 i1 => (hv.2.1 i i0 i1).1) hc, bk_v, b_208_5 hq]
  unfold rned
  have hdel : ∀ (μ1 : mm_M) (k v : Int), rfv μ1 → (0 ≤ k ∧ k ≤ 4) → (0 ≤ μ1 129 59 ∧ μ1 129 59 < 640) → ∀ (Q : am_Ou → am_G → Prop), (am_C (d + 4) 167 [.ref 129] (mm_hp w (rres μ1 k v) X n) Q ↔ Q (.inl none) (mm_hp w (rdel (rres μ1 k v)) X n)) := fun μ1 k v g1 g2 g3 Q => c_167 (d := d + 2) hq (by rw [rres_62]; exact g2) (by rw [rres_f (by decide) (by decide)]; exact g3) (rfv_res g1)
  by_cases w1 : rwk μ c (μ 129 47).toNat = true
  · rw [if_pos w1, if_pos w1, if_neg (by decide), c_223 (d := d + 2) hq (by decide) (by decide) (by decide), bk_n, b_208_14 hq, if_neg (by decide), if_neg (by decide), hdel _ _ _ hv (by decide) h59, bk_n, b_208_18 hq]
  · rw [if_neg w1, if_neg w1, if_pos rfl, mm_us, mm_un (by decide), mm_un (by decide)]
    have hA1 : rA (mm_u μ 129 49 (μ 129 49 + 1)) := rA_c (re_u (by decide)) hA
    have hv1 := rfv_f (μ := μ) (k := 49) (z := μ 129 49 + 1) (by decide) hv
    simp (disch := omega) only [and_self, true_and, mm_ltx, mm_lex, mm_eqx, mm_wv, mm_gd, ↓reduceIte, Int.reduceAdd, Int.reduceSub, Int.reduceNeg, Int.reduceLE, Int.reduceLT, Int.reduceMul, Int.reduceEq]
    by_cases f1 : μ 129 65 < μ 129 49 + 1
    · rw [if_pos f1, if_pos (Or.inl f1), b_208_49 hq]
    · by_cases f2 : μ 129 47 = 20
      · rw [if_neg f1, if_pos f2, if_pos (Or.inr f2), b_208_49 hq]
      · rw [if_neg f1, if_neg f2, if_neg (fun q => by rcases q with q | q; exact f1 q; exact f2 q)]
        have e1 : rinner (mm_u μ 129 49 (μ 129 49 + 1)) c = rinner μ c := rfl
        have e2 : rlay (mm_u μ 129 49 (μ 129 49 + 1)) c (μ 129 46 + 1).toNat = rlay μ c (μ 129 46 + 1).toNat := by rw [← re_lay, re_u (by decide), re_lay]
        have e3 : rwin (mm_u μ 129 49 (μ 129 49 + 1)) c (μ 129 11).toNat = rwin μ c (μ 129 11).toNat := by rw [← re_win, re_u (by decide), re_win]
        have e46 : mm_u μ 129 49 (μ 129 49 + 1) 129 46 = μ 129 46 := by rw [mm_un (by decide)]
        have e11 : mm_u μ 129 49 (μ 129 49 + 1) 129 11 = μ 129 11 := by rw [mm_un (by decide)]
        have e47 : mm_u μ 129 49 (μ 129 49 + 1) 129 47 = μ 129 47 := by rw [mm_un (by decide)]
        have e59 : mm_u μ 129 49 (μ 129 49 + 1) 129 59 = μ 129 59 := by rw [mm_un (by decide)]
        have e138 : ∀ j, mm_u μ 129 49 (μ 129 49 + 1) 138 j = μ 138 j := fun j => by rw [mm_uu (by decide)]
        have e132 : ∀ j, mm_u μ 129 49 (μ 129 49 + 1) 132 j = μ 132 j := fun j => by rw [mm_uu (by decide)]
        generalize mm_u μ 129 49 (μ 129 49 + 1) = μ1 at *
        have rt1 : rt_a μ1 := fun e g0 g1 => (hA1.1 e g0 g1).2.1
        have hib : -1 ≤ rinner μ c ∧ rinner μ c < 3 := by
          unfold rinner
          split
          · decide
          · split
            · decide
            · split <;> decide
        have hwb := rwin_b (μ := μ) (c := c) (μ 129 11).toNat
        have h11 := a2.1
        rw [c_200 (d := d + 1) hq rt1 (by omega) hc.2, bk_v, e1]
        have s96 : ∀ x2 x3 : Int, x2 = rilay μ c → x3 = (if x2 < 0 then rwin μ c (μ 129 11).toNat else -1) → (-1 ≤ x2 ∧ x2 < 3) → (am_E (d + 4) 208 Q (90, [some (.ref 129), some (.int (Int32.ofInt (c))), some (.int (Int32.ofInt (x2))), none, none], [.int (Int32.ofInt (x3))], mm_hp w μ1 X n) ↔ Q (.inl none) (mm_hp w (if 0 ≤ rilay μ c then rdel (rres μ1 0 (μ 138 (216 * rilay μ c + c)))
  else if 0 ≤ rwin μ c (μ 129 11).toNat then rfrm μ1 c (rwin μ c (μ 129 11).toNat) (-1)
  else if rinner μ c < 0 ∨ μ 132 (6 * rinner μ c + rpart c (rinner μ c)) = 0 then rdel (rres μ1 1 0)
  else rfrm μ1 c (-1) (rinner μ c)) X n)) := by
          intro x2 x3 hx2 hx3 hx
          have hx3b : -1 ≤ x3 ∧ x3 < 8 := by rw [hx3]; split <;> omega
          rw [b_208_90 hq, c_188 (d := d + 1) hq rt1 hc.1 hc.2, bk_v, b_208_96 hq, e1]
          by_cases g : x2 < 0
          · rw [if_pos g] at hx3
            rw [if_pos (by rw [mm_ltx, mm_wv (by omega) (by omega), mm_wv (by decide) (by decide)]; exact g), if_neg (show ¬ 0 ≤ rilay μ c by omega)]
            by_cases g2 : x3 < 0
            · rw [if_pos (by rw [mm_ltx, mm_wv (by omega) (by omega), mm_wv (by decide) (by decide)]; exact g2), if_neg (show ¬ 0 ≤ rwin μ c (μ 129 11).toNat by omega)]
              have s166 : (am_E (d + 4) 208 Q (166, [some (.ref 129), some (.int (Int32.ofInt (c))), some (.int (Int32.ofInt (x2))), some (.int (Int32.ofInt (x3))), some (.int (Int32.ofInt (rinner μ c)))], [], mm_hp w μ1 X n) ↔ Q (.inl none) (mm_hp w (rdel (rres μ1 1 0)) X n)) := by
                rw [b_208_166 hq, c_223 (d := d + 2) hq (by decide) (by decide) (by decide), bk_n, b_208_172 hq, if_neg (by decide), if_neg (by decide), hdel _ _ _ hv1 (by decide) (by omega), bk_n, b_208_176 hq, b_208_187 hq]
              by_cases g3 : rinner μ c < 0
              · rw [if_pos (by rw [mm_ltx, mm_wv (by omega) (by omega), mm_wv (by decide) (by decide)]; exact g3), if_pos (Or.inl g3)]
                exact s166
              · have hp := rpart_b (e := rinner μ c) hc.1 hc.2
                have h132 := a5 (6 * rinner μ c + rpart c (rinner μ c)) (by omega) (by omega)
                rw [if_neg (by rw [mm_ltx, mm_wv (by omega) (by omega), mm_wv (by decide) (by decide)]; exact g3), d_213 (d := d + 3) hq hc.1 hc.2 (by omega), bk_v, b_208_161 hq]
                simp (disch := omega) only [and_self, true_and, mm_ltx, mm_lex, mm_eqx, mm_wv, mm_gd, ↓reduceIte, Int.reduceAdd, Int.reduceSub, Int.reduceNeg, Int.reduceLE, Int.reduceLT, Int.reduceMul, Int.reduceEq, e132]
                by_cases g4 : μ 132 (6 * rinner μ c + rpart c (rinner μ c)) = 0
                · rw [if_pos g4, if_pos (Or.inr g4)]
                  exact s166
                · rw [if_neg g4, if_neg (fun q => by rcases q with q | q; exact g3 q; exact g4 q), c_183 (d := d + 2) hq (by omega), bk_n, b_208_187 hq]
            · rw [if_neg (by rw [mm_ltx, mm_wv (by omega) (by omega), mm_wv (by decide) (by decide)]; exact g2), if_pos (show 0 ≤ rwin μ c (μ 129 11).toNat by omega), c_183 (d := d + 2) hq (by omega), bk_n, b_208_138 hq, b_208_187 hq, hx3]
          · have h138 := a4 (216 * x2 + c) (by omega) (by omega)
            rw [if_neg (by rw [mm_ltx, mm_wv (by omega) (by omega), mm_wv (by decide) (by decide)]; exact g), if_pos (show 0 ≤ rilay μ c by omega)]
            simp (disch := omega) only [and_self, true_and, mm_ltx, mm_lex, mm_eqx, mm_wv, mm_gd, ↓reduceIte, Int.reduceAdd, Int.reduceSub, Int.reduceNeg, Int.reduceLE, Int.reduceLT, Int.reduceMul, Int.reduceEq, e138]
            rw [c_223 (d := d + 2) hq (by decide) (by omega) (by omega), bk_n, b_208_120 hq, if_pos rfl, if_pos rfl]
            have hfit : sp_fit (μ 138 (216 * x2 + c)) = (0, μ 138 (216 * x2 + c)) := by unfold sp_fit; rw [if_pos h138]
            rw [hfit]
            show am_C (d + 4) 167 [.ref 129] (mm_hp w (rres μ1 0 (μ 138 (216 * x2 + c))) X n) _ ↔ Q (.inl none) (mm_hp w (rdel (rres μ1 0 (μ 138 (216 * rilay μ c + c)))) X n)
            rw [hdel _ _ _ hv1 (by decide) (by omega), bk_n, b_208_124 hq, b_208_187 hq, hx2]
        have s76 : ∀ x : Int, x = rilay μ c → (-1 ≤ x ∧ x < 3) → (am_E (d + 4) 208 Q (76, [some (.ref 129), some (.int (Int32.ofInt (c))), none, none, none], [.int (Int32.ofInt (x))], mm_hp w μ1 X n) ↔ Q (.inl none) (mm_hp w (if 0 ≤ rilay μ c then rdel (rres μ1 0 (μ 138 (216 * rilay μ c + c)))
  else if 0 ≤ rwin μ c (μ 129 11).toNat then rfrm μ1 c (rwin μ c (μ 129 11).toNat) (-1)
  else if rinner μ c < 0 ∨ μ 132 (6 * rinner μ c + rpart c (rinner μ c)) = 0 then rdel (rres μ1 1 0)
  else rfrm μ1 c (-1) (rinner μ c)) X n)) := by
          intro x hx hxb
          rw [b_208_76 hq]
          by_cases g : x < 0
          · rw [if_pos (by rw [mm_ltx, mm_wv (by omega) (by omega), mm_wv (by decide) (by decide)]; exact g), c_243 (d := d) hq rt1 hA1.2.1 hc.1 hc.2, bk_v, e11, e3]
            exact s96 _ _ hx (by rw [if_pos g]) hxb
          · rw [if_neg (by rw [mm_ltx, mm_wv (by omega) (by omega), mm_wv (by decide) (by decide)]; exact g)]
            exact s96 _ _ hx (by rw [if_neg g]) hxb
        have hlb : ∀ k : Nat, k ≤ 3 → -1 ≤ rlay μ c k ∧ rlay μ c k < 3 := by
          intro k
          induction k with
          | zero => intro _; exact ⟨Int.le_refl (-1), show (-1 : Int) < 3 by decide⟩
          | succ k ih =>
            intro hk
            unfold rlay
            have := ih (by omega)
            split <;> omega
        by_cases g : rinner μ c = -1
        · have hl := hlb (μ 129 46 + 1).toNat (by omega)
          rw [if_pos ⟨hc.1, g⟩, b_208_60 hq, if_neg (by decide), e46, c_189 (d := d + 3) hq hc.1 hc.2 (by omega) (by omega) hA1.2.2.1, bk_v, b_208_72 hq, e2]
          exact s76 _ (by unfold rilay; rw [if_pos g]) hl
        · rw [if_neg (fun q => g q.2), b_208_60 hq, if_pos rfl]
          exact s76 _ (by unfold rilay; rw [if_neg g]) (by decide)
theorem rtr_b (hA : rA μ) : ∀ (k : Nat) (j c : Int), -1 ≤ c → c < 216 → (∀ i, j ≤ i → i < j + k → (0 ≤ μ 146 i ∧ μ 146 i < 3) ∧ rsg (μ 147 i)) → -1 ≤ rtr μ k j c ∧ rtr μ k j c < 216 := by
  intro k
  induction k with
  | zero => intro j c h0 h1 _; exact ⟨h0, h1⟩
  | succ k ih =>
    intro j c h0 h1 h
    unfold rtr
    split
    · exact ⟨h0, h1⟩
    · have hj := h j (Int.le_refl _) (by omega)
      have hm := rpart_b (e := μ 146 j) (show 0 ≤ c by omega) h1
      have hb := rtg_b (hA.1 _ hj.1.1 hj.1.2) hm hj.2
      refine ih _ _ ?_ ?_ (fun i i0 i1 => h i (by omega) (by omega))
      · split
        · have := rmv_b (show 0 ≤ c by omega) h1 hj.1 (show 0 ≤ _ ∧ _ < 6 from ⟨by assumption, by omega⟩)
          omega
        · decide
      · split
        · exact (rmv_b (show 0 ≤ c by omega) h1 hj.1 (show 0 ≤ _ ∧ _ < 6 from ⟨by assumption, by omega⟩)).2
        · decide
theorem c_222 (hq : mm_P w) (hA : rA μ) (hv : rfv μ) (hf : 0 ≤ f ∧ f < μ 129 47) (h165 : 0 ≤ μ 165 f) {a b : Int} (ha : 0 ≤ a ∧ 1 ≤ b ∧ a + b ≤ 24) (hs : ∀ j, 24 * μ 165 f + a ≤ j → j < 24 * μ 165 f + a + b → (0 ≤ μ 146 j ∧ μ 146 j < 3) ∧ rsg (μ 147 j)) (h49 : 0 ≤ μ 129 49 ∧ μ 129 49 ≤ 3000) (h59 : 0 ≤ μ 129 59 ∧ μ 129 59 < 640) : am_C (d + 6) 222 [.ref 129, .int (Int32.ofInt (f)), .int (Int32.ofInt (a)), .int (Int32.ofInt (b))] (mm_hp w μ X n) Q ↔ Q (.inl none) (mm_hp w (rref μ f a b) X n) := by
  have hn := hv.1
  have hfv := hv.2.1 f hf.1 hf.2
  have hl := hs (24 * μ 165 f + a + b - 1) (by omega) (by omega)
  have hrb := rtr_b hA b.toNat (24 * μ 165 f + a) (μ 164 f) (by omega) hfv.1.2 (fun i i0 i1 => hs i i0 (by omega))
  have hl2 : 0 ≤ μ 147 (24 * μ 165 f + a + b - 1) ∧ μ 147 (24 * μ 165 f + a + b - 1) ≤ 100 := by have := hl.2; unfold rsg at this; omega
  rw [en_222 (d := d + 5), b_222_0 hq]
  simp (disch := omega) only [and_self, true_and, mm_ltx, mm_lex, mm_eqx, mm_wv, mm_gd, ↓reduceIte, Int.reduceAdd, Int.reduceSub, Int.reduceNeg, Int.reduceLE, Int.reduceLT, Int.reduceMul, Int.reduceEq]
  rw [c_235 (d := d + 2) hq hA.1 (by omega) hfv.1.1 hfv.1.2 hs, bk_v, b_222_35 hq]
  unfold rref
  generalize rtr μ b.toNat (24 * μ 165 f + a) (μ 164 f) = to at *
  by_cases g : to < 0
  · rw [if_neg (by rw [mm_lex, mm_wv (by decide) (by decide), mm_wv (by omega) (by omega)]; omega), if_pos g, c_217 (d := d + 4) hq (by decide) h59, bk_n, b_222_48 hq, b_222_86 hq]
  · rw [if_pos (by rw [mm_lex, mm_wv (by decide) (by decide), mm_wv (by omega) (by omega)]; omega), if_neg g]
    simp (disch := omega) only [and_self, true_and, mm_ltx, mm_lex, mm_eqx, mm_wv, mm_gd, ↓reduceIte, Int.reduceAdd, Int.reduceSub, Int.reduceNeg, Int.reduceLE, Int.reduceLT, Int.reduceMul, Int.reduceEq]
    by_cases g2 : μ 147 (24 * μ 165 f + a + b - 1) = 36
    · rw [if_pos g2, if_pos g2, c_161 (d := d + 4) hq (by omega), bk_n, b_222_77 hq, b_222_86 hq]
    · rw [if_neg g2, if_neg g2, c_208 (d := d) hq hA hv (by omega) h49 h59, bk_n, b_222_86 hq]
end RN
