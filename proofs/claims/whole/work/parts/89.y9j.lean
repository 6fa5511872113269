/-! Calls of both sides: filled. -/
theorem q_nn {f : Jvm.FP.Core.Fmt} {s : Bool} {a b : Nat} {e : Int} : Jvm.FP.Core.roundRatio f s a b e ≠ .nan := by
  unfold Jvm.FP.Core.roundRatio
  split
  · exact fun h => by cases h
  · unfold Jvm.FP.Core.roundAt Jvm.FP.Core.settle Jvm.FP.Core.bound
    (repeat' split) <;> (intro h; cases h)
theorem q_div {a b : Int} (a0 : 0 ≤ a) (a1 : a ≤ 216) (b0 : 0 < b) (b1 : b ≤ 216) : Jvm.FP.Core.fIsNaN (FP.fdiv (FP.i2f (Int32.ofInt a)) (FP.i2f (Int32.ofInt b))) = false := by
  have ha : (Int32.ofInt a).toInt = a := Int32.toInt_ofInt_of_le (by omega) (by omega)
  have hb : (Int32.ofInt b).toInt = b := Int32.toInt_ofInt_of_le (by omega) (by omega)
  have h1 := Jvm.FP.Core.i2f_int (a := Int32.ofInt a) (by rw [ha]; omega)
  have h2 := Jvm.FP.Core.i2f_int (a := Int32.ofInt b) (by rw [hb]; omega)
  rw [ha] at h1
  rw [hb] at h2
  refine Bool.eq_false_iff.mpr fun h => ?_
  have h3 := (Jvm.FP.Core.fIsNaN_iff _).mp h
  have h4 : Jvm.FP.Core.val32 (Jvm.FP.Core.fdiv (Jvm.FP.Core.i2f (Int32.ofInt a)) (Jvm.FP.Core.i2f (Int32.ofInt b))) = .nan := h3
  rw [Jvm.FP.Core.val32_fdiv] at h4
  unfold Jvm.FP.Core.FInt at h1 h2
  revert h4
  generalize Jvm.FP.Core.val32 (Jvm.FP.Core.i2f (Int32.ofInt a)) = u at h1
  generalize Jvm.FP.Core.val32 (Jvm.FP.Core.i2f (Int32.ofInt b)) = v at h2
  cases u with
  | nan => exact h1.elim
  | inf => exact h1.elim
  | fin s c q =>
    cases v with
    | nan => exact h2.elim
    | inf => exact h2.elim
    | fin t e r =>
      show (if e = 0 then _ else _) = _ → False
      by_cases z : e = 0
      · exfalso
        subst z
        have h2' : Jvm.FP.Core.signed t (0 * 2 ^ r.toNat) = b * ((2 ^ (-r).toNat : Nat) : Int) := h2
        rw [Nat.zero_mul] at h2'
        have h0 : Jvm.FP.Core.signed t 0 = 0 := by cases t <;> rfl
        rw [h0] at h2'
        have hp := Nat.two_pow_pos (-r).toNat
        have : 0 < b * ((2 ^ (-r).toNat : Nat) : Int) := Int.mul_pos b0 (by omega)
        omega
      · rw [if_neg z]
        exact q_nn
theorem q_g32 {x : UInt32} (h : Jvm.FP.Core.fIsNaN x = false) : x &&& 0x7fffffff ≤ 0x7f800000 := by
  have h2 : ¬ 2139095040 < x.toNat % 2 ^ 31 := fun z => by
    have := (Jvm.FP.Core.isNaN_bits32 x).mpr z
    rw [h] at this
    exact absurd this (by decide)
  rw [UInt32.le_iff_toNat_le, UInt32.toNat_and]
  show x.toNat &&& 2147483647 ≤ 2139095040
  rw [show (2147483647 : Nat) = 2 ^ 31 - 1 by decide, Nat.and_two_pow_sub_one_eq_mod]
  omega
theorem q_g64 {x : UInt32} (h : Jvm.FP.Core.fIsNaN x = false) : FP.f2d x &&& 0x7fffffffffffffff ≤ 0x7ff0000000000000 := by
  have h1 : Jvm.FP.Core.dIsNaN (FP.f2d x) = false := (Jvm.FP.f2d_nan x).trans h
  have h2 : ¬ 9218868437227405312 < (FP.f2d x).toNat % 2 ^ 63 := fun z => by
    have := (Jvm.FP.Core.isNaN_bits (FP.f2d x)).mpr z
    rw [h1] at this
    exact absurd this (by decide)
  rw [UInt64.le_iff_toNat_le, UInt64.toNat_and]
  show (FP.f2d x).toNat &&& 9223372036854775807 ≤ 9218868437227405312
  rw [show (9223372036854775807 : Nat) = 2 ^ 63 - 1 by decide, Nat.and_two_pow_sub_one_eq_mod]
  omega
theorem q_cmp {x : UInt32} (h : Jvm.FP.Core.fIsNaN x = false) : Op.cmpValue (FP.dcmp (FP.f2d x) (FP.f2d x)) .l = 0 := by
  have h1 : Jvm.FP.Core.dIsNaN (FP.f2d x) = false := (Jvm.FP.f2d_nan x).trans h
  have h2 : Jvm.FP.Core.val64 (FP.f2d x) ≠ .nan := fun z => by
    have := (Jvm.FP.Core.dIsNaN_iff _).mpr z
    rw [h1] at this
    exact absurd this (by decide)
  rw [show FP.dcmp (FP.f2d x) (FP.f2d x) = some .eq from Jvm.FP.Core.dcmp_self h2]
  rfl
theorem q_0 : Jvm.FP.Core.fIsNaN FP.fconst0 = false := by decide +kernel
section LC
variable {d : Nat} {w : mm_Z} {μ μ' : mm_M} {X : mm_X} {n : mm_N} {e m l k v b s x z r c i : Int}
theorem rlay_lt : ∀ k : Nat, rlay μ c k < k := by
  intro k
  induction k with
  | zero => show (-1 : Int) < _; omega
  | succ k ih =>
    unfold rlay
    split <;> omega
theorem J_lf (hJ : J μ) (he : 0 ≤ e ∧ e < 3) (hm : 0 ≤ m ∧ m < 6) : μ (mm_tr e + 4) m ≠ -1 ↔ μ 130 (6 * e + m) ≠ 0 ∧ sp_fc (rp μ e) m = -1 := by
  obtain ⟨t1, t2, t3, t4, t5, t6⟩ := hJ.1 e he.1 he.2
  have hL := (fo_Lin t1.1).2.1 m
  rw [t1.2.2.2.1 m hm.1 hm.2, ← ag_fc t4, ← J_there hJ he hm]
  by_cases z : m ∈ fo_L (μ (mm_tr e + 1))
  · rw [if_pos z]
    have := hL.mp z
    exact ⟨fun _ => ⟨this.1.2.2, this.2⟩, fun _ => by omega⟩
  · rw [if_neg z]
    exact ⟨fun q => absurd rfl q, fun q => absurd (hL.mpr ⟨⟨hm.1, hm.2, q.1⟩, q.2⟩) z⟩
theorem J_cleaf (hJ : J μ) (hc : 0 ≤ c ∧ c < 216) : cleaf μ (cc c) = rleaf μ c := by
  have b := fun e => rpart_b (e := e) hc.1 hc.2
  have l0 := J_lf hJ (e := 0) (by decide) (b 0)
  have l1 := J_lf hJ (e := 1) (by decide) (b 1)
  have l2 := J_lf hJ (e := 2) (by decide) (b 2)
  rw [show (6 : Int) * 0 + rpart c 0 = rpart c 0 by omega] at l0
  rw [show (6 : Int) * 1 + rpart c 1 = 6 + rpart c 1 by omega] at l1
  rw [show (6 : Int) * 2 + rpart c 2 = 12 + rpart c 2 by omega] at l2
  unfold cleaf rleaf
  refine decide_eq_decide.mpr ?_
  have h1 : cinner μ (cc c) = 3 ↔ (μ (mm_tr 0 + 4) (rpart c 0) ≠ -1 ∧ μ (mm_tr 1 + 4) (rpart c 1) ≠ -1 ∧ μ (mm_tr 2 + 4) (rpart c 2) ≠ -1) := by
    unfold cinner
    rw [cc_p hc.1 hc.2, cc_p hc.1 hc.2, cc_p hc.1 hc.2]
    (repeat' split) <;> omega
  have h2 : rinner μ c = -1 ↔ (sp_fc (rp μ 0) (rpart c 0) = -1 ∧ sp_fc (rp μ 1) (rpart c 1) = -1 ∧ sp_fc (rp μ 2) (rpart c 2) = -1) := by
    unfold rinner
    (repeat' split) <;> omega
  rw [h1, h2, l0, l1, l2]
  constructor
  · rintro ⟨⟨a, b⟩, ⟨c, d⟩, e, f⟩; exact ⟨a, c, e, b, d, f⟩
  · rintro ⟨a, c, e, b, d, f⟩; exact ⟨⟨a, b⟩, ⟨c, d⟩, e, f⟩
theorem J_cheld (hJ : J μ) (hl : 0 ≤ l ∧ l < μ 95 1) (hc : 0 ≤ c ∧ c < 216) : cheld μ l (cc c) = rheld μ l c := by
  unfold cheld rheld
  have h3 := (J_cg1 hJ).1
  rw [J_cleaf hJ hc, csee_lay hJ.2.2.1 hc _ (by omega)]
  congr 1
  refine decide_eq_decide.mpr ?_
  have hlt := rlay_lt (μ := μ) (c := c) (l + 1).toNat
  split
  · rename_i q
    have := (hJ.2.2.1.2.1 (216 * rlay μ c (l + 1).toNat + c) (by omega) (by omega)).2
    exact ⟨fun _ => q, fun _ => by omega⟩
  · rename_i q
    exact ⟨fun y => absurd rfl y, fun y => absurd y q⟩
theorem cn_le {P R : Int → Bool} (h : ∀ c, P c = true → R c = true) : ∀ k : Nat, cn P k ≤ cn R k := by
  intro k
  induction k with
  | zero => exact Int.le_refl _
  | succ k ih =>
    unfold cn
    by_cases p : P k = true
    · rw [if_pos p, if_pos (h _ p)]; omega
    · rw [if_neg p]
      split <;> omega
/-- a call whose answer is a float -/
def PRF (w : mm_Z) (X : mm_X) (n : mm_N) (D P1 : Nat) (as1 : List Value) (P2 : Nat) (as2 : List Value) (μ : mm_M) : Prop :=
  ∀ Q1 : am_Ou → am_G → Prop, (∀ (k : Int) (μ1 : mm_M) (X1 : mm_X) (n1 : mm_N), nr n n1 → (∀ Q2 : am_Ou → am_G → Prop, (∀ (x : UInt32) (μ2 : mm_M), J μ2 → μ2 129 0 = k → (mm_w k = 0 → Jvm.FP.Core.fIsNaN x = false ∧ μ2 179 0 = ((FP.f2d x).toNat : Int)) → Q2 (.inl (some (.float x))) (mm_hp w μ2 X1 n1)) → am_C D P2 as2 (mm_hp w μ1 X1 n1) Q2) → Q1 (.inl (some (.int (Int32.ofInt k)))) (mm_hp w μ1 X1 n1)) → am_C D P1 as1 (mm_hp w μ X n) Q1
theorem L_filled (hq : mm_Q w) (hJ : J μ) (hn : n0 n) (h1 : -2147483648 ≤ l) (h2 : l ≤ 2147483647) : PRF w X n (d + 200) 8 [.ref 32, .int (Int32.ofInt (l)), .ref 179] 178 [.ref 129, .int (Int32.ofInt (l))] μ := by
  intro Q1 hQ
  have hp := mm_QP hq
  rw [en_8 (d := d + 199), b_8_0 hq, c_34 (d := d + 195) hp (J_ct hJ) (J_cg1 hJ) h1 h2]
  by_cases a : 0 ≤ l ∧ l < μ 95 1
  · rw [if_neg (fun z => z a)]
    have e1 : cn (cheld μ l) 216 = cn (rheld μ l) 216 := cn_eq fun c c0 c1 => J_cheld hJ a ⟨c0, c1⟩
    have e2 : cn (cleaf μ) 216 = cn (rleaf μ) 216 := cn_eq fun c c0 c1 => J_cleaf hJ ⟨c0, c1⟩
    rw [e1, e2]
    have hle : cn (rheld μ l) 216 ≤ cn (rleaf μ) 216 := cn_le (fun c h => by unfold rheld at h; exact (Bool.and_eq_true_iff.mp h).1) 216
    have hb1 := cn_b (P := rheld μ l) 216
    have hb2 := cn_b (P := rleaf μ) 216
    generalize hA : cn (rheld μ l) 216 = A at *
    generalize hB : cn (rleaf μ) 216 = B at *
    have key : ∀ x : UInt32, Jvm.FP.Core.fIsNaN x = false → (∀ (Q2 : am_Ou → am_G → Prop) (M : mm_M), mm_shr Q2 w M X n A B ↔ Q2 (.inl (some (.float x))) (mm_hp w M X n)) → mm_shr (am_bk 8 4 [some (.ref 32), some (.int (Int32.ofInt (l))), some (.ref 179), none] [.int (Int32.ofInt (0)), .ref 179] (am_E (d + 199) 8 Q1) Q1) w μ X n A B := fun x hx hk => by
      rw [hk, bk_v, b_8_7 hq, if_pos (q_g64 hx), mm_w0]
      refine ⟨by decide, hQ 0 _ X n nr_r fun Q2 hQ2 => ?_⟩
      have hJo := J_o9 (k := 0) (v := ((FP.f2d x).toNat : Int)) hJ
      have c0 : ∀ a, a ≠ 129 → a ≠ 179 → rth (mm_u μ 179 0 ((FP.f2d x).toNat : Int)) 0 a = μ a := fun a b1 b2 => by rw [rth_row b1, mm_uu b2]
      have f1 : rleaf (rth (mm_u μ 179 0 ((FP.f2d x).toNat : Int)) 0) = rleaf μ := by
        unfold rleaf
        funext c
        rw [c0 130 (by decide) (by decide), rinner_c (c0 130 (by decide) (by decide)) (c0 131 (by decide) (by decide))]
      have f2 : rheld (rth (mm_u μ 179 0 ((FP.f2d x).toNat : Int)) 0) l = rheld μ l := by
        unfold rheld
        funext c
        rw [f1, rlay_c (c0 137 (by decide) (by decide))]
      rw [c_178 (d := d + 196) hp (J_rt hJo) (J_rg hJo) h1 h2, mm_uu (show (129 : Nat) ≠ 179 by decide), (J_jn hJ).1, if_neg (fun z => z a), f1, f2, hA, hB, hk]
      refine hQ2 x _ (J_th hJo) mm_us fun _ => ⟨hx, ?_⟩
      unfold rth
      rw [mm_uu (by decide), mm_us]
    by_cases z : B = 0
    · refine key FP.fconst0 q_0 fun Q2 M => ?_
      unfold mm_shr
      rw [if_pos z]
    · have hx := q_div (a := A) (b := B) hb1.1 (by omega) (by omega) (by omega)
      refine key _ hx fun Q2 M => ?_
      unfold mm_shr
      rw [if_neg z, if_pos (q_g32 hx)]
  · rw [if_pos a]
    refine ⟨n0_6 hn, ?_⟩
    rw [bk_h (hp := 12) (by decide +kernel), b_8_12 hq]
    refine hQ 1 _ X _ (nr_t hn) fun Q2 hQ2 => ?_
    rw [c_178 (d := d + 196) hp (J_rt hJ) (J_rg hJ) h1 h2, if_pos (by rw [(J_jn hJ).1]; exact a)]
    exact hQ2 _ _ (J_th hJ) mm_us (fun z => absurd z (by decide))
end LC
