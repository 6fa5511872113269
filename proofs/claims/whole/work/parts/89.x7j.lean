/-! Calls of both sides: pattern, type, steps. -/
section LC
variable {d : Nat} {Q : am_Ou → am_G → Prop} {w : mm_Z} {μ : mm_M} {X : mm_X} {n : mm_N} {e m l k v b x : Int}
theorem L_pattern (hq : mm_Q w) (hJ : J μ) (hn : n0 n) (h1 : -2147483648 ≤ e) (h2 : e ≤ 2147483647) (k1 : -2147483648 ≤ k) (k2 : k ≤ 2147483647) (g1 : -2147483648 ≤ m) (g2 : m ≤ 2147483647) : PRV w X n (d + 200) 13 [.ref 32, .int (Int32.ofInt (e)), .int (Int32.ofInt (k)), .int (Int32.ofInt (m))] 214 [.ref 129, .int (Int32.ofInt (e)), .int (Int32.ofInt (k)), .int (Int32.ofInt (m))] μ := by
  intro Q1 hQ
  have hp := mm_QP hq
  rw [en_13 (d := d + 199), b_13_0 hq, c_39 (d := d + 196) hp (J_ct hJ) h1 h2 k1 k2 g1 g2]
  have hiff : ((0 ≤ e ∧ e < 3) ∧ ((k = 1 ∨ k = 2) → 0 ≤ e ∧ e < 3 ∧ 0 ≤ m ∧ m < 6 ∧ μ (mm_tr e + 1) m ≠ -2)) ↔ ((0 ≤ e ∧ e < 3) ∧ ((k = 1 ∨ k = 2) → 0 ≤ m ∧ m < 6 ∧ μ 130 (6 * e + m) ≠ 0)) :=
    ⟨fun z => ⟨z.1, fun y => ⟨(z.2 y).2.2.1, (z.2 y).2.2.2.1, (J_there hJ z.1 ⟨(z.2 y).2.2.1, (z.2 y).2.2.2.1⟩).mp (z.2 y).2.2.2.2⟩⟩, fun z => ⟨z.1, fun y => ⟨z.1.1, z.1.2, (z.2 y).1, (z.2 y).2.1, (J_there hJ z.1 ⟨(z.2 y).1, (z.2 y).2.1⟩).mpr (z.2 y).2.2⟩⟩⟩
  by_cases a : (0 ≤ e ∧ e < 3) ∧ ((k = 1 ∨ k = 2) → 0 ≤ e ∧ e < 3 ∧ 0 ≤ m ∧ m < 6 ∧ μ (mm_tr e + 1) m ≠ -2)
  · rw [if_neg (fun z => z a)]
    by_cases c : 0 ≤ k ∧ k ≤ 2
    · rw [if_neg (fun z => z c), bk_n, b_13_7 hq]
      refine hQ 0 _ X n nr_r fun Q2 hQ2 => ?_
      have hrt : rt_a (mm_u (mm_u μ 103 e k) 104 e (if k = 0 then 0 else m)) := fun e e0 e1 m m0 m1 => by
        rw [mm_uu (by decide), mm_uu (by decide), mm_uu (by decide), mm_uu (by decide)]
        exact J_rt hJ e e0 e1 m m0 m1
      rw [c_214 (d := d + 197) hp hrt h1 h2 g1 g2 k1 k2, mm_uu (show (130 : Nat) ≠ 104 by decide), mm_uu (show (130 : Nat) ≠ 103 by decide), if_neg (fun z => z (hiff.mp a)), if_neg (fun z => z c)]
      have rpe : ∀ e', rp (mm_u (mm_u (rth (mm_u (mm_u μ 103 e k) 104 e (if k = 0 then 0 else m)) 0) 148 e k) 149 e m) e' = rp μ e' := fun e' => by
        unfold rth
        exact rp_c (by rw [mm_uu (by decide), mm_uu (by decide), mm_uu (by decide), mm_uu (by decide), mm_uu (by decide)]) (by rw [mm_uu (by decide), mm_uu (by decide), mm_uu (by decide), mm_uu (by decide), mm_uu (by decide)])
      refine hQ2 _ (J_mk [103, 104, 148, 149] [0] (fun b b1 b2 b3 => ?_) (fun j hj => ?_) hJ (Or.inl (by decide)) (Or.inl (by decide)) (Or.inl (by decide)) (Or.inl (by decide)) (Or.inl (by decide)) (Or.inl (by decide)) (Or.inr ⟨?_, fun e' e0 e1 => ?_⟩) (Or.inl (by decide)) (Or.inl (by decide)) (Or.inl (by decide)) (Or.inl (by decide)) (Or.inl (by decide))) ?_
      · simp only [List.mem_cons, List.not_mem_nil, or_false, not_or] at b3
        unfold rth
        rw [mm_uu b3.2.2.2, mm_uu b3.2.2.1, mm_uu b2, mm_uu b3.2.1, mm_uu b3.1]
      · simp only [List.mem_cons, List.not_mem_nil, or_false] at hj
        unfold rth
        rw [mm_uu (by decide), mm_uu (by decide), mm_un hj, mm_uu (by decide), mm_uu (by decide)]
      · unfold rth
        rw [mm_uu (by decide), mm_uu (by decide), mm_uu (by decide), mm_uu (by decide), mm_uu (by decide)]
        exact (J_jd hJ).1
      · rw [rpe]
        unfold rth
        rw [mm_uu (show (103 : Nat) ≠ 149 by decide), mm_uu (show (103 : Nat) ≠ 148 by decide), mm_uu (show (103 : Nat) ≠ 129 by decide), mm_uu (show (103 : Nat) ≠ 104 by decide), mm_uu (show (104 : Nat) ≠ 149 by decide), mm_uu (show (104 : Nat) ≠ 148 by decide), mm_uu (show (104 : Nat) ≠ 129 by decide), mm_uu (show (148 : Nat) ≠ 149 by decide)]
        have hd := (J_jd hJ).2 e' e0 e1
        by_cases z : e' = e
        · subst z
          rw [mm_us, mm_us, mm_us, mm_us]
          by_cases k0 : k = 0
          · rw [if_pos k0]
            exact ⟨c, by decide, rfl, ⟨g1, g2⟩, fun y => absurd k0 y⟩
          · rw [if_neg k0]
            have := (a.2 (by omega)).2.2
            refine ⟨c, ⟨this.1, by omega⟩, rfl, ⟨g1, g2⟩, fun _ => ⟨rfl, ?_⟩⟩
            exact (rp_th (J_rt hJ e' e0 e1) this.1 this.2.1).mpr ((J_there hJ ⟨e0, e1⟩ ⟨this.1, this.2.1⟩).mp this.2.2)
        · rw [mm_un z, mm_un z, mm_un z, mm_un z, mm_uu (show (104 : Nat) ≠ 103 by decide), mm_uu (show (148 : Nat) ≠ 129 by decide), mm_uu (show (148 : Nat) ≠ 104 by decide), mm_uu (show (148 : Nat) ≠ 103 by decide), mm_uu (show (149 : Nat) ≠ 148 by decide), mm_uu (show (149 : Nat) ≠ 129 by decide), mm_uu (show (149 : Nat) ≠ 104 by decide), mm_uu (show (149 : Nat) ≠ 103 by decide)]
          exact hd
      · unfold rth
        rw [mm_uu (by decide), mm_uu (by decide), mm_us]
    · rw [if_pos c]
      refine ⟨n0_6 hn, ?_⟩
      rw [bk_h (hp := 14) (by decide +kernel), b_13_14 hq]
      refine hQ 2 _ X _ (nr_t hn) fun Q2 hQ2 => ?_
      rw [c_214 (d := d + 197) hp (J_rt hJ) h1 h2 g1 g2 k1 k2, if_neg (fun z => z (hiff.mp a)), if_pos c]
      exact hQ2 _ (J_th hJ) mm_us
  · rw [if_pos a]
    refine ⟨n0_6 hn, ?_⟩
    rw [bk_h (hp := 10) (by decide +kernel), b_13_10 hq]
    refine hQ 1 _ X _ (nr_t hn) fun Q2 hQ2 => ?_
    rw [c_214 (d := d + 197) hp (J_rt hJ) h1 h2 g1 g2 k1 k2, if_pos (fun z => a (hiff.mpr z))]
    exact hQ2 _ (J_th hJ) mm_us
theorem mm_c16v (h0 : 0 ≤ x) (h1 : x ≤ 65535) : mm_c16 x = x := by
  have h : ((Int32.ofInt x).toUInt32 % 65536).toInt32 = Int32.ofInt x := of_decide_eq_true (mm_okc1 h0 h1)
  unfold mm_c16
  rw [show vp_nar .char (Int32.ofInt x) = ((Int32.ofInt x).toUInt32 % 65536).toInt32 from rfl, h]
  exact mm_wv (by omega) (by omega)
theorem mm_ch_b : 0 ≤ mm_ch x ∧ mm_ch x ≤ 65535 := by
  unfold mm_ch
  generalize (Int32.ofInt x).toUInt32 = u
  have h1 : (u % 65536).toNat < 65536 := by
    rw [UInt32.toNat_mod]
    exact Nat.mod_lt _ (by decide)
  have h2 : (u % 65536).toInt32.toInt = ((u % 65536).toNat : Int) := by
    generalize u % 65536 = y at h1
    show y.toBitVec.toInt = (y.toNat : Int)
    exact BitVec.toInt_eq_toNat_of_lt (by show 2 * y.toNat < 2 ^ 32; omega)
  rw [h2]
  omega
theorem c_91 (hq : mm_P w) (hx : 0 ≤ x ∧ x ≤ 65535) (hl : 0 ≤ μ 100 1 ∧ μ 100 1 ≤ 24) (hno : ¬ sg_any x → Q (.inl (some (.int (Int32.ofInt (0))))) (mm_hp w μ X n)) (hfu : sg_any x → μ 100 1 = 24 → Q (.inl (some (.int (Int32.ofInt (0))))) (mm_hp w μ X n)) (hok : sg_any x → μ 100 1 ≠ 24 → Q (.inl (some (.int (Int32.ofInt (1))))) (mm_hp w (mm_u (mm_u μ 101 (μ 100 1) x) 100 1 (μ 100 1 + 1)) X n)) : am_C (d + 5) 91 [.ref 100, .int (Int32.ofInt (x))] (mm_hp w μ X n) Q := by
  obtain ⟨r, r1, r2, r3⟩ := c_277_2 (w := w) (μ := μ) (X := X) (n := n) hq hx
  rw [en_91 (d := d + 4), b_91_0 hq, r3 d, bk_v, b_91_6 hq]
  by_cases a : sg_any x
  · have := r2.mpr a
    rw [if_neg (by rw [mm_ltx, mm_wv (by omega) (by omega), mm_wv (by omega) (by omega)]; omega)]
    by_cases f : μ 100 1 = 24
    · rw [if_neg (by rw [mm_ltx, mm_wv (by omega) (by omega), mm_wv (by omega) (by omega)]; omega)]; exact hfu a f
    · rw [if_pos (by rw [mm_ltx, mm_wv (by omega) (by omega), mm_wv (by omega) (by omega)]; omega), mm_wv (by omega) (by omega), mm_gd (by omega), mm_c16v hx.1 hx.2, mm_uu (show (100 : Nat) ≠ 101 by decide)]
      exact hok a f
  · have : ¬ 0 ≤ r := fun z => a (r2.mp z)
    rw [if_pos (by rw [mm_ltx, mm_wv (by omega) (by omega), mm_wv (by omega) (by omega)]; omega)]; exact hno a
/-- type of both sides -/
theorem L_type (hq : mm_Q w) (hJ : J μ) (hx : 0 ≤ x ∧ x ≤ 65535) (Q1 : am_Ou → am_G → Prop) (hQ : ∀ (v : Int) (μ1 : mm_M), (∀ Q2 : am_Ou → am_G → Prop, (∀ μ2, J μ2 → Q2 (.inl (some (.int (Int32.ofInt (v))))) (mm_hp w μ2 X n)) → am_C (d + 200) 237 [.ref 129, .int (Int32.ofInt (x))] (mm_hp w μ1 X n) Q2) → Q1 (.inl (some (.int (Int32.ofInt (v))))) (mm_hp w μ1 X n)) : am_C (d + 200) 47 [.ref 32, .int (Int32.ofInt (x))] (mm_hp w μ X n) Q1 := by
  have hp := mm_QP hq
  have hx' := J_jx hJ
  rw [en_47 (d := d + 199), b_47_0 hp]
  have h23 : 0 ≤ μ 129 23 ∧ μ 129 23 ≤ 24 := by rw [hx'.1]; exact hx'.2.1
  refine c_91 (d := d + 194) hp hx hx'.2.1 (fun a => ?_) (fun a f => ?_) (fun a f => ?_)
  · rw [bk_v, b_47_8 hp, if_pos (by decide)]
    refine hQ 0 μ fun Q2 hQ2 => ?_
    refine c_237 (d := d + 198) hp hx h23 (fun _ => hQ2 _ (J_th hJ)) (fun z => absurd z a) (fun z => absurd z a)
  · rw [bk_v, b_47_8 hp, if_pos (by decide)]
    refine hQ 0 μ fun Q2 hQ2 => ?_
    refine c_237 (d := d + 198) hp hx h23 (fun z => absurd a z) (fun _ _ => hQ2 _ (J_th hJ)) (fun _ z => absurd (by rw [hx'.1]; exact f) z)
  · rw [bk_v, b_47_8 hp, if_pos (by decide)]
    refine hQ 1 _ fun Q2 hQ2 => ?_
    have e9 : mm_u (mm_u μ 101 (μ 100 1) x) 100 1 (μ 100 1 + 1) 129 = μ 129 := by rw [mm_uu (by decide), mm_uu (by decide)]
    refine c_237 (d := d + 198) hp hx (by rw [e9]; exact h23) (fun z => absurd a z) (fun _ z => absurd (by rw [e9, hx'.1] at z; exact z) f) (fun _ _ => hQ2 _ ?_)
    rw [e9, mm_c16v hx.1 hx.2, hx'.1]
    refine J_mk [100, 101, 150] [0, 23] (fun b b1 b2 b3 => ?_) (fun j hj => ?_) hJ (Or.inl (by decide)) (Or.inl (by decide)) (Or.inl (by decide)) (Or.inl (by decide)) (Or.inl (by decide)) (Or.inl (by decide)) (Or.inl (by decide)) (Or.inr ?_) (Or.inl (by decide)) (Or.inl (by decide)) (Or.inl (by decide)) (Or.inl (by decide))
    · simp only [List.mem_cons, List.not_mem_nil, or_false, not_or] at b3
      rw [mm_uu b2, mm_uu b3.2.2, mm_uu b2, mm_uu b3.1, mm_uu b3.2.1]
    · simp only [List.mem_cons, List.not_mem_nil, or_false, not_or] at hj
      rw [mm_un hj.2, mm_uu (by decide), mm_un hj.1, e9]
    · unfold J_x
      rw [mm_us, mm_uu (show (100 : Nat) ≠ 129 by decide), mm_uu (show (100 : Nat) ≠ 150 by decide), mm_uu (show (100 : Nat) ≠ 129 by decide), mm_us, mm_uu (show (150 : Nat) ≠ 129 by decide), mm_uu (show (101 : Nat) ≠ 129 by decide), mm_uu (show (101 : Nat) ≠ 150 by decide), mm_uu (show (101 : Nat) ≠ 129 by decide), mm_uu (show (101 : Nat) ≠ 100 by decide)]
      have hx2 := hx'.2.1
      refine ⟨rfl, by omega, fun i i0 i1 => ?_⟩
      by_cases z : i = μ 100 1
      · rw [z, mm_us, mm_us]
        exact ⟨rfl, hx⟩
      · rw [mm_un z, mm_un z, mm_uu (by decide), mm_uu (by decide), mm_uu (by decide)]
        exact hx'.2.2 i i0 (by omega)
end LC
