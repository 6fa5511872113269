/-! The reference's reader: a sign is taken as the machine does. -/
/-- what the reader may change -/
def rd_F2 (R : Int) (μ μ' : mm_M) : Prop := ∀ (a : Nat) (j : Int), ¬ ((a = 129 ∧ (j = 25 ∨ j = 31 ∨ j = 33 ∨ j = 34 ∨ j = 35 ∨ j = 36)) ∨ ((a = 141 ∨ a = 145) ∧ j = R) ∨ ((a = 142 ∨ a = 143 ∨ a = 144) ∧ 64 * R ≤ j ∧ j < 64 * R + 64) ∨ ((a = 146 ∨ a = 147) ∧ 24 * R ≤ j ∧ j < 24 * R + 24) ∨ (151 ≤ a ∧ a ≤ 156)) → μ' a j = μ a j
/-- the memory holds the machine's state -/
def rd_RM (R : Int) (μ : mm_M) (σ : rd_T) : Prop := rd_RQ μ σ.1 ∧ rd_RX μ σ.2.1 ∧ rd_RL μ σ.2.2.1 ∧ rd_RC R μ σ.2.2.2.1 ∧ rd_RS R μ σ.2.2.2.2 ∧ (σ.1.1 = 2 → μ 146 (24 * R + σ.2.2.2.2.1) = σ.1.2.2.2.2)
section RR
variable {d : Nat} {Q : am_Ou → am_G → Prop} {w : mm_Z} {μ μ' μ0 : mm_M} {X : mm_X} {n : mm_N} {C C' : rd_C} {S S' : rd_S} {a b c o e z R base least : Int} {L : List rd_X} {l : List Int} {x : rd_X} {q : rd_Q} {k : Nat} {σ : rd_T}
theorem rd_F2_r : rd_F2 R μ μ := fun _ _ _ => rfl
theorem rd_F2_t {μ1 μ2 μ3 : mm_M} (h1 : rd_F2 R μ1 μ2) (h2 : rd_F2 R μ2 μ3) : rd_F2 R μ1 μ3 := fun a j h => by rw [h2 a j h, h1 a j h]
theorem rd_F2_1 (h : rd_F1 R μ μ') : rd_F2 R μ μ' := fun a j hb => h a j (by omega)
theorem rd_F2_u {a : Nat} {i v : Int} (h : rd_F2 R μ μ') (ha : (a = 129 ∧ (i = 25 ∨ i = 31 ∨ i = 33 ∨ i = 34 ∨ i = 35 ∨ i = 36)) ∨ ((a = 141 ∨ a = 145) ∧ i = R) ∨ ((a = 142 ∨ a = 143 ∨ a = 144) ∧ 64 * R ≤ i ∧ i < 64 * R + 64) ∨ ((a = 146 ∨ a = 147) ∧ 24 * R ≤ i ∧ i < 24 * R + 24) ∨ (151 ≤ a ∧ a ≤ 156)) : rd_F2 R μ (mm_u μ' a i v) := fun b j hb => by
  rw [mm_ux, if_neg (fun z => by rw [z.1, z.2] at hb; exact hb ha), h b j hb]
theorem rd_opn_F (h : rd_F2 R μ μ') {k : Int} : rd_F2 R μ (rd_opn μ' k e o) := by
  unfold rd_opn
  exact rd_F2_u (rd_F2_u (rd_F2_u (rd_F2_u (rd_F2_u (rd_F2_u h (by omega)) (by omega)) (by omega)) (by omega)) (by omega)) (by omega)
/-- other fields of the reader leave its lists as they are -/
theorem rd_9 {j v : Int} (h25 : j ≠ 25) (h31 : j ≠ 31) (hX : rd_RX μ L) (hL : rd_RL μ l) (hC : rd_RC R μ C) (hS : rd_RS R μ S) : rd_RX (mm_u μ 129 j v) L ∧ rd_RL (mm_u μ 129 j v) l ∧ rd_RC R (mm_u μ 129 j v) C ∧ rd_RS R (mm_u μ 129 j v) S := by
  refine ⟨⟨by rw [mm_un (Ne.symm h25)]; exact hX.1, rd_cx_f (fun a j a1 a2 _ _ => by rw [mm_uu (by omega)]) hX.2⟩, ⟨by rw [mm_un (Ne.symm h31)]; exact hL.1, rd_os_f (fun j _ _ => by rw [mm_uu (by decide)]) hL.2⟩, rd_RC_9 hC, ?_⟩
  unfold rd_RS
  rw [mm_uu (by decide), mm_uu (by decide), mm_uu (by decide)]
  exact hS
theorem rd_top_X (hX : rd_RX μ L) (hb : rd_bt L) : ∃ x Y, L = x :: Y ∧ μ 129 25 = (Y.length : Int) + 1 ∧ μ 151 Y.length = x.1 ∧ μ 152 Y.length = x.2.1 ∧ μ 153 Y.length = x.2.2.1 ∧ μ 154 Y.length = x.2.2.2.1 ∧ μ 155 Y.length = x.2.2.2.2 := by
  obtain ⟨x, Y, rfl⟩ := rd_bt_ne hb
  refine ⟨x, Y, rfl, by rw [hX.1]; simp, hX.2.1⟩
theorem c_162 (hq : mm_P w) (h0 : 0 ≤ R ∧ R < 8) (hR : μ 129 11 = R) (hc : 0 ≤ c ∧ c ≤ 65535) (hM : rd_RM R μ (rd_q0, L, l, C, S)) (hI : rd_RI k (rd_q0, L, l, C, S)) (hk : k ≤ 23)
    (hQ0 : rd_beg L l C S c = none → ∀ μ', rd_F2 R μ μ' → Q (.inl (some (.int (Int32.ofInt (0))))) (mm_hp w (μ') X n)) (hQ1 : ∀ σ', rd_beg L l C S c = some σ' → ∀ μ', rd_F2 R μ μ' → rd_RM R μ' σ' → Q (.inl (some (.int (Int32.ofInt (1))))) (mm_hp w (μ') X n)) : am_C (d + 2) 162 [.ref 129, .int (Int32.ofInt (c))] (mm_hp w μ X n) Q := by
  obtain ⟨m1, m2, m3, m4, m5, m6⟩ := hM
  dsimp only at m1 m2 m3 m4 m5 m6
  obtain ⟨i1, i2, i3, i4, i5, i6⟩ := hI
  dsimp only at i1 i2 i3 i4 i5 i6
  obtain ⟨x, Y, rfl, t25, t51, t52, t53, t54, t55⟩ := rd_top_X m2 i1
  have hY : Y.length + 1 ≤ 24 := by rw [List.length_cons] at i3; omega
  have hx0 := i2 x List.mem_cons_self
  have hSl : S.1 ≤ 23 := by have : S.1 + 0 ≤ k := i5; omega
  have h45 : μ 145 R = S.1 := m5.1
  rw [en_162 (d := d + 1), b_162_0 hq, c_191 (d := d) hq hc, bk_v, b_162_4 hq]
  unfold rd_beg at hQ0 hQ1
  by_cases a : rd_dg c
  · rw [rd_if1 a] at hQ1
    rw [if_pos (show 48 ≤ c ∧ c ≤ 57 from a), if_neg (by decide)]
    have g1 := rd_9 (j := 33) (v := 1) (by decide) (by decide) m2 m3 m4 m5
    have g2 := rd_9 (j := 34) (v := 1) (by decide) (by decide) g1.1 g1.2.1 g1.2.2.1 g1.2.2.2
    have g3 := rd_9 (j := 35) (v := c - 48) (by decide) (by decide) g2.1 g2.2.1 g2.2.2.1 g2.2.2.2
    refine hQ1 _ rfl _ (rd_F2_u (rd_F2_u (rd_F2_u rd_F2_r (by omega)) (by omega)) (by omega)) ⟨⟨?_, ⟨show (0 : Int) ≤ 1 by decide, show (1 : Int) ≤ 4 by decide⟩, fun _ => ⟨?_, mm_us, show (1 : Int) ≤ 1 by decide, show (1 : Int) ≤ 5 by decide⟩, fun z => ?_⟩, g3.1, g3.2.1, g3.2.2.1, g3.2.2.2, fun z => ?_⟩
    · rw [mm_un (by decide), mm_un (by decide), mm_us]; rfl
    · rw [mm_un (by decide), mm_us]; rfl
    · rcases z with z | z
      · exact absurd z (show ¬ (1 : Int) = 2 by decide)
      · exact absurd z (show ¬ (1 : Int) = 3 by decide)
    · exact absurd z (show ¬ (1 : Int) = 2 by decide)
  · rw [rd_if0 a] at hQ0 hQ1
    rw [if_neg (show ¬ (48 ≤ c ∧ c ≤ 57) from a), if_pos rfl, c_195 (d := d) hq hc, bk_v, b_162_31 hq]
    by_cases g : rd_lt c
    · rw [rd_if1 g] at hQ1
      rw [if_pos (show c = 120 ∨ c = 121 ∨ c = 122 from g), if_neg (by decide)]
      simp (disch := omega) only [and_self, true_and, mm_ltx, mm_lex, mm_eqx, mm_wv, mm_gd, ↓reduceIte, Int.reduceAdd, Int.reduceSub, Int.reduceNeg, Int.reduceLE, Int.reduceLT, Int.reduceMul, Int.reduceEq, mm_un (show (11 : Int) ≠ 33 by decide), mm_un (show (11 : Int) ≠ 36 by decide), mm_uu (show (145 : Nat) ≠ 129 by decide), hR, h45]
      have g1 := rd_9 (j := 33) (v := 2) (by decide) (by decide) m2 m3 m4 m5
      have g2 := rd_9 (j := 36) (v := (S.1 : Int)) (by decide) (by decide) g1.1 g1.2.1 g1.2.2.1 g1.2.2.2
      refine hQ1 _ rfl _ (rd_F2_u (rd_F2_u (rd_F2_u rd_F2_r (by omega)) (by omega)) (by omega)) ⟨⟨?_, ⟨show (0 : Int) ≤ 2 by decide, show (2 : Int) ≤ 4 by decide⟩, fun z => absurd z (show ¬ (2 : Int) = 1 by decide), fun _ => ?_⟩, ⟨by rw [mm_uu (by decide)]; exact g2.1.1, rd_cx_f (fun a j a1 a2 _ _ => by rw [mm_uu (by omega)]) g2.1.2⟩, ⟨by rw [mm_uu (by decide)]; exact g2.2.1.1, rd_os_f (fun j _ _ => by rw [mm_uu (by decide)]) g2.2.1.2⟩, ?_, ⟨by rw [mm_uu (by decide)]; exact g2.2.2.2.1, fun j hj => ?_⟩, fun _ => mm_us⟩
      · rw [mm_uu (by decide), mm_un (by decide), mm_us]
      · rw [mm_uu (by decide), mm_us]
      · unfold rd_RC
        rw [mm_uu (show (141 : Nat) ≠ 146 by decide), mm_uu (show (142 : Nat) ≠ 146 by decide), mm_uu (show (143 : Nat) ≠ 146 by decide), mm_uu (show (144 : Nat) ≠ 146 by decide)]
        exact g2.2.2.1
      · have hj : j < S.1 := hj
        rw [mm_un (by omega), mm_uu (show (147 : Nat) ≠ 146 by decide)]
        exact g2.2.2.2.2 j hj
    · rw [rd_if0 g] at hQ0 hQ1
      rw [if_neg (show ¬ (c = 120 ∨ c = 121 ∨ c = 122) from g), if_pos rfl]
      by_cases b : c = 40
      · rw [if_pos (by rw [b]), t25, show (Y.length : Int) + 1 - 1 = Y.length by omega, mm_wv (z := (Y.length : Int)) (by omega) (by omega), mm_gd (by omega), t52]
        have hx2 := hx0.2.1
        by_cases f : x.2.1 < 3
        · rw [rd_if1 (c := c = 40 ∧ (rd_top (x :: Y)).2.1 < 3) ⟨b, f⟩] at hQ1
          rw [if_neg (by rw [mm_lex, mm_wv (by omega) (by omega), mm_wv (by omega) (by omega)]; omega), mm_gd (by omega), c_211 (d := d) hq (by omega), bk_n, b_162_120 hq]
          have hX := rd_opn_X (k := 1) (e := x.2.1 + 1) (o := 0) m2
          rw [m3.1] at hX
          refine hQ1 _ rfl _ (rd_opn_F rd_F2_r) ⟨⟨by rw [rd_opn_9 (by decide)]; exact m1.1, m1.2.1, fun z => absurd z (show ¬ (0 : Int) = 1 by decide), fun z => ?_⟩, hX, ⟨by rw [rd_opn_9 (by decide)]; exact m3.1, rd_os_f (fun j _ _ => by rw [rd_opn_o (by decide) (by decide)]) m3.2⟩, ?_, ?_, fun z => absurd z (show ¬ (0 : Int) = 2 by decide)⟩
          · rcases z with z | z
            · exact absurd z (show ¬ (0 : Int) = 2 by decide)
            · exact absurd z (show ¬ (0 : Int) = 3 by decide)
          · unfold rd_RC
            rw [rd_opn_o (by decide) (by decide), rd_opn_o (by decide) (by decide), rd_opn_o (by decide) (by decide), rd_opn_o (by decide) (by decide)]
            exact m4
          · unfold rd_RS
            rw [rd_opn_o (by decide) (by decide), rd_opn_o (by decide) (by decide), rd_opn_o (by decide) (by decide)]
            exact m5
        · rw [rd_if0 (c := c = 40 ∧ (rd_top (x :: Y)).2.1 < 3) (fun z => f z.2)] at hQ0
          rw [if_pos (by rw [mm_lex, mm_wv (by omega) (by omega), mm_wv (by omega) (by omega)]; omega)]
          exact hQ0 rfl μ rd_F2_r
      · rw [rd_if0 (fun z => b z.1)] at hQ0
        rw [if_neg (by rw [mm_eqx, mm_wv (by omega) (by omega), mm_wv (by omega) (by omega)]; exact b)]
        exact hQ0 rfl μ rd_F2_r
end RR
