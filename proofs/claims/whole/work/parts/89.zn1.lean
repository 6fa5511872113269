/-! The law's cases: a call of both sides, and what is compared. Written by program (wip/gen/genlaw.py). -/
def LQ : am_Ou → am_G → Prop := fun o _ => o = .inl (some (.int 1))
/-- behind the case the law goes on -/
def LH (w : mm_Z) (i : Int) (n : mm_N) : Prop := ∀ (e6 e7 : Option Value) (μ : mm_M) (X : mm_X) (n1 : mm_N), am_n2 e6 = true → am_n2 e7 = true → J μ → nr n n1 → am_E 299 0 LQ (1529, [some (.ref (0)), some (.ref (32)), some (.ref (129)), some (.ref (178)), some (.ref (179)), some (.int (Int32.ofInt (i))), e6, e7], [], mm_hp w μ X n1)
section LW
variable {w : mm_Z} {μ : mm_M} {X : mm_X} {n : mm_N} {e6 e7 : Option Value} {i z : Int}
theorem xs_b : -2147483648 ≤ mm_xs w z ∧ mm_xs w z ≤ 2147483647 := by
  unfold mm_xs
  have h1 := Int32.le_toInt (w.2.1 z.toNat)
  have h2 := Int32.toInt_lt (w.2.1 z.toNat)
  omega
theorem lw_bd {j : Int} (i0 : 0 ≤ i) (i1 : i + 4 ≤ w.1) (hw : w.1 ≤ 2048) (j0 : 0 ≤ j) (j1 : j < 4) : 0 ≤ mm_w (i + j) ∧ mm_w (i + j) < (w.1 : Int) := by
  rw [mm_wv (by omega) (by omega)]
  omega
theorem lw_th {d : Nat} {Q : am_Ou → am_G → Prop} (hq : mm_Q w) : am_C (d + 1) 236 [.ref 129] (mm_hp w μ X n) Q ↔ Q (.inl (some (.int (Int32.ofInt (μ 129 0))))) (mm_hp w μ X n) := by
  rw [en_236, b_236_0 (mm_QP hq)]

theorem W_member (hq : mm_Q w) (hJ : J μ) (hn : n0 n) (h6 : am_n2 e6 = true) (h7 : am_n2 e7 = true) (i0 : 0 ≤ i) (i1 : i + 4 ≤ w.1) (hw : w.1 ≤ 2048) (H : LH w i n) : am_C 299 11 [.ref 32, .int (Int32.ofInt (mm_xs w (mm_w (i + 1)))), .int (Int32.ofInt (mm_xs w (mm_w (i + 2)))), .int (Int32.ofInt (mm_xs w (mm_w (i + 3)))), .ref 178] (mm_hp w μ X n) (am_bk 0 176 [some (.ref (0)), some (.ref (32)), some (.ref (129)), some (.ref (178)), some (.ref (179)), some (.int (Int32.ofInt (i))), e6, e7] [] (am_E 299 0 LQ) LQ) := by
  have hC : PRI w X n (99 + 200) 11 [.ref 32, .int (Int32.ofInt (mm_xs w (mm_w (i + 1)))), .int (Int32.ofInt (mm_xs w (mm_w (i + 2)))), .int (Int32.ofInt (mm_xs w (mm_w (i + 3)))), .ref 178] 205 [.ref 129, .int (Int32.ofInt (mm_xs w (mm_w (i + 1)))), .int (Int32.ofInt (mm_xs w (mm_w (i + 2)))), .int (Int32.ofInt (mm_xs w (mm_w (i + 3))))] μ := L_member hq hJ hn xs_b.1 xs_b.2 xs_b.1 xs_b.2 xs_b.1 xs_b.2
  refine hC _ fun k μ1 X1 n1 hr hR => ?_
  rw [bk_v, b_0_179 hq h6 h7]
  refine ⟨lw_bd i0 i1 hw (by decide) (by decide), lw_bd i0 i1 hw (by decide) (by decide), lw_bd i0 i1 hw (by decide) (by decide), hR _ fun b μ2 hJ2 h0 hb => ?_⟩
  rw [bk_v, b_0_203 hq h7, lw_th (d := 298) hq, bk_v, b_0_209 hq, h0, if_pos rfl]
  by_cases z : mm_w k = 0
  · rw [if_pos (by rw [mm_eqx, z, mm_w0]), mm_w0, mm_gd (by decide), if_pos (by rw [hb z]), b_0_233 hq]
    exact H _ _ _ _ _ rfl rfl hJ2 hr
  · rw [if_neg (by rw [mm_eqx, mm_w0]; exact z), b_0_233 hq]
    exact H _ _ _ _ _ rfl rfl hJ2 hr

theorem W_move (hq : mm_Q w) (hJ : J μ) (hn : n0 n) (h6 : am_n2 e6 = true) (h7 : am_n2 e7 = true) (i0 : 0 ≤ i) (i1 : i + 4 ≤ w.1) (hw : w.1 ≤ 2048) (H : LH w i n) : am_C 299 12 [.ref 32, .int (Int32.ofInt (mm_xs w (mm_w (i + 1)))), .int (Int32.ofInt (mm_xs w (mm_w (i + 2)))), .int (Int32.ofInt (mm_xs w (mm_w (i + 3)))), .ref 178] (mm_hp w μ X n) (am_bk 0 256 [some (.ref (0)), some (.ref (32)), some (.ref (129)), some (.ref (178)), some (.ref (179)), some (.int (Int32.ofInt (i))), e6, e7] [] (am_E 299 0 LQ) LQ) := by
  have hC : PRI w X n (99 + 200) 12 [.ref 32, .int (Int32.ofInt (mm_xs w (mm_w (i + 1)))), .int (Int32.ofInt (mm_xs w (mm_w (i + 2)))), .int (Int32.ofInt (mm_xs w (mm_w (i + 3)))), .ref 178] 206 [.ref 129, .int (Int32.ofInt (mm_xs w (mm_w (i + 1)))), .int (Int32.ofInt (mm_xs w (mm_w (i + 2)))), .int (Int32.ofInt (mm_xs w (mm_w (i + 3))))] μ := L_move hq hJ hn xs_b.1 xs_b.2 xs_b.1 xs_b.2 xs_b.1 xs_b.2
  refine hC _ fun k μ1 X1 n1 hr hR => ?_
  rw [bk_v, b_0_259 hq h6 h7]
  refine ⟨lw_bd i0 i1 hw (by decide) (by decide), lw_bd i0 i1 hw (by decide) (by decide), lw_bd i0 i1 hw (by decide) (by decide), hR _ fun b μ2 hJ2 h0 hb => ?_⟩
  rw [bk_v, b_0_283 hq h7, lw_th (d := 298) hq, bk_v, b_0_289 hq, h0, if_pos rfl]
  by_cases z : mm_w k = 0
  · rw [if_pos (by rw [mm_eqx, z, mm_w0]), mm_w0, mm_gd (by decide), if_pos (by rw [hb z]), b_0_313 hq]
    exact H _ _ _ _ _ rfl rfl hJ2 hr
  · rw [if_neg (by rw [mm_eqx, mm_w0]; exact z), b_0_313 hq]
    exact H _ _ _ _ _ rfl rfl hJ2 hr

theorem W_drop (hq : mm_Q w) (hJ : J μ) (hn : n0 n) (h6 : am_n2 e6 = true) (h7 : am_n2 e7 = true) (i0 : 0 ≤ i) (i1 : i + 4 ≤ w.1) (hw : w.1 ≤ 2048) (H : LH w i n) : am_C 299 4 [.ref 32, .int (Int32.ofInt (mm_xs w (mm_w (i + 1)))), .int (Int32.ofInt (mm_xs w (mm_w (i + 2)))), .ref 178] (mm_hp w μ X n) (am_bk 0 330 [some (.ref (0)), some (.ref (32)), some (.ref (129)), some (.ref (178)), some (.ref (179)), some (.int (Int32.ofInt (i))), e6, e7] [] (am_E 299 0 LQ) LQ) := by
  have hC : PRI w X n (99 + 200) 4 [.ref 32, .int (Int32.ofInt (mm_xs w (mm_w (i + 1)))), .int (Int32.ofInt (mm_xs w (mm_w (i + 2)))), .ref 178] 169 [.ref 129, .int (Int32.ofInt (mm_xs w (mm_w (i + 1)))), .int (Int32.ofInt (mm_xs w (mm_w (i + 2))))] μ := L_drop hq hJ hn xs_b.1 xs_b.2 xs_b.1 xs_b.2
  refine hC _ fun k μ1 X1 n1 hr hR => ?_
  rw [bk_v, b_0_333 hq h6 h7]
  refine ⟨lw_bd i0 i1 hw (by decide) (by decide), lw_bd i0 i1 hw (by decide) (by decide), hR _ fun b μ2 hJ2 h0 hb => ?_⟩
  rw [bk_v, b_0_351 hq h7, lw_th (d := 298) hq, bk_v, b_0_357 hq, h0, if_pos rfl]
  by_cases z : mm_w k = 0
  · rw [if_pos (by rw [mm_eqx, z, mm_w0]), mm_w0, mm_gd (by decide), if_pos (by rw [hb z]), b_0_381 hq]
    exact H _ _ _ _ _ rfl rfl hJ2 hr
  · rw [if_neg (by rw [mm_eqx, mm_w0]; exact z), b_0_381 hq]
    exact H _ _ _ _ _ rfl rfl hJ2 hr

theorem W_at (hq : mm_Q w) (hJ : J μ) (hn : n0 n) (h6 : am_n2 e6 = true) (h7 : am_n2 e7 = true) (i0 : 0 ≤ i) (i1 : i + 4 ≤ w.1) (hw : w.1 ≤ 2048) (H : LH w i n) : am_C 299 2 [.ref 32, .int (Int32.ofInt (mm_xs w (mm_w (i + 1)))), .int (Int32.ofInt (mm_xs w (mm_w (i + 2)))), .ref 178] (mm_hp w μ X n) (am_bk 0 398 [some (.ref (0)), some (.ref (32)), some (.ref (129)), some (.ref (178)), some (.ref (179)), some (.int (Int32.ofInt (i))), e6, e7] [] (am_E 299 0 LQ) LQ) := by
  have hC : PRI w X n (99 + 200) 2 [.ref 32, .int (Int32.ofInt (mm_xs w (mm_w (i + 1)))), .int (Int32.ofInt (mm_xs w (mm_w (i + 2)))), .ref 178] 160 [.ref 129, .int (Int32.ofInt (mm_xs w (mm_w (i + 1)))), .int (Int32.ofInt (mm_xs w (mm_w (i + 2))))] μ := L_at hq hJ hn xs_b.1 xs_b.2 xs_b.1 xs_b.2
  refine hC _ fun k μ1 X1 n1 hr hR => ?_
  rw [bk_v, b_0_401 hq h6 h7]
  refine ⟨lw_bd i0 i1 hw (by decide) (by decide), lw_bd i0 i1 hw (by decide) (by decide), hR _ fun b μ2 hJ2 h0 hb => ?_⟩
  rw [bk_v, b_0_419 hq h7, lw_th (d := 298) hq, bk_v, b_0_425 hq, h0, if_pos rfl]
  by_cases z : mm_w k = 0
  · rw [if_pos (by rw [mm_eqx, z, mm_w0]), mm_w0, mm_gd (by decide), if_pos (by rw [hb z]), b_0_449 hq]
    exact H _ _ _ _ _ rfl rfl hJ2 hr
  · rw [if_neg (by rw [mm_eqx, mm_w0]; exact z), b_0_449 hq]
    exact H _ _ _ _ _ rfl rfl hJ2 hr

theorem W_pattern (hq : mm_Q w) (hJ : J μ) (hn : n0 n) (h6 : am_n2 e6 = true) (h7 : am_n2 e7 = true) (i0 : 0 ≤ i) (i1 : i + 4 ≤ w.1) (hw : w.1 ≤ 2048) (H : LH w i n) : am_C 299 13 [.ref 32, .int (Int32.ofInt (mm_xs w (mm_w (i + 1)))), .int (Int32.ofInt (mm_xs w (mm_w (i + 2)))), .int (Int32.ofInt (mm_xs w (mm_w (i + 3))))] (mm_hp w μ X n) (am_bk 0 471 [some (.ref (0)), some (.ref (32)), some (.ref (129)), some (.ref (178)), some (.ref (179)), some (.int (Int32.ofInt (i))), e6, e7] [] (am_E 299 0 LQ) LQ) := by
  have hC : PRV w X n (99 + 200) 13 [.ref 32, .int (Int32.ofInt (mm_xs w (mm_w (i + 1)))), .int (Int32.ofInt (mm_xs w (mm_w (i + 2)))), .int (Int32.ofInt (mm_xs w (mm_w (i + 3))))] 214 [.ref 129, .int (Int32.ofInt (mm_xs w (mm_w (i + 1)))), .int (Int32.ofInt (mm_xs w (mm_w (i + 2)))), .int (Int32.ofInt (mm_xs w (mm_w (i + 3))))] μ := L_pattern hq hJ hn xs_b.1 xs_b.2 xs_b.1 xs_b.2 xs_b.1 xs_b.2
  refine hC _ fun k μ1 X1 n1 hr hR => ?_
  rw [bk_v, b_0_474 hq h6 h7]
  refine ⟨lw_bd i0 i1 hw (by decide) (by decide), lw_bd i0 i1 hw (by decide) (by decide), lw_bd i0 i1 hw (by decide) (by decide), hR _ fun μ2 hJ2 h0 => ?_⟩
  rw [bk_n, b_0_498 hq h7, lw_th (d := 298) hq, bk_v, b_0_502 hq h7, h0, if_pos rfl]
  exact H _ _ _ _ _ rfl h7 hJ2 hr

theorem W_rule (hq : mm_Q w) (hJ : J μ) (hn : n0 n) (h6 : am_n2 e6 = true) (h7 : am_n2 e7 = true) (i0 : 0 ≤ i) (i1 : i + 4 ≤ w.1) (hw : w.1 ≤ 2048) (H : LH w i n) : am_C 299 16 [.ref 32, .ref 178] (mm_hp w μ X n) (am_bk 0 541 [some (.ref (0)), some (.ref (32)), some (.ref (129)), some (.ref (178)), some (.ref (179)), some (.int (Int32.ofInt (i))), e6, e7] [] (am_E 299 0 LQ) LQ) := by
  have hC : PRI w X n (99 + 200) 16 [.ref 32, .ref 178] 225 [.ref 129] μ := L_rule hq hJ hn 
  refine hC _ fun k μ1 X1 n1 hr hR => ?_
  rw [bk_v, b_0_544 hq h6 h7]
  refine hR _ fun b μ2 hJ2 h0 hb => ?_
  rw [bk_v, b_0_550 hq h7, lw_th (d := 298) hq, bk_v, b_0_556 hq, h0, if_pos rfl]
  by_cases z : mm_w k = 0
  · rw [if_pos (by rw [mm_eqx, z, mm_w0]), mm_w0, mm_gd (by decide), if_pos (by rw [hb z]), b_0_580 hq]
    exact H _ _ _ _ _ rfl rfl hJ2 hr
  · rw [if_neg (by rw [mm_eqx, mm_w0]; exact z), b_0_580 hq]
    exact H _ _ _ _ _ rfl rfl hJ2 hr

theorem W_dropRule (hq : mm_Q w) (hJ : J μ) (hn : n0 n) (h6 : am_n2 e6 = true) (h7 : am_n2 e7 = true) (i0 : 0 ≤ i) (i1 : i + 4 ≤ w.1) (hw : w.1 ≤ 2048) (H : LH w i n) : am_C 299 6 [.ref 32, .int (Int32.ofInt (mm_xs w (mm_w (i + 1)))), .ref 178] (mm_hp w μ X n) (am_bk 0 591 [some (.ref (0)), some (.ref (32)), some (.ref (129)), some (.ref (178)), some (.ref (179)), some (.int (Int32.ofInt (i))), e6, e7] [] (am_E 299 0 LQ) LQ) := by
  have hC : PRI w X n (99 + 200) 6 [.ref 32, .int (Int32.ofInt (mm_xs w (mm_w (i + 1)))), .ref 178] 171 [.ref 129, .int (Int32.ofInt (mm_xs w (mm_w (i + 1))))] μ := L_dropRule hq hJ hn xs_b.1 xs_b.2
  refine hC _ fun k μ1 X1 n1 hr hR => ?_
  rw [bk_v, b_0_594 hq h6 h7]
  refine ⟨lw_bd i0 i1 hw (by decide) (by decide), hR _ fun b μ2 hJ2 h0 hb => ?_⟩
  rw [bk_v, b_0_606 hq h7, lw_th (d := 298) hq, bk_v, b_0_612 hq, h0, if_pos rfl]
  by_cases z : mm_w k = 0
  · rw [if_pos (by rw [mm_eqx, z, mm_w0]), mm_w0, mm_gd (by decide), if_pos (by rw [hb z]), b_0_636 hq]
    exact H _ _ _ _ _ rfl rfl hJ2 hr
  · rw [if_neg (by rw [mm_eqx, mm_w0]; exact z), b_0_636 hq]
    exact H _ _ _ _ _ rfl rfl hJ2 hr

theorem W_put (hq : mm_Q w) (hJ : J μ) (hn : n0 n) (h6 : am_n2 e6 = true) (h7 : am_n2 e7 = true) (i0 : 0 ≤ i) (i1 : i + 4 ≤ w.1) (hw : w.1 ≤ 2048) (H : LH w i n) : am_C 299 14 [.ref 32, .int (Int32.ofInt (mm_xs w (mm_w (i + 1)))), .int (Int32.ofInt (mm_xs w (mm_w (i + 2))))] (mm_hp w μ X n) (am_bk 0 652 [some (.ref (0)), some (.ref (32)), some (.ref (129)), some (.ref (178)), some (.ref (179)), some (.int (Int32.ofInt (i))), e6, e7] [] (am_E 299 0 LQ) LQ) := by
  have hC : PRV w X n (99 + 200) 14 [.ref 32, .int (Int32.ofInt (mm_xs w (mm_w (i + 1)))), .int (Int32.ofInt (mm_xs w (mm_w (i + 2))))] 218 [.ref 129, .int (Int32.ofInt (mm_xs w (mm_w (i + 1)))), .int (Int32.ofInt (mm_xs w (mm_w (i + 2))))] μ := L_put hq hJ hn xs_b.1 xs_b.2 xs_b.1 xs_b.2
  refine hC _ fun k μ1 X1 n1 hr hR => ?_
  rw [bk_v, b_0_655 hq h6 h7]
  refine ⟨lw_bd i0 i1 hw (by decide) (by decide), lw_bd i0 i1 hw (by decide) (by decide), hR _ fun μ2 hJ2 h0 => ?_⟩
  rw [bk_n, b_0_673 hq h7, lw_th (d := 298) hq, bk_v, b_0_677 hq h7, h0, if_pos rfl]
  exact H _ _ _ _ _ rfl h7 hJ2 hr

theorem W_erase (hq : mm_Q w) (hJ : J μ) (hn : n0 n) (h6 : am_n2 e6 = true) (h7 : am_n2 e7 = true) (i0 : 0 ≤ i) (i1 : i + 4 ≤ w.1) (hw : w.1 ≤ 2048) (H : LH w i n) : am_C 299 7 [.ref 32, .int (Int32.ofInt (mm_xs w (mm_w (i + 1)))), .ref 178] (mm_hp w μ X n) (am_bk 0 695 [some (.ref (0)), some (.ref (32)), some (.ref (129)), some (.ref (178)), some (.ref (179)), some (.int (Int32.ofInt (i))), e6, e7] [] (am_E 299 0 LQ) LQ) := by
  have hC : PRB w X n (99 + 200) 7 [.ref 32, .int (Int32.ofInt (mm_xs w (mm_w (i + 1)))), .ref 178] 176 [.ref 129, .int (Int32.ofInt (mm_xs w (mm_w (i + 1))))] μ := L_erase hq hJ hn xs_b.1 xs_b.2
  refine hC _ fun k μ1 X1 n1 hr hR => ?_
  rw [bk_v, b_0_698 hq h6 h7]
  refine ⟨lw_bd i0 i1 hw (by decide) (by decide), hR _ fun b μ2 hJ2 hb01 h0 hb => ?_⟩
  rw [bk_v, b_0_710 hq h7, lw_th (d := 298) hq, bk_v, b_0_716 hq, h0, if_pos rfl]
  by_cases z : mm_w k = 0
  · rw [if_pos (by rw [mm_eqx, z, mm_w0]), mm_w0, mm_gd (by decide), hb z]
    rcases hb01 with rfl | rfl
    · rw [if_pos rfl, b_0_741 hq, if_pos rfl, b_0_747 hq]
      exact H _ _ _ _ _ rfl rfl hJ2 hr
    · rw [if_neg (by decide), b_0_741 hq, if_pos rfl, b_0_747 hq]
      exact H _ _ _ _ _ rfl rfl hJ2 hr
  · rw [if_neg (by rw [mm_eqx, mm_w0]; exact z), b_0_747 hq]
    exact H _ _ _ _ _ rfl rfl hJ2 hr

theorem W_state (hq : mm_Q w) (hJ : J μ) (hn : n0 n) (h6 : am_n2 e6 = true) (h7 : am_n2 e7 = true) (i0 : 0 ≤ i) (i1 : i + 4 ≤ w.1) (hw : w.1 ≤ 2048) (H : LH w i n) : am_C 299 19 [.ref 32, .int (Int32.ofInt (mm_xs w (mm_w (i + 1)))), .ref 178] (mm_hp w μ X n) (am_bk 0 758 [some (.ref (0)), some (.ref (32)), some (.ref (129)), some (.ref (178)), some (.ref (179)), some (.int (Int32.ofInt (i))), e6, e7] [] (am_E 299 0 LQ) LQ) := by
  have hC : PRI w X n (99 + 200) 19 [.ref 32, .int (Int32.ofInt (mm_xs w (mm_w (i + 1)))), .ref 178] 231 [.ref 129, .int (Int32.ofInt (mm_xs w (mm_w (i + 1))))] μ := L_state hq hJ hn xs_b.1 xs_b.2
  refine hC _ fun k μ1 X1 n1 hr hR => ?_
  rw [bk_v, b_0_761 hq h6 h7]
  refine ⟨lw_bd i0 i1 hw (by decide) (by decide), hR _ fun b μ2 hJ2 h0 hb => ?_⟩
  rw [bk_v, b_0_773 hq h7, lw_th (d := 298) hq, bk_v, b_0_779 hq, h0, if_pos rfl]
  by_cases z : mm_w k = 0
  · rw [if_pos (by rw [mm_eqx, z, mm_w0]), mm_w0, mm_gd (by decide), if_pos (by rw [hb z]), b_0_803 hq]
    exact H _ _ _ _ _ rfl rfl hJ2 hr
  · rw [if_neg (by rw [mm_eqx, mm_w0]; exact z), b_0_803 hq]
    exact H _ _ _ _ _ rfl rfl hJ2 hr

theorem W_value (hq : mm_Q w) (hJ : J μ) (hn : n0 n) (h6 : am_n2 e6 = true) (h7 : am_n2 e7 = true) (i0 : 0 ≤ i) (i1 : i + 4 ≤ w.1) (hw : w.1 ≤ 2048) (H : LH w i n) : am_C 299 21 [.ref 32, .int (Int32.ofInt (mm_xs w (mm_w (i + 1)))), .ref 178] (mm_hp w μ X n) (am_bk 0 814 [some (.ref (0)), some (.ref (32)), some (.ref (129)), some (.ref (178)), some (.ref (179)), some (.int (Int32.ofInt (i))), e6, e7] [] (am_E 299 0 LQ) LQ) := by
  have hC : PRI w X n (99 + 200) 21 [.ref 32, .int (Int32.ofInt (mm_xs w (mm_w (i + 1)))), .ref 178] 240 [.ref 129, .int (Int32.ofInt (mm_xs w (mm_w (i + 1))))] μ := L_value hq hJ hn xs_b.1 xs_b.2
  refine hC _ fun k μ1 X1 n1 hr hR => ?_
  rw [bk_v, b_0_817 hq h6 h7]
  refine ⟨lw_bd i0 i1 hw (by decide) (by decide), hR _ fun b μ2 hJ2 h0 hb => ?_⟩
  rw [bk_v, b_0_829 hq h7, lw_th (d := 298) hq, bk_v, b_0_835 hq, h0, if_pos rfl]
  by_cases z : mm_w k = 0
  · rw [if_pos (by rw [mm_eqx, z, mm_w0]), mm_w0, mm_gd (by decide), if_pos (by rw [hb z]), b_0_859 hq]
    exact H _ _ _ _ _ rfl rfl hJ2 hr
  · rw [if_neg (by rw [mm_eqx, mm_w0]; exact z), b_0_859 hq]
    exact H _ _ _ _ _ rfl rfl hJ2 hr

theorem W_shown (hq : mm_Q w) (hJ : J μ) (hn : n0 n) (h6 : am_n2 e6 = true) (h7 : am_n2 e7 = true) (i0 : 0 ≤ i) (i1 : i + 4 ≤ w.1) (hw : w.1 ≤ 2048) (H : LH w i n) (hz : w.2.2.1.category = 1) (hf : ∀ b, n.1 ≤ b → w.2.2.2 b = false) : am_C 299 17 [.ref 32, .int (Int32.ofInt (mm_xs w (mm_w (i + 1)))), .int (Int32.ofInt (mm_xs w (mm_w (i + 2)))), .ref 178] (mm_hp w μ X n) (am_bk 0 876 [some (.ref (0)), some (.ref (32)), some (.ref (129)), some (.ref (178)), some (.ref (179)), some (.int (Int32.ofInt (i))), e6, e7] [] (am_E 299 0 LQ) LQ) := by
  have hC : PRI w X n (99 + 200) 17 [.ref 32, .int (Int32.ofInt (mm_xs w (mm_w (i + 1)))), .int (Int32.ofInt (mm_xs w (mm_w (i + 2)))), .ref 178] 227 [.ref 129, .int (Int32.ofInt (mm_xs w (mm_w (i + 1)))), .int (Int32.ofInt (mm_xs w (mm_w (i + 2))))] μ := L_shown hq hz hf hJ hn xs_b.1 xs_b.2 xs_b.1 xs_b.2
  refine hC _ fun k μ1 X1 n1 hr hR => ?_
  rw [bk_v, b_0_879 hq h6 h7]
  refine ⟨lw_bd i0 i1 hw (by decide) (by decide), lw_bd i0 i1 hw (by decide) (by decide), hR _ fun b μ2 hJ2 h0 hb => ?_⟩
  rw [bk_v, b_0_897 hq h7, lw_th (d := 298) hq, bk_v, b_0_903 hq, h0, if_pos rfl]
  by_cases z : mm_w k = 0
  · rw [if_pos (by rw [mm_eqx, z, mm_w0]), mm_w0, mm_gd (by decide), if_pos (by rw [hb z]), b_0_927 hq]
    exact H _ _ _ _ _ rfl rfl hJ2 hr
  · rw [if_neg (by rw [mm_eqx, mm_w0]; exact z), b_0_927 hq]
    exact H _ _ _ _ _ rfl rfl hJ2 hr

theorem W_fuel (hq : mm_Q w) (hJ : J μ) (hn : n0 n) (h6 : am_n2 e6 = true) (h7 : am_n2 e7 = true) (i0 : 0 ≤ i) (i1 : i + 4 ≤ w.1) (hw : w.1 ≤ 2048) (H : LH w i n) : am_C 299 9 [.ref 32, .int (Int32.ofInt (mm_xs w (mm_w (i + 1)))), .ref 178] (mm_hp w μ X n) (am_bk 0 951 [some (.ref (0)), some (.ref (32)), some (.ref (129)), some (.ref (178)), some (.ref (179)), some (.int (Int32.ofInt (i))), e6, e7] [] (am_E 299 0 LQ) LQ) := by
  have hC : PRI w X n (99 + 200) 9 [.ref 32, .int (Int32.ofInt (mm_xs w (mm_w (i + 1)))), .ref 178] 184 [.ref 129, .int (Int32.ofInt (mm_xs w (mm_w (i + 1))))] μ := L_fuel hq hJ hn xs_b.1 xs_b.2
  refine hC _ fun k μ1 X1 n1 hr hR => ?_
  rw [bk_v, b_0_954 hq h6 h7]
  refine ⟨lw_bd i0 i1 hw (by decide) (by decide), hR _ fun b μ2 hJ2 h0 hb => ?_⟩
  rw [bk_v, b_0_966 hq h7, lw_th (d := 298) hq, bk_v, b_0_972 hq, h0, if_pos rfl]
  by_cases z : mm_w k = 0
  · rw [if_pos (by rw [mm_eqx, z, mm_w0]), mm_w0, mm_gd (by decide), if_pos (by rw [hb z]), b_0_996 hq]
    exact H _ _ _ _ _ rfl rfl hJ2 hr
  · rw [if_neg (by rw [mm_eqx, mm_w0]; exact z), b_0_996 hq]
    exact H _ _ _ _ _ rfl rfl hJ2 hr

theorem W_winner (hq : mm_Q w) (hJ : J μ) (hn : n0 n) (h6 : am_n2 e6 = true) (h7 : am_n2 e7 = true) (i0 : 0 ≤ i) (i1 : i + 4 ≤ w.1) (hw : w.1 ≤ 2048) (H : LH w i n) : am_C 299 22 [.ref 32, .ref 178] (mm_hp w μ X n) (am_bk 0 1001 [some (.ref (0)), some (.ref (32)), some (.ref (129)), some (.ref (178)), some (.ref (179)), some (.int (Int32.ofInt (i))), e6, e7] [] (am_E 299 0 LQ) LQ) := by
  have hC : PRI w X n (99 + 200) 22 [.ref 32, .ref 178] 242 [.ref 129] μ := L_winner hq hJ hn 
  refine hC _ fun k μ1 X1 n1 hr hR => ?_
  rw [bk_v, b_0_1004 hq h6 h7]
  refine hR _ fun b μ2 hJ2 h0 hb => ?_
  rw [bk_v, b_0_1010 hq h7, lw_th (d := 298) hq, bk_v, b_0_1016 hq, h0, if_pos rfl]
  by_cases z : mm_w k = 0
  · rw [if_pos (by rw [mm_eqx, z, mm_w0]), mm_w0, mm_gd (by decide), if_pos (by rw [hb z]), b_0_1040 hq]
    exact H _ _ _ _ _ rfl rfl hJ2 hr
  · rw [if_neg (by rw [mm_eqx, mm_w0]; exact z), b_0_1040 hq]
    exact H _ _ _ _ _ rfl rfl hJ2 hr

theorem W_layer (hq : mm_Q w) (hJ : J μ) (hn : n0 n) (h6 : am_n2 e6 = true) (h7 : am_n2 e7 = true) (i0 : 0 ≤ i) (i1 : i + 4 ≤ w.1) (hw : w.1 ≤ 2048) (H : LH w i n) : am_C 299 10 [.ref 32, .ref 178] (mm_hp w μ X n) (am_bk 0 1045 [some (.ref (0)), some (.ref (32)), some (.ref (129)), some (.ref (178)), some (.ref (179)), some (.int (Int32.ofInt (i))), e6, e7] [] (am_E 299 0 LQ) LQ) := by
  have hC : PRI w X n (99 + 200) 10 [.ref 32, .ref 178] 199 [.ref 129] μ := L_layer hq hJ hn 
  refine hC _ fun k μ1 X1 n1 hr hR => ?_
  rw [bk_v, b_0_1048 hq h6 h7]
  refine hR _ fun b μ2 hJ2 h0 hb => ?_
  rw [bk_v, b_0_1054 hq h7, lw_th (d := 298) hq, bk_v, b_0_1060 hq, h0, if_pos rfl]
  by_cases z : mm_w k = 0
  · rw [if_pos (by rw [mm_eqx, z, mm_w0]), mm_w0, mm_gd (by decide), if_pos (by rw [hb z]), b_0_1084 hq]
    exact H _ _ _ _ _ rfl rfl hJ2 hr
  · rw [if_neg (by rw [mm_eqx, mm_w0]; exact z), b_0_1084 hq]
    exact H _ _ _ _ _ rfl rfl hJ2 hr

theorem W_spread (hq : mm_Q w) (hJ : J μ) (hn : n0 n) (h6 : am_n2 e6 = true) (h7 : am_n2 e7 = true) (i0 : 0 ≤ i) (i1 : i + 4 ≤ w.1) (hw : w.1 ≤ 2048) (H : LH w i n) : am_C 299 18 [.ref 32, .int (Int32.ofInt (mm_xs w (mm_w (i + 1)))), .int (Int32.ofInt (mm_xs w (mm_w (i + 2)))), .ref 178] (mm_hp w μ X n) (am_bk 0 1173 [some (.ref (0)), some (.ref (32)), some (.ref (129)), some (.ref (178)), some (.ref (179)), some (.int (Int32.ofInt (i))), e6, e7] [] (am_E 299 0 LQ) LQ) := by
  have hC : PRI w X n (99 + 200) 18 [.ref 32, .int (Int32.ofInt (mm_xs w (mm_w (i + 1)))), .int (Int32.ofInt (mm_xs w (mm_w (i + 2)))), .ref 178] 229 [.ref 129, .int (Int32.ofInt (mm_xs w (mm_w (i + 1)))), .int (Int32.ofInt (mm_xs w (mm_w (i + 2))))] μ := L_spread hq hJ hn xs_b.1 xs_b.2 xs_b.1 xs_b.2
  refine hC _ fun k μ1 X1 n1 hr hR => ?_
  rw [bk_v, b_0_1176 hq h6 h7]
  refine ⟨lw_bd i0 i1 hw (by decide) (by decide), lw_bd i0 i1 hw (by decide) (by decide), hR _ fun b μ2 hJ2 h0 hb => ?_⟩
  rw [bk_v, b_0_1194 hq h7, lw_th (d := 298) hq, bk_v, b_0_1200 hq, h0, if_pos rfl]
  by_cases z : mm_w k = 0
  · rw [if_pos (by rw [mm_eqx, z, mm_w0]), mm_w0, mm_gd (by decide), if_pos (by rw [hb z]), b_0_1224 hq]
    exact H _ _ _ _ _ rfl rfl hJ2 hr
  · rw [if_neg (by rw [mm_eqx, mm_w0]; exact z), b_0_1224 hq]
    exact H _ _ _ _ _ rfl rfl hJ2 hr

theorem W_undo (hq : mm_Q w) (hJ : J μ) (hn : n0 n) (h6 : am_n2 e6 = true) (h7 : am_n2 e7 = true) (i0 : 0 ≤ i) (i1 : i + 4 ≤ w.1) (hw : w.1 ≤ 2048) (H : LH w i n) : am_C 299 20 [.ref 32, .ref 178] (mm_hp w μ X n) (am_bk 0 1229 [some (.ref (0)), some (.ref (32)), some (.ref (129)), some (.ref (178)), some (.ref (179)), some (.int (Int32.ofInt (i))), e6, e7] [] (am_E 299 0 LQ) LQ) := by
  have hC : PRI w X n (99 + 200) 20 [.ref 32, .ref 178] 239 [.ref 129] μ := L_undo hq hJ hn 
  refine hC _ fun k μ1 X1 n1 hr hR => ?_
  rw [bk_v, b_0_1232 hq h6 h7]
  refine hR _ fun b μ2 hJ2 h0 hb => ?_
  rw [bk_v, b_0_1238 hq h7, lw_th (d := 298) hq, bk_v, b_0_1244 hq, h0, if_pos rfl]
  by_cases z : mm_w k = 0
  · rw [if_pos (by rw [mm_eqx, z, mm_w0]), mm_w0, mm_gd (by decide), if_pos (by rw [hb z]), b_0_1268 hq]
    exact H _ _ _ _ _ rfl rfl hJ2 hr
  · rw [if_neg (by rw [mm_eqx, mm_w0]; exact z), b_0_1268 hq]
    exact H _ _ _ _ _ rfl rfl hJ2 hr

theorem W_redo (hq : mm_Q w) (hJ : J μ) (hn : n0 n) (h6 : am_n2 e6 = true) (h7 : am_n2 e7 = true) (i0 : 0 ≤ i) (i1 : i + 4 ≤ w.1) (hw : w.1 ≤ 2048) (H : LH w i n) : am_C 299 15 [.ref 32, .ref 178] (mm_hp w μ X n) (am_bk 0 1273 [some (.ref (0)), some (.ref (32)), some (.ref (129)), some (.ref (178)), some (.ref (179)), some (.int (Int32.ofInt (i))), e6, e7] [] (am_E 299 0 LQ) LQ) := by
  have hC : PRI w X n (99 + 200) 15 [.ref 32, .ref 178] 221 [.ref 129] μ := L_redo hq hJ hn 
  refine hC _ fun k μ1 X1 n1 hr hR => ?_
  rw [bk_v, b_0_1276 hq h6 h7]
  refine hR _ fun b μ2 hJ2 h0 hb => ?_
  rw [bk_v, b_0_1282 hq h7, lw_th (d := 298) hq, bk_v, b_0_1288 hq, h0, if_pos rfl]
  by_cases z : mm_w k = 0
  · rw [if_pos (by rw [mm_eqx, z, mm_w0]), mm_w0, mm_gd (by decide), if_pos (by rw [hb z]), b_0_1312 hq]
    exact H _ _ _ _ _ rfl rfl hJ2 hr
  · rw [if_neg (by rw [mm_eqx, mm_w0]; exact z), b_0_1312 hq]
    exact H _ _ _ _ _ rfl rfl hJ2 hr

theorem W_count (hq : mm_Q w) (hJ : J μ) (hn : n0 n) (h6 : am_n2 e6 = true) (h7 : am_n2 e7 = true) (i0 : 0 ≤ i) (i1 : i + 4 ≤ w.1) (hw : w.1 ≤ 2048) (H : LH w i n) : am_C 299 3 [.ref 32, .int (Int32.ofInt (mm_xs w (mm_w (i + 1)))), .ref 178] (mm_hp w μ X n) (am_bk 0 1323 [some (.ref (0)), some (.ref (32)), some (.ref (129)), some (.ref (178)), some (.ref (179)), some (.int (Int32.ofInt (i))), e6, e7] [] (am_E 299 0 LQ) LQ) := by
  have hC : PRI w X n (99 + 200) 3 [.ref 32, .int (Int32.ofInt (mm_xs w (mm_w (i + 1)))), .ref 178] 166 [.ref 129, .int (Int32.ofInt (mm_xs w (mm_w (i + 1))))] μ := L_count hq hJ hn xs_b.1 xs_b.2
  refine hC _ fun k μ1 X1 n1 hr hR => ?_
  rw [bk_v, b_0_1326 hq h6 h7]
  refine ⟨lw_bd i0 i1 hw (by decide) (by decide), hR _ fun b μ2 hJ2 h0 hb => ?_⟩
  rw [bk_v, b_0_1338 hq h7, lw_th (d := 298) hq, bk_v, b_0_1344 hq, h0, if_pos rfl]
  by_cases z : mm_w k = 0
  · rw [if_pos (by rw [mm_eqx, z, mm_w0]), mm_w0, mm_gd (by decide), if_pos (by rw [hb z]), b_0_1368 hq]
    exact H _ _ _ _ _ rfl rfl hJ2 hr
  · rw [if_neg (by rw [mm_eqx, mm_w0]; exact z), b_0_1368 hq]
    exact H _ _ _ _ _ rfl rfl hJ2 hr

theorem W_about (hq : mm_Q w) (hJ : J μ) (hn : n0 n) (h6 : am_n2 e6 = true) (h7 : am_n2 e7 = true) (i0 : 0 ≤ i) (i1 : i + 4 ≤ w.1) (hw : w.1 ≤ 2048) (H : LH w i n) : am_C 299 1 [.ref 32, .int (Int32.ofInt (mm_xs w (mm_w (i + 1)))), .int (Int32.ofInt (mm_xs w (mm_w (i + 2)))), .int (Int32.ofInt (mm_xs w (mm_w (i + 3)))), .ref 178] (mm_hp w μ X n) (am_bk 0 1391 [some (.ref (0)), some (.ref (32)), some (.ref (129)), some (.ref (178)), some (.ref (179)), some (.int (Int32.ofInt (i))), e6, e7] [] (am_E 299 0 LQ) LQ) := by
  have hC : PRI w X n (99 + 200) 1 [.ref 32, .int (Int32.ofInt (mm_xs w (mm_w (i + 1)))), .int (Int32.ofInt (mm_xs w (mm_w (i + 2)))), .int (Int32.ofInt (mm_xs w (mm_w (i + 3)))), .ref 178] 157 [.ref 129, .int (Int32.ofInt (mm_xs w (mm_w (i + 1)))), .int (Int32.ofInt (mm_xs w (mm_w (i + 2)))), .int (Int32.ofInt (mm_xs w (mm_w (i + 3))))] μ := L_about hq hJ hn xs_b.1 xs_b.2 xs_b.1 xs_b.2 xs_b.1 xs_b.2
  refine hC _ fun k μ1 X1 n1 hr hR => ?_
  rw [bk_v, b_0_1394 hq h6 h7]
  refine ⟨lw_bd i0 i1 hw (by decide) (by decide), lw_bd i0 i1 hw (by decide) (by decide), lw_bd i0 i1 hw (by decide) (by decide), hR _ fun b μ2 hJ2 h0 hb => ?_⟩
  rw [bk_v, b_0_1418 hq h7, lw_th (d := 298) hq, bk_v, b_0_1424 hq, h0, if_pos rfl]
  by_cases z : mm_w k = 0
  · rw [if_pos (by rw [mm_eqx, z, mm_w0]), mm_w0, mm_gd (by decide), if_pos (by rw [hb z]), b_0_1448 hq]
    exact H _ _ _ _ _ rfl rfl hJ2 hr
  · rw [if_neg (by rw [mm_eqx, mm_w0]; exact z), b_0_1448 hq]
    exact H _ _ _ _ _ rfl rfl hJ2 hr

theorem W_filled (hq : mm_Q w) (hJ : J μ) (hn : n0 n) (h6 : am_n2 e6 = true) (h7 : am_n2 e7 = true) (i0 : 0 ≤ i) (i1 : i + 4 ≤ w.1) (hw : w.1 ≤ 2048) (H : LH w i n) : am_C 299 8 [.ref 32, .int (Int32.ofInt (mm_xs w (mm_w (i + 1)))), .ref 179] (mm_hp w μ X n) (am_bk 0 1460 [some (.ref (0)), some (.ref (32)), some (.ref (129)), some (.ref (178)), some (.ref (179)), some (.int (Int32.ofInt (i))), e6, e7] [] (am_E 299 0 LQ) LQ) := by
  have hC : PRF w X n (99 + 200) 8 [.ref 32, .int (Int32.ofInt (mm_xs w (mm_w (i + 1)))), .ref 179] 178 [.ref 129, .int (Int32.ofInt (mm_xs w (mm_w (i + 1))))] μ := L_filled hq hJ hn xs_b.1 xs_b.2
  refine hC _ fun k μ1 X1 n1 hr hR => ?_
  rw [bk_v, b_0_1463 hq h6 h7]
  refine ⟨lw_bd i0 i1 hw (by decide) (by decide), hR _ fun x μ2 hJ2 h0 hb => ?_⟩
  rw [bk_v, b_0_1475 hq h7, lw_th (d := 298) hq, bk_v, b_0_1481 hq, h0, if_pos rfl]
  by_cases z : mm_w k = 0
  · obtain ⟨c1, c2⟩ := hb z
    have c3 : UInt64.ofNat (μ2 179 0).toNat = FP.f2d x := by rw [c2, Int.toNat_natCast, UInt64.ofNat_toNat]
    rw [if_pos (by rw [mm_eqx, z, mm_w0]), mm_w0, mm_gd (by decide), if_pos (q_g64 c1), c3, if_pos (by rw [q_cmp c1]; rfl), b_0_1526 hq]
    exact H _ _ _ _ _ rfl rfl hJ2 hr
  · rw [if_neg (by rw [mm_eqx, mm_w0]; exact z), b_0_1526 hq]
    exact H _ _ _ _ _ rfl rfl hJ2 hr

theorem W_type (hq : mm_Q w) (hJ : J μ) (hn : n0 n) (h6 : am_n2 e6 = true) (h7 : am_n2 e7 = true) (i0 : 0 ≤ i) (i1 : i + 4 ≤ w.1) (hw : w.1 ≤ 2048) (H : LH w i n) : am_C 299 47 [.ref 32, .int (Int32.ofInt (mm_ch (mm_xs w (mm_w (i + 1)))))] (mm_hp w μ X n) (am_bk 0 520 [some (.ref (0)), some (.ref (32)), some (.ref (129)), some (.ref (178)), some (.ref (179)), some (.int (Int32.ofInt (i))), e6, e7] [] (am_E 299 0 LQ) LQ) := by
  refine L_type (d := 99) hq hJ mm_ch_b _ fun v μ1 hR => ?_
  rw [bk_v, b_0_523 hq h6 h7]
  refine ⟨lw_bd i0 i1 hw (by decide) (by decide), hR _ fun μ2 hJ2 => ?_⟩
  rw [bk_v, b_0_534 hq h6 h7, if_pos rfl]
  exact H _ _ _ _ _ h6 h7 hJ2 nr_r

theorem W_steps (hq : mm_Q w) (hJ : J μ) (hn : n0 n) (h6 : am_n2 e6 = true) (h7 : am_n2 e7 = true) (i0 : 0 ≤ i) (i1 : i + 4 ≤ w.1) (hw : w.1 ≤ 2048) (H : LH w i n) : am_C 299 46 [.ref 32] (mm_hp w μ X n) (am_bk 0 931 [some (.ref (0)), some (.ref (32)), some (.ref (129)), some (.ref (178)), some (.ref (179)), some (.int (Int32.ofInt (i))), e6, e7] [] (am_E 299 0 LQ) LQ) := by
  rw [en_46 (d := 298), b_46_0 (mm_QP hq), bk_v, b_0_934 hq h6 h7, en_232 (d := 298), b_232_0 (mm_QP hq), bk_v, b_0_938 hq h6 h7, mm_un (by decide), (J_jn hJ).2.2.2.1, if_pos rfl]
  exact H _ _ _ _ _ h6 h7 (J_th hJ) nr_r

theorem W_dropLayer (hq : mm_Q w) (hJ : J μ) (hn : n0 n) (h6 : am_n2 e6 = true) (h7 : am_n2 e7 = true) (i0 : 0 ≤ i) (i1 : i + 4 ≤ w.1) (hw : w.1 ≤ 2048) (H : LH w i n) {b : Int} (hb : b = 0 ∨ b = 1) (hc : (Int32.ofInt (mm_xs w (mm_w (i + 1))) = Int32.ofInt 0) = (b = 0)) : am_E 299 0 LQ (1102, [some (.ref (0)), some (.ref (32)), some (.ref (129)), some (.ref (178)), some (.ref (179)), some (.int (Int32.ofInt (i))), e6, e7], [.int (Int32.ofInt b), .ref 32], mm_hp w μ X n) := by
  have hC : PRI w X n (99 + 200) 5 [.ref 32, .int (Int32.ofInt b), .ref 178] 170 [.ref 129, .int (Int32.ofInt b)] μ := L_dropLayer hq hJ hn hb
  rw [b_0_1102 hq h6 h7]
  refine hC _ fun k μ1 X1 n1 hr hR => ?_
  have go : am_C 299 170 [.ref 129, .int (Int32.ofInt b)] (mm_hp w μ1 X1 n1) (am_bk 0 1123 [some (.ref (0)), some (.ref (32)), some (.ref (129)), some (.ref (178)), some (.ref (179)), some (.int (Int32.ofInt (i))), some (.int (Int32.ofInt k)), e7] [] (am_E 299 0 LQ) LQ) := by
    refine hR _ fun b μ2 hJ2 h0 hb => ?_
    rw [bk_v, b_0_1126 hq h7, lw_th (d := 298) hq, bk_v, b_0_1132 hq, h0, if_pos rfl]
    by_cases z : mm_w k = 0
    · rw [if_pos (by rw [mm_eqx, z, mm_w0]), mm_w0, mm_gd (by decide), if_pos (by rw [hb z]), b_0_1156 hq]
      exact H _ _ _ _ _ rfl rfl hJ2 hr
    · rw [if_neg (by rw [mm_eqx, mm_w0]; exact z), b_0_1156 hq]
      exact H _ _ _ _ _ rfl rfl hJ2 hr
  rw [bk_v, b_0_1106 hq h6 h7]
  refine ⟨lw_bd i0 i1 hw (by decide) (by decide), ?_⟩
  rcases hb with rfl | rfl
  · rw [if_pos (by rw [hc]), b_0_1123 hq h7]
    exact go
  · rw [if_neg (by rw [hc]; decide), b_0_1123 hq h7]
    exact go

theorem lw_head (hq : mm_Q w) (hz : w.2.2.1.category = 1) (hf : ∀ b, n.1 ≤ b → w.2.2.2 b = false) (hJ : J μ) (hn : n0 n) (h6 : am_n2 e6 = true) (h7 : am_n2 e7 = true) (i0 : 0 ≤ i) (i1 : i + 4 ≤ w.1) (hw : w.1 ≤ 2048) (H : LH w i n) : am_E 299 0 LQ (28, [some (.ref (0)), some (.ref (32)), some (.ref (129)), some (.ref (178)), some (.ref (179)), some (.int (Int32.ofInt (i))), e6, e7], [], mm_hp w μ X n) := by
  rw [b_0_28 hq h6 h7, if_neg (by rw [mm_ltx, mm_wv (by omega) (by omega), mm_wv (by omega) (by omega)]; omega)]
  refine ⟨by have := lw_bd (j := 0) i0 i1 hw (by decide) (by decide); rwa [Int.add_zero] at this, ?_⟩
  generalize mm_w (mm_an (mm_xs w (mm_w i)) 31) = op
  by_cases p0 : op = 0
  · rw [if_pos p0]
    exact ⟨lw_bd i0 i1 hw (by decide) (by decide), lw_bd i0 i1 hw (by decide) (by decide), lw_bd i0 i1 hw (by decide) (by decide), W_member hq hJ hn h6 h7 i0 i1 hw H⟩
  rw [if_neg p0]
  by_cases p1 : op = 1
  · rw [if_pos p1]
    exact ⟨lw_bd i0 i1 hw (by decide) (by decide), lw_bd i0 i1 hw (by decide) (by decide), lw_bd i0 i1 hw (by decide) (by decide), W_move hq hJ hn h6 h7 i0 i1 hw H⟩
  rw [if_neg p1]
  by_cases p2 : op = 2
  · rw [if_pos p2]
    exact ⟨lw_bd i0 i1 hw (by decide) (by decide), lw_bd i0 i1 hw (by decide) (by decide), W_drop hq hJ hn h6 h7 i0 i1 hw H⟩
  rw [if_neg p2]
  by_cases p3 : op = 3
  · rw [if_pos p3]
    exact ⟨lw_bd i0 i1 hw (by decide) (by decide), lw_bd i0 i1 hw (by decide) (by decide), W_at hq hJ hn h6 h7 i0 i1 hw H⟩
  rw [if_neg p3]
  by_cases p4 : op = 4
  · rw [if_pos p4]
    exact ⟨lw_bd i0 i1 hw (by decide) (by decide), lw_bd i0 i1 hw (by decide) (by decide), lw_bd i0 i1 hw (by decide) (by decide), W_pattern hq hJ hn h6 h7 i0 i1 hw H⟩
  rw [if_neg p4]
  by_cases p5 : op = 5
  · rw [if_pos p5]
    exact ⟨lw_bd i0 i1 hw (by decide) (by decide), W_type hq hJ hn h6 h7 i0 i1 hw H⟩
  rw [if_neg p5]
  by_cases p6 : op = 6
  · rw [if_pos p6]
    exact W_rule hq hJ hn h6 h7 i0 i1 hw H
  rw [if_neg p6]
  by_cases p7 : op = 7
  · rw [if_pos p7]
    exact ⟨lw_bd i0 i1 hw (by decide) (by decide), W_dropRule hq hJ hn h6 h7 i0 i1 hw H⟩
  rw [if_neg p7]
  by_cases p8 : op = 8
  · rw [if_pos p8]
    exact ⟨lw_bd i0 i1 hw (by decide) (by decide), lw_bd i0 i1 hw (by decide) (by decide), W_put hq hJ hn h6 h7 i0 i1 hw H⟩
  rw [if_neg p8]
  by_cases p9 : op = 9
  · rw [if_pos p9]
    exact ⟨lw_bd i0 i1 hw (by decide) (by decide), W_erase hq hJ hn h6 h7 i0 i1 hw H⟩
  rw [if_neg p9]
  by_cases p10 : op = 10
  · rw [if_pos p10]
    exact ⟨lw_bd i0 i1 hw (by decide) (by decide), W_state hq hJ hn h6 h7 i0 i1 hw H⟩
  rw [if_neg p10]
  by_cases p11 : op = 11
  · rw [if_pos p11]
    exact ⟨lw_bd i0 i1 hw (by decide) (by decide), W_value hq hJ hn h6 h7 i0 i1 hw H⟩
  rw [if_neg p11]
  by_cases p12 : op = 12
  · rw [if_pos p12]
    exact ⟨lw_bd i0 i1 hw (by decide) (by decide), lw_bd i0 i1 hw (by decide) (by decide), W_shown hq hJ hn h6 h7 i0 i1 hw H hz hf⟩
  rw [if_neg p12]
  by_cases p13 : op = 13
  · rw [if_pos p13]
    exact W_steps hq hJ hn h6 h7 i0 i1 hw H
  rw [if_neg p13]
  by_cases p14 : op = 14
  · rw [if_pos p14]
    exact ⟨lw_bd i0 i1 hw (by decide) (by decide), W_fuel hq hJ hn h6 h7 i0 i1 hw H⟩
  rw [if_neg p14]
  by_cases p15 : op = 15
  · rw [if_pos p15]
    exact W_winner hq hJ hn h6 h7 i0 i1 hw H
  rw [if_neg p15]
  by_cases p16 : op = 16
  · rw [if_pos p16]
    exact W_layer hq hJ hn h6 h7 i0 i1 hw H
  rw [if_neg p16]
  by_cases p17 : op = 17
  · rw [if_pos p17]
    refine ⟨lw_bd i0 i1 hw (by decide) (by decide), ?_⟩
    by_cases z : Int32.ofInt (mm_xs w (mm_w (i + 1))) = Int32.ofInt 0
    · rw [if_pos z]
      exact W_dropLayer hq hJ hn h6 h7 i0 i1 hw H (Or.inl rfl) (propext ⟨fun _ => rfl, fun _ => z⟩)
    · rw [if_neg z]
      exact W_dropLayer hq hJ hn h6 h7 i0 i1 hw H (Or.inr rfl) (propext ⟨fun q => absurd q z, fun q => absurd q (by decide)⟩)
  rw [if_neg p17]
  by_cases p18 : op = 18
  · rw [if_pos p18]
    exact ⟨lw_bd i0 i1 hw (by decide) (by decide), lw_bd i0 i1 hw (by decide) (by decide), W_spread hq hJ hn h6 h7 i0 i1 hw H⟩
  rw [if_neg p18]
  by_cases p19 : op = 19
  · rw [if_pos p19]
    exact W_undo hq hJ hn h6 h7 i0 i1 hw H
  rw [if_neg p19]
  by_cases p20 : op = 20
  · rw [if_pos p20]
    exact W_redo hq hJ hn h6 h7 i0 i1 hw H
  rw [if_neg p20]
  by_cases p21 : op = 21
  · rw [if_pos p21]
    exact ⟨lw_bd i0 i1 hw (by decide) (by decide), W_count hq hJ hn h6 h7 i0 i1 hw H⟩
  rw [if_neg p21]
  by_cases p22 : op = 22
  · rw [if_pos p22]
    exact ⟨lw_bd i0 i1 hw (by decide) (by decide), lw_bd i0 i1 hw (by decide) (by decide), lw_bd i0 i1 hw (by decide) (by decide), W_about hq hJ hn h6 h7 i0 i1 hw H⟩
  rw [if_neg p22]
  by_cases p23 : op = 23
  · rw [if_pos p23]
    exact ⟨lw_bd i0 i1 hw (by decide) (by decide), W_filled hq hJ hn h6 h7 i0 i1 hw H⟩
  rw [if_neg p23]
  exact H _ _ _ _ _ h6 h7 hJ nr_r

theorem lw_loop (hq : mm_Q w) (hz : w.2.2.1.category = 1) (hw : w.1 ≤ 2048) : ∀ (r : Nat) (i : Int) (e6 e7 : Option Value) (μ : mm_M) (X : mm_X) (n : mm_N), (∀ b, n.1 ≤ b → w.2.2.2 b = false) → J μ → 180 ≤ n.1 → 2 * r ≤ n.2.1 → 20 * r ≤ n.2.2 → am_n2 e6 = true → am_n2 e7 = true → 0 ≤ i → i ≤ w.1 → (w.1 : Int) - i < 4 * ((r : Int) + 1) → am_E 299 0 LQ (28, [some (.ref (0)), some (.ref (32)), some (.ref (129)), some (.ref (178)), some (.ref (179)), some (.int (Int32.ofInt (i))), e6, e7], [], mm_hp w μ X n) := by
  intro r
  induction r with
  | zero =>
    intro i e6 e7 μ X n hf hJ n1 n2 n3 h6 h7 i0 i1 i2
    rw [b_0_28 hq h6 h7, if_pos (by rw [mm_ltx, mm_wv (by omega) (by omega), mm_wv (by omega) (by omega)]; omega)]
    exact rfl
  | succ r ih =>
    intro i e6 e7 μ X n hf hJ n1 n2 n3 h6 h7 i0 i1 i2
    by_cases q : (w.1 : Int) - 4 < i
    · rw [b_0_28 hq h6 h7, if_pos (by rw [mm_ltx, mm_wv (by omega) (by omega), mm_wv (by omega) (by omega)]; omega)]
      exact rfl
    · refine lw_head hq hz hf hJ ⟨n1, by omega, by omega⟩ h6 h7 i0 (by omega) hw fun e6 e7 μ2 X2 n4 h6 h7 hJ2 hr => ?_
      obtain ⟨r1, r2, r3⟩ := hr
      rw [b_0_1529 hq h6 h7]
      exact ih (i + 4) e6 e7 μ2 X2 n4 (fun b hb => hf b (by omega)) hJ2 (by omega) (by omega) (by omega) h6 h7 (by omega) (by omega) (by omega)
end LW
