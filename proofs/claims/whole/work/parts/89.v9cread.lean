/-! The class's reader: units, products, sums, formulas. -/
/-- the method P reads as A does -/
def rd_KP (w : mm_Z) (X : mm_X) (n : mm_N) (T : Nat → Int) (N D0 P : Nat) (e : Int) (A : rd_E) : Prop := ∀ (D : Nat) (μ : mm_M) (Q : am_Ou → am_G → Prop) (p : Nat) (C : rd_C) (S : rd_S), D0 ≤ D → rd_st T N μ p C S → (∀ μ', rd_fr μ μ' → rd_out T N μ' (A p C S) → Q (.inl (some (.int (Int32.ofInt (if (A p C S).1 = true then 1 else 0))))) (mm_hp w (μ') X n)) → am_C D P [.ref 127, .int (Int32.ofInt (e))] (mm_hp w μ X n) Q
section CR
variable {d : Nat} {Q : am_Ou → am_G → Prop} {w : mm_Z} {μ μ' μ0 : mm_M} {X : mm_X} {n : mm_N} {T : Nat → Int} {N p : Nat} {C C' : rd_C} {S S' S0 : rd_S} {a b c o k e z m : Int} {E : Option rd_E} {U : rd_E}
theorem rd_st_bd (h : rd_st T N μ p C S) : rd_bd T N μ p := by
  obtain ⟨h1, h2, h3, h4, h5⟩ := h
  have := rd_lay_0 h4
  have h11 := h1.1
  have h41 := h4.1
  exact ⟨h1, h2, h3, by omega, by omega⟩
theorem rd_out_bd {r : rd_P} (h : rd_out T N μ r) : rd_bd T N μ r.2.1 := by
  cases g : r.1 with
  | true => exact rd_st_bd (h.1 g)
  | false => exact h.2 g
theorem rd_out_f {r : rd_P} {C : rd_C × rd_S} (h : rd_bd T N μ p) : rd_out T N μ (false, p, C) := ⟨fun z => Bool.noConfusion z, fun _ => h⟩
theorem rd_lay_f (h : rd_lay μ C S) (h2 : μ' 102 = μ 102) (h5 : μ' 105 = μ 105) (h6 : μ' 106 = μ 106) : rd_lay μ' C S := ⟨by rw [h2]; exact h.1, fun i hi => by
  have := h.2 i hi
  unfold rd_le at this ⊢
  rw [h5, h6]
  exact this⟩
/-- one sign on -/
theorem rd_st_1 (h : rd_st T N μ p C S) (hp : p < N) : rd_st T N (mm_u μ 127 2 ((p : Int) + 1)) (p + 1) C S := by
  obtain ⟨h1, h2, h3, h4, h5⟩ := h
  exact ⟨rd_tx_f h1 (rd_fr_u rd_fr_r (by decide)), by rw [mm_us]; omega, hp, rd_lay_f h4 (mm_uu (by decide)) (mm_uu (by decide)) (mm_uu (by decide)), by omega⟩
theorem rd_bl (h : Bool) {α : Type} {x y : α} : (h = true → (if h = true then x else y) = x) ∧ (h = false → (if h = true then x else y) = y) := ⟨fun g => if_pos g, fun g => if_neg (by rw [g]; exact Bool.noConfusion)⟩
theorem rd_KP_u {D0 : Nat} (hq : mm_P w) (hN : N ≤ 24) (hE : (E = none ∧ e = 3) ∨ ∃ E', E = some E' ∧ (0 ≤ e ∧ e < 3) ∧ rd_KP w X n T N D0 101 (e + 1) E') (h6 : 6 ≤ D0 + 2) : rd_KP w X n T N (D0 + 2) 106 e (rd_unt T N E) := by
  intro D μ Q p C S hD hst hQ
  obtain ⟨D, rfl⟩ : ∃ k, D = k + 6 := ⟨D - 6, by omega⟩
  have hst' := hst
  obtain ⟨h1, h2, h3, h4, h5⟩ := hst
  have hb := rd_ch_b (p := p) h1
  rw [en_106 (d := D + 5), b_106_0 hq, c_99 (d := D + 3) hq h1 h2 (by omega), bk_v, b_106_4 hq, c_96 (d := D + 4) hq hb, bk_v, b_106_9 hq]
  unfold rd_unt at hQ
  by_cases a : rd_dg (rd_ch T N p)
  · rw [rd_if1 a] at hQ ⊢
    rw [if_neg (by decide)]
    refine c_102 (d := D + 2) hq hst' a fun μ' hf hs => ?_
    rw [bk_n, b_106_16 hq]
    exact hQ μ' hf ⟨fun _ => hs, fun z => Bool.noConfusion z⟩
  · rw [rd_if0 a] at hQ ⊢
    rw [if_pos rfl]
    by_cases b : rd_ch T N p = 40
    · rw [rd_if1 b] at hQ
      have hp : p < N := by
        by_cases g : p < N
        · exact g
        · rw [rd_ch0 (by omega)] at b; exact absurd b (by decide)
      rw [if_pos (by rw [b]), en_100 (d := D + 4), b_100_0 hq]
      unfold rd_brk at hQ
      rcases hE with ⟨rfl, he⟩ | ⟨E', rfl, he, hK⟩
      · rw [if_neg (by rw [mm_ltx, mm_wv (by omega) (by omega), mm_wv (by omega) (by omega)]; omega), bk_v, b_106_29 hq, if_pos (by decide)]
        exact hQ μ rd_fr_r (rd_out_f (r := (false, p, C, S)) (rd_st_bd hst'))
      · rw [if_pos (by rw [mm_ltx, mm_wv (by omega) (by omega), mm_wv (by omega) (by omega)]; omega), h2]
        refine hK (D + 4) _ _ (p + 1) C S (by omega) (rd_st_1 hst' hp) fun μ' hf hs => ?_
        have hQ : ∀ μ', rd_fr μ μ' → rd_out T N μ' (rd_if ((E' (p + 1) C S).1 = true ∧ rd_ch T N (E' (p + 1) C S).2.1 = 41) (true, (E' (p + 1) C S).2.1 + 1, (E' (p + 1) C S).2.2) (false, (E' (p + 1) C S).2)) → Q (.inl (some (.int (Int32.ofInt (if (rd_if ((E' (p + 1) C S).1 = true ∧ rd_ch T N (E' (p + 1) C S).2.1 = 41) (true, (E' (p + 1) C S).2.1 + 1, (E' (p + 1) C S).2.2) (false, (E' (p + 1) C S).2) : rd_P).1 = true then 1 else 0))))) (mm_hp w (μ') X n) := hQ
        revert hs hQ
        generalize E' (p + 1) C S = y
        intro hs hQ
        obtain ⟨yb, yp, yC, yS⟩ := y
        have hf' : rd_fr μ μ' := rd_fr_t (rd_fr_u rd_fr_r (by decide)) hf
        have hbd := rd_out_bd hs
        have hbd : rd_bd T N μ' yp := hbd
        cases yb with
        | false =>
          rw [rd_if0 (fun z => Bool.noConfusion z.1)] at hQ
          rw [bk_v, b_100_24 hq, if_neg (show ¬ false = true from Bool.noConfusion), if_pos rfl, bk_v, b_106_29 hq, if_pos (by decide)]
          exact hQ μ' hf' (rd_out_f (r := (false, yp, yC, yS)) hbd)
        | true =>
          have hsy : rd_st T N μ' yp yC yS := hs.1 rfl
          have hyN := hsy.2.2.1
          rw [bk_v, b_100_24 hq, if_pos (show true = true from rfl), if_neg (by decide), c_99 (d := D + 2) hq hsy.1 hsy.2.1 (by omega), bk_v, b_100_31 hq]
          have hby := rd_ch_b (p := yp) h1
          by_cases g : rd_ch T N yp = 41
          · rw [rd_if1 (c := true = true ∧ rd_ch T N yp = 41) ⟨rfl, g⟩] at hQ
            have hyp : yp < N := by
              by_cases g2 : yp < N
              · exact g2
              · rw [rd_ch0 (by omega)] at g; exact absurd g (by decide)
            rw [if_pos (by rw [g]), bk_v, b_106_29 hq, if_pos (by decide), hsy.2.1]
            exact hQ _ (rd_fr_u hf' (by decide)) ⟨fun _ => rd_st_1 hsy hyp, fun z => Bool.noConfusion z⟩
          · rw [rd_if0 (fun z => g z.2)] at hQ
            rw [if_neg (by rw [mm_eqx, mm_wv (by omega) (by omega), mm_wv (by omega) (by omega)]; exact g), bk_v, b_106_29 hq, if_pos (by decide)]
            exact hQ μ' hf' (rd_out_f (r := (false, yp, yC, yS)) hbd)
    · rw [rd_if0 b] at hQ
      rw [if_neg (by rw [mm_eqx, mm_wv (by omega) (by omega), mm_wv (by omega) (by omega)]; exact b), c_277_3 (d := D + 1) hq hb, bk_v, b_106_36 hq]
      by_cases g : rd_lt (rd_ch T N p)
      · rw [rd_if1 g] at hQ ⊢
        rw [if_neg (by unfold rd_lt at g; rw [mm_ltx, mm_wv (by omega) (by omega), mm_wv (by omega) (by omega)]; omega)]
        refine c_104 (d := D) hq hst' g fun μ' hf hs => ?_
        rw [bk_v, b_106_43 hq]
        have := hQ μ' hf hs
        by_cases z : (rd_ref T N 24 p S).1 = true
        · rw [if_pos (show ((rd_ref T N 24 p S).1, (rd_ref T N 24 p S).2.1, rd_emit C 1 (S.1 : Int) ((rd_ref T N 24 p S).2.2.1 - S.1), (rd_ref T N 24 p S).2.2).1 = true from z)] at this
          rw [if_pos z, if_neg (by decide)]; exact this
        · rw [if_neg (show ¬ ((rd_ref T N 24 p S).1, (rd_ref T N 24 p S).2.1, rd_emit C 1 (S.1 : Int) ((rd_ref T N 24 p S).2.2.1 - S.1), (rd_ref T N 24 p S).2.2).1 = true from z)] at this
          rw [if_neg z, if_pos rfl]; exact this
      · rw [rd_if0 g] at hQ ⊢
        rw [if_pos (by decide)]
        exact hQ μ rd_fr_r (rd_out_f (r := (false, p, C, S)) (rd_st_bd hst'))
theorem c_103_8 {D0 : Nat} (hq : mm_P w) (hN : N ≤ 24) (he : 0 ≤ e ∧ e ≤ 3) (hU : rd_KP w X n T N D0 106 e U) (hW : rd_wf N m U) {D : Nat} (hD : D0 ≤ D + 2) (h1 : rd_tx T N μ) : ∀ (k : Nat) (y : rd_P) (μ1 : mm_M) (e4 : Option Value), am_n2 e4 = true → k ≤ 24 → rd_fr μ μ1 → rd_out T N μ1 y → (∀ μ', rd_fr μ μ' → rd_out T N μ' (rd_loop T N rd_po U k y) → Q (.inl (some (.int (Int32.ofInt (if (rd_loop T N rd_po U k y).1 = true then 1 else 0))))) (mm_hp w (μ') X n)) → am_E (D + 2) 103 Q (8, [some (.ref 127), some (.int (Int32.ofInt (e))), some (.int (Int32.ofInt (if y.1 = true then 1 else 0))), some (.int (Int32.ofInt (24 - (k : Int)))), e4], [], mm_hp w μ1 X n) := by
  intro k
  induction k with
  | zero =>
    intro y μ1 e4 n4 hk hf ho hQ
    rw [b_103_8 hq n4, if_pos (by rw [mm_lex, mm_wv (by omega) (by omega), mm_wv (by omega) (by omega)]; omega), if_pos (of_eq_true mm_okc)]
    exact hQ μ1 hf ho
  | succ k ih =>
    intro y μ1 e4 n4 hk hf ho hQ
    have hbd := rd_out_bd ho
    rw [b_103_8 hq n4, if_neg (by rw [mm_lex, mm_wv (by omega) (by omega), mm_wv (by omega) (by omega)]; omega)]
    cases hy : y.1 with
    | false =>
      rw [rd_loop0 _ _ hy] at hQ
      have := hQ μ1 hf ho
      rw [hy] at this
      rw [if_pos (by rfl), if_pos (by decide)]
      exact this
    | true =>
      have hs := ho.1 hy
      have hyN := hs.2.2.1
      have hb := rd_ch_b (p := y.2.1) h1
      rw [if_neg (by decide), c_99 (d := D) hq hs.1 hs.2.1 (by omega), bk_v, b_103_22 hq n4, c_97 (d := D + 1) hq hb, bk_v, b_103_25 hq n4]
      by_cases g : rd_po (rd_ch T N y.2.1)
      · have el : rd_loop T N rd_po U (k + 1) y = rd_loop T N rd_po U k (rd_bin U (rd_opc (rd_ch T N y.2.1)) y) := by
          conv => lhs; unfold rd_loop
          rw [rd_if1 ⟨hy, g⟩]
        rw [el] at hQ
        have hp : y.2.1 < N := by
          by_cases g2 : y.2.1 < N
          · exact g2
          · rw [rd_ch0 (by omega)] at g; exact absurd g rd_po32
        rw [rd_if1 g, if_neg (by decide), c_99 (d := D) hq hs.1 hs.2.1 (by omega), bk_v, b_103_32 hq n4]
        have go : am_E (D + 2) 103 Q (42, [some (.ref 127), some (.int (Int32.ofInt (e))), some (.int (Int32.ofInt (1))), some (.int (Int32.ofInt (24 - ((k + 1 : Nat) : Int)))), e4], [.int (Int32.ofInt (rd_opc (rd_ch T N y.2.1) - 1))], mm_hp w μ1 X n) := by
          rw [b_103_42 hq n4, hs.2.1]
          refine hU (D + 2) _ _ (y.2.1 + 1) y.2.2.1 y.2.2.2 hD (rd_st_1 hs hp) fun μ2 hf2 hu => ?_
          have hw1 := hW (y.2.1 + 1) y.2.2.1 y.2.2.2 (by omega)
          have hft : rd_fr μ μ2 := rd_fr_t (rd_fr_u hf (by decide)) hf2
          unfold rd_bin at hQ ih
          revert hu hw1 hQ
          generalize U (y.2.1 + 1) y.2.2.1 y.2.2.2 = u
          intro hQ hu hw1
          have hub := rd_out_bd hu
          have hph := hs.2.2.2.2
          have hob := @rd_opc_b (rd_ch T N y.2.1)
          rw [bk_v, b_103_59 hq, c_108 (d := D + 1) hq hub.2.2.2]
          by_cases l24 : μ2 102 4 < 24
          · rw [if_pos l24, bk_v, b_103_70 hq, show 24 - ((k + 1 : Nat) : Int) + 1 = 24 - (k : Int) by omega]
            have hfa : rd_fr μ (rd_app μ2 (rd_opc (rd_ch T N y.2.1) - 1) 0) := rd_app_f hft
            refine ih (u.1, u.2.1, rd_emit u.2.2.1 (rd_opc (rd_ch T N y.2.1)) 0 0, u.2.2.2) _ _ rfl (by omega) hfa ⟨fun z => ?_, fun z => ?_⟩ hQ
            · have hus := hu.1 z
              have hwu := hw1 z
              have := hwu.2.2.2.2.1.1
              refine ⟨rd_tx_f h1 hfa, by rw [rd_app_p]; exact hus.2.1, hus.2.2.1, rd_lay_e hus.2.2.2.1 (by omega) (fun z => by omega) (fun z => by omega) (fun _ _ => rfl) (fun z => by omega) (fun z => by omega), ?_⟩
              show rd_ph (rd_emit u.2.2.1 (rd_opc (rd_ch T N y.2.1)) 0 0) (u.2.2.1.1 + 1) ≤ _
              rw [rd_ph_e, if_neg (by omega)]
              show _ ≤ (u.2.1 : Int)
              omega
            · refine ⟨rd_tx_f h1 hfa, by rw [rd_app_p]; exact hub.2.1, hub.2.2.1, ?_⟩
              rw [rd_app_4]; have := hub.2.2.2; omega
          · rw [if_neg l24, bk_v, b_103_70 hq, show 24 - ((k + 1 : Nat) : Int) + 1 = 24 - (k : Int) by omega]
            refine ih (u.1, u.2.1, rd_emit u.2.2.1 (rd_opc (rd_ch T N y.2.1)) 0 0, u.2.2.2) _ _ rfl (by omega) hft ⟨fun z => ?_, fun z => hub⟩ hQ
            have hus := hu.1 z
            have hwu := hw1 z
            have := hwu.2.2.2.2.1.1
            have h41 := hus.2.2.2.1.1
            have := hus.2.2.1
            omega
        unfold rd_po at g
        rcases g with g | g
        · rw [if_pos (by rw [g])]
          rw [g] at go
          exact go
        · rw [if_neg (by rw [g]; decide)]
          rw [g] at go
          exact go
      · have el : rd_loop T N rd_po U (k + 1) y = y := by
          unfold rd_loop
          rw [rd_if0 (fun z => g z.2)]
        rw [el] at hQ
        have := hQ μ1 hf ho
        rw [hy] at this
        rw [rd_if0 g, if_pos rfl, if_pos (by decide)]
        exact this
theorem rd_KP_p {D0 : Nat} (hq : mm_P w) (hN : N ≤ 24) (he : 0 ≤ e ∧ e ≤ 3) (h6 : 6 ≤ D0) (hU : rd_KP w X n T N D0 106 e (rd_unt T N E)) (hW : rd_wf N m (rd_unt T N E)) : rd_KP w X n T N (D0 + 1) 103 e (rd_prd T N E) := by
  intro D μ Q p C S hD hst hQ
  obtain ⟨D, rfl⟩ : ∃ k, D = k + 3 := ⟨D - 3, by omega⟩
  rw [en_103 (d := D + 2), b_103_0 hq]
  refine hU (D + 2) _ _ p C S (by omega) hst fun μ' hf ho => ?_
  rw [bk_v, b_103_5 hq]
  have := c_103_8 (Q := Q) (D := D) hq hN he hU hW (by omega) hst.1 24 (rd_unt T N E p C S) μ' none rfl (Nat.le_refl _) hf ho hQ
  exact this
theorem c_105_8 {D0 : Nat} (hq : mm_P w) (hN : N ≤ 24) (he : 0 ≤ e ∧ e ≤ 3) (hU : rd_KP w X n T N D0 103 e U) (hW : rd_wf N m U) {D : Nat} (hD : D0 ≤ D + 2) (h1 : rd_tx T N μ) : ∀ (k : Nat) (y : rd_P) (μ1 : mm_M) (e4 : Option Value), am_n2 e4 = true → k ≤ 24 → rd_fr μ μ1 → rd_out T N μ1 y → (∀ μ', rd_fr μ μ' → rd_out T N μ' (rd_loop T N rd_so U k y) → Q (.inl (some (.int (Int32.ofInt (if (rd_loop T N rd_so U k y).1 = true then 1 else 0))))) (mm_hp w (μ') X n)) → am_E (D + 2) 105 Q (8, [some (.ref 127), some (.int (Int32.ofInt (e))), some (.int (Int32.ofInt (if y.1 = true then 1 else 0))), some (.int (Int32.ofInt (24 - (k : Int)))), e4], [], mm_hp w μ1 X n) := by
  intro k
  induction k with
  | zero =>
    intro y μ1 e4 n4 hk hf ho hQ
    rw [b_105_8 hq n4, if_pos (by rw [mm_lex, mm_wv (by omega) (by omega), mm_wv (by omega) (by omega)]; omega), if_pos (of_eq_true mm_okc)]
    exact hQ μ1 hf ho
  | succ k ih =>
    intro y μ1 e4 n4 hk hf ho hQ
    have hbd := rd_out_bd ho
    rw [b_105_8 hq n4, if_neg (by rw [mm_lex, mm_wv (by omega) (by omega), mm_wv (by omega) (by omega)]; omega)]
    cases hy : y.1 with
    | false =>
      rw [rd_loop0 _ _ hy] at hQ
      have := hQ μ1 hf ho
      rw [hy] at this
      rw [if_pos (by rfl), if_pos (by decide)]
      exact this
    | true =>
      have hs := ho.1 hy
      have hyN := hs.2.2.1
      have hb := rd_ch_b (p := y.2.1) h1
      rw [if_neg (by decide), c_99 (d := D) hq hs.1 hs.2.1 (by omega), bk_v, b_105_22 hq n4, c_98 (d := D + 1) hq hb, bk_v, b_105_25 hq n4]
      by_cases g : rd_so (rd_ch T N y.2.1)
      · have el : rd_loop T N rd_so U (k + 1) y = rd_loop T N rd_so U k (rd_bin U (rd_opc (rd_ch T N y.2.1)) y) := by
          conv => lhs; unfold rd_loop
          rw [rd_if1 ⟨hy, g⟩]
        rw [el] at hQ
        have hp : y.2.1 < N := by
          by_cases g2 : y.2.1 < N
          · exact g2
          · rw [rd_ch0 (by omega)] at g; exact absurd g rd_so32
        rw [rd_if1 g, if_neg (by decide), c_99 (d := D) hq hs.1 hs.2.1 (by omega), bk_v, b_105_32 hq n4]
        have go : am_E (D + 2) 105 Q (42, [some (.ref 127), some (.int (Int32.ofInt (e))), some (.int (Int32.ofInt (1))), some (.int (Int32.ofInt (24 - ((k + 1 : Nat) : Int)))), e4], [.int (Int32.ofInt (rd_opc (rd_ch T N y.2.1) - 1))], mm_hp w μ1 X n) := by
          rw [b_105_42 hq n4, hs.2.1]
          refine hU (D + 2) _ _ (y.2.1 + 1) y.2.2.1 y.2.2.2 hD (rd_st_1 hs hp) fun μ2 hf2 hu => ?_
          have hw1 := hW (y.2.1 + 1) y.2.2.1 y.2.2.2 (by omega)
          have hft : rd_fr μ μ2 := rd_fr_t (rd_fr_u hf (by decide)) hf2
          unfold rd_bin at hQ ih
          revert hu hw1 hQ
          generalize U (y.2.1 + 1) y.2.2.1 y.2.2.2 = u
          intro hQ hu hw1
          have hub := rd_out_bd hu
          have hph := hs.2.2.2.2
          have hob := @rd_opc_b (rd_ch T N y.2.1)
          rw [bk_v, b_105_59 hq, c_108 (d := D + 1) hq hub.2.2.2]
          by_cases l24 : μ2 102 4 < 24
          · rw [if_pos l24, bk_v, b_105_70 hq, show 24 - ((k + 1 : Nat) : Int) + 1 = 24 - (k : Int) by omega]
            have hfa : rd_fr μ (rd_app μ2 (rd_opc (rd_ch T N y.2.1) - 1) 0) := rd_app_f hft
            refine ih (u.1, u.2.1, rd_emit u.2.2.1 (rd_opc (rd_ch T N y.2.1)) 0 0, u.2.2.2) _ _ rfl (by omega) hfa ⟨fun z => ?_, fun z => ?_⟩ hQ
            · have hus := hu.1 z
              have hwu := hw1 z
              have := hwu.2.2.2.2.1.1
              refine ⟨rd_tx_f h1 hfa, by rw [rd_app_p]; exact hus.2.1, hus.2.2.1, rd_lay_e hus.2.2.2.1 (by omega) (fun z => by omega) (fun z => by omega) (fun _ _ => rfl) (fun z => by omega) (fun z => by omega), ?_⟩
              show rd_ph (rd_emit u.2.2.1 (rd_opc (rd_ch T N y.2.1)) 0 0) (u.2.2.1.1 + 1) ≤ _
              rw [rd_ph_e, if_neg (by omega)]
              show _ ≤ (u.2.1 : Int)
              omega
            · refine ⟨rd_tx_f h1 hfa, by rw [rd_app_p]; exact hub.2.1, hub.2.2.1, ?_⟩
              rw [rd_app_4]; have := hub.2.2.2; omega
          · rw [if_neg l24, bk_v, b_105_70 hq, show 24 - ((k + 1 : Nat) : Int) + 1 = 24 - (k : Int) by omega]
            refine ih (u.1, u.2.1, rd_emit u.2.2.1 (rd_opc (rd_ch T N y.2.1)) 0 0, u.2.2.2) _ _ rfl (by omega) hft ⟨fun z => ?_, fun z => hub⟩ hQ
            have hus := hu.1 z
            have hwu := hw1 z
            have := hwu.2.2.2.2.1.1
            have h41 := hus.2.2.2.1.1
            have := hus.2.2.1
            omega
        unfold rd_so at g
        rcases g with g | g
        · rw [if_pos (by rw [g])]
          rw [g] at go
          exact go
        · rw [if_neg (by rw [g]; decide)]
          rw [g] at go
          exact go
      · have el : rd_loop T N rd_so U (k + 1) y = y := by
          unfold rd_loop
          rw [rd_if0 (fun z => g z.2)]
        rw [el] at hQ
        have := hQ μ1 hf ho
        rw [hy] at this
        rw [rd_if0 g, if_pos rfl, if_pos (by decide)]
        exact this
theorem rd_KP_s {D0 : Nat} (hq : mm_P w) (hN : N ≤ 24) (he : 0 ≤ e ∧ e ≤ 3) (h6 : 6 ≤ D0) (hU : rd_KP w X n T N D0 103 e (rd_prd T N E)) (hW : rd_wf N m (rd_prd T N E)) : rd_KP w X n T N (D0 + 1) 105 e (rd_sum T N E) := by
  intro D μ Q p C S hD hst hQ
  obtain ⟨D, rfl⟩ : ∃ k, D = k + 3 := ⟨D - 3, by omega⟩
  rw [en_105 (d := D + 2), b_105_0 hq]
  refine hU (D + 2) _ _ p C S (by omega) hst fun μ' hf ho => ?_
  rw [bk_v, b_105_5 hq]
  have := c_105_8 (Q := Q) (D := D) hq hN he hU hW (by omega) hst.1 24 (rd_prd T N E p C S) μ' none rfl (Nat.le_refl _) hf ho hQ
  exact this
end CR
