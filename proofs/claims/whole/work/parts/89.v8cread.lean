/-! The class's reader: numbers and references. -/
section CR
variable {d : Nat} {Q : am_Ou → am_G → Prop} {w : mm_Z} {μ μ' μ0 : mm_M} {X : mm_X} {n : mm_N} {T : Nat → Int} {N p : Nat} {C C' : rd_C} {S S' S0 : rd_S} {a b c o k e z : Int}
theorem rd_dg_lt (h : rd_dg (rd_ch T N p)) : p < N := by
  by_cases g : p < N
  · exact g
  · rw [rd_ch0 (by omega)] at h; unfold rd_dg at h; omega
theorem rd_lt_lt (h : rd_lt (rd_ch T N p)) : p < N := by
  by_cases g : p < N
  · exact g
  · rw [rd_ch0 (by omega)] at h; unfold rd_lt at h; omega
theorem rd_way_lt (h : ¬ rd_way (rd_ch T N p) < 0) : p < N := by
  by_cases g : p < N
  · exact g
  · rw [rd_ch0 (by omega)] at h; exact absurd (by decide) h
theorem c_102_4 (hq : mm_P w) (h : rd_tx T N μ) : ∀ (k : Nat) (v : Int) (p : Nat), p ≤ N → k ≤ 5 → (∀ x2 : Int, am_E (d + 2) 102 Q (48, [some (.ref 127), some (.int (Int32.ofInt ((rd_num T N k v p).1))), some (.int (Int32.ofInt (x2)))], [], mm_hp w (mm_u μ 127 2 (rd_num T N k v p).2) X n)) → am_E (d + 2) 102 Q (4, [some (.ref 127), some (.int (Int32.ofInt (v))), some (.int (Int32.ofInt (5 - (k : Int))))], [], mm_hp w (mm_u μ 127 2 p) X n) := by
  have h1 := h.1
  intro k
  induction k with
  | zero =>
    intro v p hp hk hQ
    rw [b_102_4 hq, if_pos (by rw [mm_lex, mm_wv (by omega) (by omega), mm_wv (by omega) (by omega)]; omega)]
    exact hQ _
  | succ k ih =>
    intro v p hp hk hQ
    have hx : rd_tx T N (mm_u μ 127 2 p) := rd_tx_f h (rd_fr_u rd_fr_r (by decide))
    have hb := rd_ch_b (p := p) h
    rw [b_102_4 hq, if_neg (by rw [mm_lex, mm_wv (by omega) (by omega), mm_wv (by omega) (by omega)]; omega), c_99 (d := d) hq hx mm_us (by omega), bk_v, b_102_13 hq, c_96 (d := d + 1) hq hb, bk_v, b_102_16 hq]
    unfold rd_num at hQ
    by_cases g : rd_dg (rd_ch T N p)
    · rw [rd_if1 g] at hQ ⊢
      have hpN := rd_dg_lt g
      rw [if_neg (by decide), c_99 (d := d) hq hx mm_us (by omega), bk_v, b_102_27 hq, mm_us, mm_u2, show 5 - ((k + 1 : Nat) : Int) + 1 = 5 - (k : Int) by omega, show (p : Int) + 1 = ((p + 1 : Nat) : Int) by omega]
      exact ih _ _ (by omega) (by omega) hQ
    · rw [rd_if0 g] at hQ ⊢
      rw [if_pos rfl]
      exact hQ _
theorem c_102 (hq : mm_P w) (h : rd_st T N μ p C S) (g : rd_dg (rd_ch T N p)) (hQ : ∀ μ', rd_fr μ μ' → rd_st T N μ' (rd_num T N 5 0 p).2 (rd_emit C 0 (rd_num T N 5 0 p).1 0) S → Q (.inl none) (mm_hp w μ' X n)) : am_C (d + 3) 102 [.ref 127] (mm_hp w μ X n) Q := by
  obtain ⟨h1, h2, h3, h4, h5⟩ := h
  have h11 := h1.1
  have hp := rd_dg_lt g
  have e5 : rd_num T N 5 0 p = rd_num T N 4 (0 * 10 + (rd_ch T N p - 48)) (p + 1) := by
    conv => lhs; unfold rd_num
    rw [rd_if1 g]
  have hn : p + 1 ≤ (rd_num T N 5 0 p).2 ∧ (rd_num T N 5 0 p).2 ≤ N := by rw [e5]; exact rd_num_le 4 _ (p + 1) (by omega)
  have h0 := rd_lay_0 h4
  rw [en_102 (d := d + 2), b_102_0 hq, show mm_hp w μ X n = mm_hp w (mm_u μ 127 2 p) X n from by rw [← h2, mm_un_id]]
  refine c_102_4 (d := d) hq h1 5 0 p h3 (by decide) fun x2 => ?_
  have e4 : mm_u μ 127 2 (rd_num T N 5 0 p).2 102 = μ 102 := mm_uu (by decide)
  rw [b_102_48 hq, c_108 (d := d + 1) hq (by rw [e4, h4.1]; omega), if_pos (by rw [e4, h4.1]; omega), bk_v, b_102_61 hq]
  have hl : rd_lay (mm_u μ 127 2 (rd_num T N 5 0 p).2) C S := ⟨by rw [e4]; exact h4.1, fun i hi => by
    have := h4.2 i hi
    unfold rd_le at this ⊢
    rw [mm_uu (by decide), mm_uu (by decide)]
    exact this⟩
  have hf : rd_fr μ (rd_app (mm_u μ 127 2 (rd_num T N 5 0 p).2) 5 ((rd_num T N 5 0 p).1 * 1000)) := rd_app_f (rd_fr_u rd_fr_r (by decide))
  refine hQ _ hf ⟨rd_tx_f h1 hf, by rw [rd_app_p, mm_us], hn.2, rd_lay_e hl (by decide) (fun z => by omega) (fun _ => ⟨rfl, by omega⟩) (fun z => absurd z (by decide)) (fun z => absurd z (by decide)) (fun z => absurd z (by decide)), ?_⟩
  show rd_ph (rd_emit C 0 (rd_num T N 5 0 p).1 0) (C.1 + 1) ≤ _
  rw [rd_ph_e, if_neg (by decide)]
  omega
theorem c_104_15 (hq : mm_P w) (h : rd_tx T N μ) : ∀ (k p : Nat) (S : rd_S) (j : Nat) (μ1 : mm_M) (e4 e5 : Option Value), am_n2 e4 = true → am_n2 e5 = true → k ≤ 24 → p < N → N ≤ p + k → rd_lt (rd_ch T N p) → rd_fr μ μ1 → μ1 127 2 = p → rd_mid μ0 μ1 C S0 S j → rd_ph C C.1 + 2 * j ≤ p → 0 ≤ rd_ph C C.1 →
    (∀ μ', rd_fr μ μ' → ((rd_ref T N k p S).1 = true → μ' 127 2 = (rd_ref T N k p S).2.1 ∧ ∃ j', rd_mid μ0 μ' C S0 (rd_ref T N k p S).2.2 j' ∧ μ' 102 4 ≤ (rd_ref T N k p S).2.1) → ((rd_ref T N k p S).1 = false → μ' 127 2 = (rd_ref T N k p S).2.1 ∧ 0 ≤ μ' 102 4 ∧ μ' 102 4 ≤ 24) → Q (.inl (some (.int (Int32.ofInt (if (rd_ref T N k p S).1 = true then 1 else 0))))) (mm_hp w (μ') X n)) →
    am_E (d + 4) 104 Q (15, [some (.ref 127), some (.int (Int32.ofInt (rd_ph C C.1))), some (.int (Int32.ofInt (1))), some (.int (Int32.ofInt (24 - (k : Int)))), e4, e5], [], mm_hp w μ1 X n) := by
  have h11 := h.1
  intro k
  induction k with
  | zero => intro p S j μ1 e4 e5 _ _ _ h1 h2; omega
  | succ k ih =>
    intro p S j μ1 e4 e5 n4 n5 hk hp hN hl hf hpl hm hj h0 hQ
    have hx1 := rd_tx_f h hf
    have hb := rd_ch_b (p := p) h
    have hb1 := rd_ch_b (p := p + 1) h
    have hb2 := rd_ch_b (p := p + 2) h
    have hm5 := hm.2.2.2.2.1
    rw [b_104_15 hq n4 n5, if_neg (by rw [mm_lex, mm_wv (by omega) (by omega), mm_wv (by omega) (by omega)]; omega), if_neg (by decide), c_99 (d := d + 2) hq hx1 hpl (by omega), bk_v, b_104_31 hq n4 n5, c_277_3 (d := d) hq hb, bk_v, b_104_34 hq n4 n5, rd_if1 hl, hpl]
    have hf2 : rd_fr μ (mm_u μ1 127 2 ((p : Int) + 1)) := rd_fr_u hf (by decide)
    have hx2 := rd_tx_f h hf2
    rw [c_99 (p := p + 1) (d := d + 2) hq hx2 (by rw [mm_us]; omega) (by omega), bk_v, b_104_52 hq n5, c_277_4 (d := d) hq hb1, bk_v, b_104_55 hq n5]
    have hw := @rd_way_b (rd_ch T N (p + 1))
    unfold rd_ref at hQ
    by_cases a : rd_way (rd_ch T N (p + 1)) < 0
    · rw [rd_if1 a] at hQ
      rw [if_neg (by rw [mm_lex, mm_wv (by omega) (by omega), mm_wv (by omega) (by omega)]; omega)]
      exact hQ (mm_u μ1 127 2 ((p : Int) + 1)) hf2 (fun z => Bool.noConfusion z) (fun _ => ⟨by rw [mm_us]; show (p : Int) + 1 = ((p + 1 : Nat) : Int); omega, by rw [mm_uu (by decide)]; omega, by rw [mm_uu (by decide)]; omega⟩)
    · rw [rd_if0 a] at hQ
      have hp1 := rd_way_lt a
      have hl' := hl
      unfold rd_lt at hl'
      rw [if_pos (by rw [mm_lex, mm_wv (by omega) (by omega), mm_wv (by omega) (by omega)]; omega), mm_us, mm_u2, c_116 (d := d + 3) hq (by omega) (by omega), bk_v, b_104_87 hq]
      have hf3 : rd_fr μ (mm_u μ1 127 2 ((p : Int) + 1 + 1)) := rd_fr_u hf (by decide)
      have e102 : mm_u μ1 127 2 ((p : Int) + 1 + 1) 102 = μ1 102 := mm_uu (by decide)
      have h4 : 0 ≤ μ1 102 4 ∧ μ1 102 4 < 24 := by omega
      rw [c_108 (d := d + 3) hq (by rw [e102]; omega), if_pos (by rw [e102]; omega), bk_v, b_104_90 hq, mm_wv (z := rd_ph C C.1) (by omega) (by omega), mm_gd (by omega), mm_gd (by omega)]
      -- the head's count
      have hm' : rd_mid μ0 (mm_u μ1 127 2 ((p : Int) + 1 + 1)) C S0 S j := by
        obtain ⟨m1, m2, m3, m4, m5, m6, m7, m8⟩ := hm
        have f5 : mm_u μ1 127 2 ((p : Int) + 1 + 1) 105 = μ1 105 := mm_uu (by decide)
        have f6 : mm_u μ1 127 2 ((p : Int) + 1 + 1) 106 = μ1 106 := mm_uu (by decide)
        refine ⟨m1, ?_, ?_, ?_, ?_, m6, m7, ?_⟩
        · rw [f5, f6]; exact m2
        · rw [f5]; exact m3
        · rw [f6]; exact m4
        · rw [e102]; exact m5
        · rw [f5, f6]; exact m8
      have hs := rd_mid_s (a := rd_ch T N p - 120) (b := rd_way (rd_ch T N (p + 1))) hm' rfl
      have e106 : rd_app (mm_u μ1 127 2 ((p : Int) + 1 + 1)) 7 (10 * (rd_ch T N p - 120) + rd_way (rd_ch T N (p + 1))) 106 (rd_ph C C.1) = j := by
        rw [rd_app_n (Or.inr rfl) (by rw [e102]; omega)]
        exact hm'.2.2.2.1
      rw [e106]
      generalize hM : mm_u (rd_app (mm_u μ1 127 2 ((p : Int) + 1 + 1)) 7 (10 * (rd_ch T N p - 120) + rd_way (rd_ch T N (p + 1)))) 106 (rd_ph C C.1) ((j : Int) + 1) = M at hs ⊢
      have hfM : rd_fr μ M := by rw [← hM]; exact rd_fr_u (rd_app_f hf3) (by decide)
      have hpM : M 127 2 = ((p + 2 : Nat) : Int) := by rw [← hM, mm_uu (by decide), rd_app_p, mm_us]; omega
      have hlM := hs.2.2.2.2.1
      have fin : ((∀ μ', rd_fr μ μ' → (true = true → μ' 127 2 = ((p + 2 : Nat) : Int) ∧ ∃ j', rd_mid μ0 μ' C S0 (rd_push S (rd_ch T N p - 120, rd_way (rd_ch T N (p + 1)))) j' ∧ μ' 102 4 ≤ ((p + 2 : Nat) : Int)) → (true = false → μ' 127 2 = ((p + 2 : Nat) : Int) ∧ 0 ≤ μ' 102 4 ∧ μ' 102 4 ≤ 24) → Q (.inl (some (.int (Int32.ofInt (if true = true then 1 else 0))))) (mm_hp w (μ') X n))) → am_E (d + 4) 104 Q (15, [some (.ref 127), some (.int (Int32.ofInt (rd_ph C C.1))), some (.int (Int32.ofInt (0))), some (.int (Int32.ofInt (24 - ((k + 1 : Nat) : Int) + 1))), some (.int (Int32.ofInt (rd_ch T N p - 120))), some (.int (Int32.ofInt (rd_way (rd_ch T N (p + 1)))))], [], mm_hp w M X n) := by
        intro hQ
        have := hQ M hfM (fun _ => ⟨hpM, j + 1, hs, by omega⟩) (fun z => Bool.noConfusion z)
        rw [if_pos rfl] at this
        rw [b_104_15 hq rfl rfl]
        by_cases t : 24 ≤ 24 - ((k + 1 : Nat) : Int) + 1
        · rw [if_pos (by rw [mm_lex, mm_wv (by omega) (by omega), mm_wv (by omega) (by omega)]; exact t)]; exact this
        · rw [if_neg (by rw [mm_lex, mm_wv (by omega) (by omega), mm_wv (by omega) (by omega)]; exact t), if_pos rfl]; exact this
      by_cases b : rd_way (rd_ch T N (p + 1)) = 9
      · rw [rd_if0 (fun z => z.1 b)] at hQ
        rw [if_pos (by rw [b]), b_104_127 hq, b_104_128 hq]
        exact fin hQ
      · have hxM := rd_tx_f h hfM
        rw [if_neg (by rw [mm_eqx, mm_wv (by omega) (by omega), mm_wv (by omega) (by omega)]; exact b), c_99 (p := p + 2) (d := d + 2) hq hxM hpM (by omega), bk_v, b_104_117 hq, c_277_3 (d := d) hq hb2, bk_v, b_104_120 hq]
        by_cases g : rd_lt (rd_ch T N (p + 2))
        · rw [rd_if1 ⟨b, g⟩] at hQ
          have hp2 := rd_lt_lt g
          rw [rd_if1 g, if_neg (by unfold rd_lt at g; rw [mm_ltx, mm_wv (by omega) (by omega), mm_wv (by omega) (by omega)]; omega), b_104_128 hq, show 24 - ((k + 1 : Nat) : Int) + 1 = 24 - (k : Int) by omega]
          exact ih (p + 2) _ (j + 1) M _ _ rfl rfl (by omega) hp2 (by omega) g hfM hpM hs (by omega) h0 hQ
        · rw [rd_if0 (fun z => g z.2)] at hQ
          rw [rd_if0 g, if_pos (by decide), b_104_127 hq, b_104_128 hq]
          exact fin hQ
theorem c_104 (hq : mm_P w) (h : rd_st T N μ p C S) (g : rd_lt (rd_ch T N p)) (hQ : ∀ μ', rd_fr μ μ' → rd_out T N μ' ((rd_ref T N 24 p S).1, (rd_ref T N 24 p S).2.1, rd_emit C 1 S.1 ((rd_ref T N 24 p S).2.2.1 - S.1), (rd_ref T N 24 p S).2.2) → Q (.inl (some (.int (Int32.ofInt (if (rd_ref T N 24 p S).1 = true then 1 else 0))))) (mm_hp w (μ') X n)) : am_C (d + 5) 104 [.ref 127] (mm_hp w μ X n) Q := by
  obtain ⟨h1, h2, h3, h4, h5⟩ := h
  have h11 := h1.1
  have hp := rd_lt_lt g
  have h0 := rd_lay_0 h4
  rw [en_104 (d := d + 4), b_104_0 hq, c_108 (d := d + 3) hq (by rw [h4.1]; omega), if_pos (by rw [h4.1]; omega), bk_v, b_104_10 hq, h4.1]
  have hf : rd_fr μ (rd_app μ 6 0) := rd_app_f rd_fr_r
  have hle := rd_ref_le (T := T) (N := N) 24 p S hp
  refine c_104_15 (μ0 := μ) (S0 := S) (d := d) hq h1 24 p S 0 (rd_app μ 6 0) none none rfl rfl (Nat.le_refl _) hp (by omega) g hf (by rw [rd_app_p]; exact h2) (rd_mid_0 h4) (by omega) h0 fun μ' hf' q1 q2 => hQ μ' hf' ⟨fun z => ?_, fun z => ?_⟩
  · obtain ⟨a1, j', a2, a3⟩ := q1 z
    have hl := rd_mid_e a2
    refine ⟨rd_tx_f h1 hf', a1, hle, hl, ?_⟩
    have := hl.1
    show rd_ph (rd_emit C 1 S.1 ((rd_ref T N 24 p S).2.2.1 - S.1)) (C.1 + 1) ≤ _
    rw [show (rd_emit C 1 S.1 (((rd_ref T N 24 p S).2.2.1 : Int) - S.1)).1 = C.1 + 1 from rfl] at this
    rw [← this]
    exact a3
  · exact ⟨rd_tx_f h1 hf', (q2 z).1, hle, (q2 z).2⟩
end CR
