/-! The reference reads a text as the machine does. -/
section RR
variable {d : Nat} {Q : am_Ou → am_G → Prop} {w : mm_Z} {μ μ' μ0 : mm_M} {X : mm_X} {n : mm_N} {C C' : rd_C} {S S' : rd_S} {a b c o e z R base least : Int} {L : List rd_X} {l : List Int} {x : rd_X} {q : rd_Q} {k N : Nat} {σ : rd_T} {T : Nat → Int}
theorem c_234 (hq : mm_P w) (h0 : 0 ≤ R ∧ R < 8) (hR : μ 129 11 = R) (hc : 0 ≤ c ∧ c ≤ 65535) (hM : rd_RM R μ σ) (hI : rd_RI k σ) (hk : k ≤ 23)
    (hQ0 : rd_step σ c = none → ∀ μ', rd_F2 R μ μ' → Q (.inl (some (.int (Int32.ofInt (0))))) (mm_hp w (μ') X n)) (hQ1 : ∀ σ', rd_step σ c = some σ' → ∀ μ', rd_F2 R μ μ' → rd_RM R μ' σ' → Q (.inl (some (.int (Int32.ofInt (1))))) (mm_hp w (μ') X n)) : am_C (d + 5) 234 [.ref 129, .int (Int32.ofInt (c))] (mm_hp w μ X n) Q := by
  obtain ⟨⟨r, nn, ww, fr, pd⟩, L, l, C, S⟩ := σ
  have hM' := hM
  obtain ⟨m1, m2, m3, m4, m5, m6⟩ := hM
  dsimp only at m1 m2 m3 m4 m5 m6
  have h33 : μ 129 33 = r := m1.1
  have hrb : 0 ≤ r ∧ r ≤ 4 := m1.2.1
  have h45 : μ 145 R = S.1 := m5.1
  have i5 := hI.2.2.2.2.1
  have i5 : S.1 + rd_p2 (r, nn, ww, fr, pd) ≤ k := i5
  rw [rd_stepq] at hQ0
  have hQ1 : ∀ σ', (if r = 0 then rd_beg L l C S c else if r = 2 then rd_shf (r, nn, ww, fr, pd) L l C S c else rd_if (r = 1 ∧ rd_dg c) (if nn + 1 ≤ 5 then some (rd_num1 (10 * ww + c - 48) (nn + 1), L, l, C, S) else none) (rd_if (r = 3 ∧ rd_lt c) (some ((2, 0, 0, fr, c - 120), L, l, C, S)) (rd_fol L l (rd_unit (r, nn, ww, fr, pd) C S) S c))) = some σ' → ∀ μ', rd_F2 R μ μ' → rd_RM R μ' σ' → Q (.inl (some (.int (Int32.ofInt (1))))) (mm_hp w (μ') X n) := hQ1
  rw [en_234 (d := d + 4), b_234_0 hq, h33]
  by_cases r0 : r = 0
  · rw [if_pos r0] at hQ0
    have hQ1 : ∀ σ', rd_beg L l C S c = some σ' → ∀ μ', rd_F2 R μ μ' → rd_RM R μ' σ' → Q (.inl (some (.int (Int32.ofInt (1))))) (mm_hp w (μ') X n) := fun σ' h => hQ1 σ' (by rw [if_pos r0]; exact h)
    rw [if_pos (by rw [r0])]
    refine c_162 (R := R) (L := L) (l := l) (C := C) (S := S) (k := k) (d := d + 2) hq h0 hR hc ⟨⟨by rw [h33, r0]; rfl, ⟨show (0 : Int) ≤ 0 by decide, show (0 : Int) ≤ 4 by decide⟩, fun z => absurd z (show ¬ (0 : Int) = 1 by decide), fun z => ?_⟩, m2, m3, m4, m5, fun z => absurd z (show ¬ (0 : Int) = 2 by decide)⟩ ⟨hI.1, hI.2.1, hI.2.2.1, ?_, ?_, hI.2.2.2.2.2⟩ hk (fun h μ' hf => ?_) (fun σ' h μ' hf hm => ?_)
    · rcases z with z | z
      · exact absurd z (show ¬ (0 : Int) = 2 by decide)
      · exact absurd z (show ¬ (0 : Int) = 3 by decide)
    · have := hI.2.2.2.1
      have : C.1 + l.length + rd_p1 (r, nn, ww, fr, pd) ≤ k := this
      show C.1 + l.length + 0 ≤ k
      omega
    · show S.1 + 0 ≤ k
      omega
    · rw [bk_v, b_234_12 hq, if_pos (by decide)]
      exact hQ0 h μ' hf
    · rw [bk_v, b_234_12 hq, if_pos (by decide)]
      exact hQ1 σ' h μ' hf hm
  · rw [if_neg r0] at hQ0
    rw [if_neg (by rw [mm_eqx, mm_wv (by omega) (by omega), mm_wv (by omega) (by omega)]; exact r0)]
    by_cases r2 : r = 2
    · rw [if_pos r2] at hQ0
      have hQ1 : ∀ σ', rd_shf (r, nn, ww, fr, pd) L l C S c = some σ' → ∀ μ', rd_F2 R μ μ' → rd_RM R μ' σ' → Q (.inl (some (.int (Int32.ofInt (1))))) (mm_hp w (μ') X n) := fun σ' h => hQ1 σ' (by rw [if_neg r0, if_pos r2]; exact h)
      rw [if_pos (by rw [r2])]
      refine c_226 (R := R) (q := (r, nn, ww, fr, pd)) (k := k) (d := d + 1) hq h0 hR hc hM' r2 hI hk (fun h μ' hf => ?_) (fun σ' h μ' hf hm => ?_)
      · rw [bk_v, b_234_26 hq, if_pos (by decide)]
        exact hQ0 h μ' hf
      · rw [bk_v, b_234_26 hq, if_pos (by decide)]
        exact hQ1 σ' h μ' hf hm
    · rw [if_neg r2] at hQ0
      rw [if_neg (by rw [mm_eqx, mm_wv (by omega) (by omega), mm_wv (by omega) (by omega)]; exact r2)]
      have e130 : ¬ (r = 1 ∧ rd_dg c) → ¬ (r = 3 ∧ rd_lt c) → am_E (d + 4) 234 Q (130, [some (.ref 129), some (.int (Int32.ofInt (c)))], [], mm_hp w μ X n) := by
        intro n1 n3
        rw [rd_if0 n1, rd_if0 n3] at hQ0
        rw [b_234_130 hq]
        refine c_181 (R := R) (q := (r, nn, ww, fr, pd)) (k := k) (d := d) hq h0 hR hc hM' hI hk (fun h μ' hf => ?_) (fun σ' h μ' hf hm => ?_)
        · rw [bk_v, b_234_135 hq, if_pos (by decide)]
          exact hQ0 h μ' hf
        · rw [bk_v, b_234_135 hq, if_pos (by decide)]
          exact hQ1 σ' (by rw [if_neg r0, if_neg r2, rd_if0 n1, rd_if0 n3]; exact h) μ' hf hm
      have e82 : ¬ (r = 1 ∧ rd_dg c) → am_E (d + 4) 234 Q (82, [some (.ref 129), some (.int (Int32.ofInt (c)))], [], mm_hp w μ X n) := by
        intro n1
        rw [b_234_82 hq, h33]
        by_cases r3 : r = 3
        · rw [if_pos (by rw [r3]), c_195 (d := d + 3) hq hc, bk_v, b_234_94 hq]
          by_cases g : rd_lt c
          · rw [if_pos (show c = 120 ∨ c = 121 ∨ c = 122 from g), if_neg (by decide), hR, mm_wv (z := R) (by omega) (by omega), h45, mm_gd (by omega), mm_wv (z := 24 * R + (S.1 : Int)) (by omega) (by omega), mm_gd (by omega)]
            refine hQ1 _ (by rw [if_neg r0, if_neg r2, rd_if0 n1, rd_if1 ⟨r3, g⟩]) _ (rd_F2_u (rd_F2_u rd_F2_r (by omega)) (by omega)) ⟨⟨mm_us, ⟨show (0 : Int) ≤ 2 by decide, show (2 : Int) ≤ 4 by decide⟩, fun z => absurd z (show ¬ (2 : Int) = 1 by decide), fun _ => ?_⟩, ⟨?_, ?_⟩, ⟨?_, ?_⟩, ?_, ⟨?_, fun j hj => ?_⟩, fun _ => ?_⟩
            · rw [mm_un (by decide), mm_uu (by decide)]; exact m1.2.2.2 (Or.inr r3)
            · rw [mm_un (by decide), mm_uu (by decide)]; exact m2.1
            · exact rd_cx_f (fun a j a1 a2 _ _ => by rw [mm_uu (by omega), mm_uu (by omega)]) m2.2
            · rw [mm_un (by decide), mm_uu (by decide)]; exact m3.1
            · exact rd_os_f (fun j _ _ => by rw [mm_uu (by decide), mm_uu (by decide)]) m3.2
            · refine rd_RC_9 ?_
              unfold rd_RC at m4 ⊢
              rw [mm_uu (by decide), mm_uu (by decide), mm_uu (by decide), mm_uu (by decide)]
              exact m4
            · rw [mm_uu (by decide), mm_uu (by decide)]; exact m5.1
            · have hj : j < S.1 := hj
              rw [mm_uu (by decide), mm_un (by omega), mm_uu (by decide), mm_uu (by decide)]
              exact m5.2 j hj
            · rw [mm_uu (by decide), mm_us]
          · rw [if_neg (show ¬ (c = 120 ∨ c = 121 ∨ c = 122) from g), if_pos rfl]
            exact e130 n1 (fun z => g z.2)
        · rw [if_neg (by rw [mm_eqx, mm_wv (by omega) (by omega), mm_wv (by omega) (by omega)]; exact r3)]
          exact e130 n1 (fun z => r3 z.1)
      by_cases r1 : r = 1
      · rw [if_pos (by rw [r1]), c_191 (d := d + 3) hq hc, bk_v, b_234_39 hq]
        by_cases g : rd_dg c
        · obtain ⟨f34, f35, f5⟩ := m1.2.2.1 r1
          have f34 : μ 129 34 = nn := f34
          have f35 : μ 129 35 = ww := f35
          have f5 : 1 ≤ nn ∧ nn ≤ 5 := f5
          rw [if_pos (show 48 ≤ c ∧ c ≤ 57 from g), if_neg (by decide), mm_un (show (34 : Int) ≠ 35 by decide), mm_us, mm_un (show (35 : Int) ≠ 34 by decide), f34, f35]
          rw [rd_if1 ⟨r1, g⟩] at hQ0
          have hF : rd_F2 R μ (mm_u (mm_u μ 129 34 (nn + 1)) 129 35 (10 * ww + c - 48)) := rd_F2_u (rd_F2_u rd_F2_r (by omega)) (by omega)
          by_cases f : nn + 1 ≤ 5
          · rw [if_neg (by rw [mm_ltx, mm_wv (by omega) (by omega), mm_wv (by omega) (by omega)]; omega)]
            have g2 := rd_9 (j := 34) (v := nn + 1) (by decide) (by decide) m2 m3 m4 m5
            have g3 := rd_9 (j := 35) (v := 10 * ww + c - 48) (by decide) (by decide) g2.1 g2.2.1 g2.2.2.1 g2.2.2.2
            refine hQ1 _ (by rw [if_neg r0, if_neg r2, rd_if1 ⟨r1, g⟩, if_pos f]) _ hF ⟨⟨?_, ⟨show (0 : Int) ≤ 1 by decide, show (1 : Int) ≤ 4 by decide⟩, fun _ => ⟨?_, mm_us, show 1 ≤ nn + 1 by omega, show nn + 1 ≤ 5 from f⟩, fun z => ?_⟩, g3.1, g3.2.1, g3.2.2.1, g3.2.2.2, fun z => absurd z (show ¬ (1 : Int) = 2 by decide)⟩
            · rw [mm_un (by decide), mm_un (by decide), h33, r1]; rfl
            · rw [mm_un (by decide), mm_us]; rfl
            · rcases z with z | z
              · exact absurd z (show ¬ (1 : Int) = 2 by decide)
              · exact absurd z (show ¬ (1 : Int) = 3 by decide)
          · rw [if_neg f] at hQ0
            rw [if_pos (by rw [mm_ltx, mm_wv (by omega) (by omega), mm_wv (by omega) (by omega)]; omega)]
            exact hQ0 rfl _ hF
        · rw [if_neg (show ¬ (48 ≤ c ∧ c ≤ 57) from g), if_pos rfl]
          exact e82 (fun z => g z.2)
      · rw [if_neg (by rw [mm_eqx, mm_wv (by omega) (by omega), mm_wv (by omega) (by omega)]; exact r1)]
        exact e82 (fun z => r1 z.1)
/-- the text that the reference reads -/
def rd_tr (T : Nat → Int) (N : Nat) (μ : mm_M) : Prop := N ≤ 24 ∧ μ 129 23 = N ∧ ∀ i : Nat, i < N → μ 150 i = T i ∧ 0 ≤ T i ∧ T i ≤ 65535
theorem rd_tr_f (h : rd_tr T N μ) (hf : rd_F2 R μ μ') : rd_tr T N μ' := by
  refine ⟨h.1, by rw [hf 129 23 (by omega)]; exact h.2.1, fun i hi => ?_⟩
  rw [hf 150 _ (by omega)]
  exact h.2.2 i hi
theorem c_220_44 (hq : mm_P w) (h0 : 0 ≤ R ∧ R < 8) (ht : rd_tr T N μ) (hR : μ 129 11 = R) : ∀ (f p : Nat) (σ : rd_T) (μ1 : mm_M), p + f = N → rd_F2 R μ μ1 → rd_RM R μ1 σ → rd_RI p σ →
    (∀ v, rd_run T N f σ p = (none, v) → ∀ μ', rd_F2 R μ μ' → Q (.inl (some (.int (Int32.ofInt (v))))) (mm_hp w (μ') X n)) → (∀ C' S' v, rd_run T N f σ p = (some (C', S'), v) → ∀ μ', rd_F2 R μ μ' → rd_RC R μ' C' → rd_RS R μ' S' → Q (.inl (some (.int (Int32.ofInt (-1))))) (mm_hp w (μ') X n)) → am_E (d + 5) 220 Q (44, [some (.ref 129), some (.int (Int32.ofInt ((p : Int))))], [], mm_hp w μ1 X n) := by
  have hN := ht.1
  intro f
  induction f with
  | zero =>
    intro p σ μ1 hp hf hM hI hQ0 hQ1
    obtain rfl : p = N := by omega
    obtain ⟨q, L, l, C, S⟩ := σ
    have ht1 := rd_tr_f ht hf
    have hR1 : μ1 129 11 = R := by rw [hf 129 11 (by omega)]; exact hR
    obtain ⟨m1, m2, m3, m4, m5, m6⟩ := hM
    dsimp only at m1 m2 m3 m4 m5 m6
    obtain ⟨i1, i2, i3, i4, i5, i6⟩ := hI
    dsimp only at i1 i2 i3 i4 i5 i6
    have hkinds : ∀ y, y ∈ L → 0 ≤ y.1 ∧ y.1 ≤ 3 := fun y hy => (i2 y hy).1
    have hqb := m1.2.1
    have hu := rd_unit_b (q := q) (C := C) (S := S)
    have e95 : rd_fin p (q, L, l, C, S) = (none, (p : Int)) → am_E (d + 5) 220 Q (95, [some (.ref 129), some (.int (Int32.ofInt ((p : Int))))], [], mm_hp w μ1 X n) := by
      intro h
      rw [b_220_95 hq, ht1.2.1]
      exact hQ0 _ h μ1 hf
    rw [b_220_44 hq, ht1.2.1, if_pos (by rw [mm_lex]; exact Int.le_refl _), m1.1]
    by_cases r0 : q.1 = 0
    · rw [if_pos (by rw [r0])]
      exact e95 (if_pos (Or.inl r0))
    · rw [if_neg (by rw [mm_eqx, mm_wv (by omega) (by omega), mm_wv (by omega) (by omega)]; exact r0)]
      by_cases r2 : q.1 = 2
      · rw [if_pos (by rw [r2])]
        exact e95 (if_pos (Or.inr (Or.inl r2)))
      · rw [if_neg (by rw [mm_eqx, mm_wv (by omega) (by omega), mm_wv (by omega) (by omega)]; exact r2), c_173 (d := d + 4) hq m2 i1 (by omega) hkinds, bk_v, b_220_92 hq]
        have heb := rd_enc_b hkinds
        by_cases g : rd_enc L = 0
        · rw [if_pos (by rw [g])]
          refine c_175 (R := R) (C := C) (S := S) (q := q) (d := d + 3) hq h0 hR1 m4 m5.1 m1 (by omega) fun μ2 f1 f2 f3 f4 f5 => ?_
          rw [bk_n, b_220_104 hq]
          have hX2 : rd_RX μ2 L := ⟨by rw [f3]; exact m2.1, rd_F1_cx f1 m2.2⟩
          have hL2 : rd_RL μ2 l := ⟨by rw [f4]; exact m3.1, rd_F1_os f1 m3.2⟩
          refine c_174 (R := R) (C := rd_unit q C S) (L := L) (l := l) (d := d + 2) hq h0 (by rw [f1 129 11 (by omega)]; exact hR1) f2 hL2 hX2 i1 (fun y hy => rd_xb_m (i2 y hy) hu.2) (by omega) (by omega) i6 fun μ3 k1 k2 k3 k4 k5 => ?_
          obtain ⟨y, Z, e1, e2, e3, e4, e5, e6, e7, e8, e9⟩ := rd_ends_t L l (rd_unit q C S) i1
          rw [e1] at k4
          have e25 : μ3 129 25 = (Z.length : Int) + 1 := by rw [k4.1]; simp
          have hZ : Z.length + 1 ≤ 25 := by rw [List.length_cons] at e6; omega
          have hy0 := i2 y (e5 y List.mem_cons_self)
          rw [bk_n, b_220_108 hq]
          refine c_216 (R := R) (C := (rd_ends L l (rd_unit q C S)).2.2) (l := (rd_ends L l (rd_unit q C S)).2.1) (base := y.2.2.1) (d := d + 3) hq h0 (Or.inl rfl) (by rw [k1 129 11 (by omega), f1 129 11 (by omega)]; exact hR1) k2 k3 (by omega) (by omega) (by rw [e25, show (Z.length : Int) + 1 - 1 = Z.length by omega]; exact k4.2.1.2.2.1) hy0.2.2.1 (fun o ho => i6 o (e9 o ho)) fun μ4 j1 j2 j3 j4 j5 => ?_
          have ecl : rd_clo L l (rd_unit q C S) = rd_pour 1 y.2.2.1 (rd_ends L l (rd_unit q C S)).2.1 (rd_ends L l (rd_unit q C S)).2.2 := by
            unfold rd_clo
            rw [e1]
            rfl
          rw [← ecl] at j2
          rw [bk_n, b_220_113 hq]
          refine hQ1 _ _ _ (if_neg (fun z => ?_)) μ4 (rd_F2_t hf (rd_F2_1 (rd_F1_t f1 (rd_F1_t k1 j1)))) j2 (rd_F1_RS j1 (rd_F1_RS k1 (rd_F1_RS f1 m5)))
          rcases z with z | z | z
          · exact r0 z
          · exact r2 z
          · exact z g
        · rw [if_neg (by rw [mm_eqx, mm_wv (by omega) (by omega), mm_wv (by omega) (by omega)]; exact g)]
          exact e95 (if_pos (Or.inr (Or.inr g)))
  | succ f ih =>
    intro p σ μ1 hp hf hM hI hQ0 hQ1
    have ht1 := rd_tr_f ht hf
    have hR1 : μ1 129 11 = R := by rw [hf 129 11 (by omega)]; exact hR
    have htp := ht1.2.2 p (by omega)
    rw [b_220_44 hq, ht1.2.1, if_neg (by rw [mm_lex, mm_wv (by omega) (by omega), mm_wv (by omega) (by omega)]; omega), mm_wv (z := (p : Int)) (by omega) (by omega), mm_gd (by omega), htp.1]
    have er : rd_run T N (f + 1) σ p = (rd_step σ (T p)).elim (none, (p : Int)) fun σ' => rd_run T N f σ' (p + 1) := rfl
    rw [er] at hQ0
    refine c_234 (R := R) (σ := σ) (k := p) (d := d) hq h0 hR1 htp.2 hM hI (by omega) (fun h μ' hf' => ?_) (fun σ' h μ' hf' hm => ?_)
    · rw [bk_v, b_220_62 hq, if_pos rfl]
      rw [h] at hQ0
      exact hQ0 _ rfl μ' (rd_F2_t hf hf')
    · rw [bk_v, b_220_62 hq, if_neg (by decide), show (p : Int) + 1 = ((p + 1 : Nat) : Int) by omega]
      rw [h] at hQ0
      exact ih (p + 1) σ' μ' (by omega) (rd_F2_t hf hf') hm (rd_RI_s hI (by omega) h) hQ0 (fun C' S' v hv => hQ1 C' S' v (by rw [er, h]; exact hv))
theorem c_220 (hq : mm_P w) (h0 : 0 ≤ R ∧ R < 8) (ht : rd_tr T N μ) (hR : μ 129 11 = R) 
    (hQ0 : ∀ v, rd_R T N (rd_q0, [(0, 0, 0, 0, -1)], [], rd_C0, rd_S0) 0 = (none, v) → ∀ μ', rd_F2 R μ μ' → Q (.inl (some (.int (Int32.ofInt (v))))) (mm_hp w (μ') X n)) (hQ1 : ∀ C' S' v, rd_R T N (rd_q0, [(0, 0, 0, 0, -1)], [], rd_C0, rd_S0) 0 = (some (C', S'), v) → ∀ μ', rd_F2 R μ μ' → rd_RC R μ' C' → rd_RS R μ' S' → Q (.inl (some (.int (Int32.ofInt (-1))))) (mm_hp w (μ') X n)) : am_C (d + 6) 220 [.ref 129] (mm_hp w μ X n) Q := by
  rw [en_220 (d := d + 5), b_220_0 hq]
  simp (disch := omega) only [and_self, true_and, mm_ltx, mm_lex, mm_eqx, mm_wv, mm_gd, ↓reduceIte, Int.reduceAdd, Int.reduceSub, Int.reduceNeg, Int.reduceLE, Int.reduceLT, Int.reduceMul, Int.reduceEq, mm_uu (show (129 : Nat) ≠ 141 by decide), hR]
  have hF : rd_F2 R μ (mm_u (mm_u (mm_u (mm_u (mm_u μ 141 R 0) 145 R 0) 129 25 0) 129 31 0) 129 33 0) := rd_F2_u (rd_F2_u (rd_F2_u (rd_F2_u (rd_F2_u rd_F2_r (by omega)) (by omega)) (by omega)) (by omega)) (by omega)
  have e25 : mm_u (mm_u (mm_u (mm_u (mm_u μ 141 R 0) 145 R 0) 129 25 0) 129 31 0) 129 33 0 129 25 = 0 := by rw [mm_un (by decide), mm_un (by decide), mm_us]
  have e31 : mm_u (mm_u (mm_u (mm_u (mm_u μ 141 R 0) 145 R 0) 129 25 0) 129 31 0) 129 33 0 129 31 = 0 := by rw [mm_un (by decide), mm_us]
  have e33 : mm_u (mm_u (mm_u (mm_u (mm_u μ 141 R 0) 145 R 0) 129 25 0) 129 31 0) 129 33 0 129 33 = 0 := mm_us
  have e41 : mm_u (mm_u (mm_u (mm_u (mm_u μ 141 R 0) 145 R 0) 129 25 0) 129 31 0) 129 33 0 141 R = 0 := by rw [mm_uu (by decide), mm_uu (by decide), mm_uu (by decide), mm_uu (by decide), mm_us]
  have e45 : mm_u (mm_u (mm_u (mm_u (mm_u μ 141 R 0) 145 R 0) 129 25 0) 129 31 0) 129 33 0 145 R = 0 := by rw [mm_uu (by decide), mm_uu (by decide), mm_uu (by decide), mm_us]
  generalize mm_u (mm_u (mm_u (mm_u (mm_u μ 141 R 0) 145 R 0) 129 25 0) 129 31 0) 129 33 0 = M at hF e25 e31 e33 e41 e45 ⊢
  rw [c_211 (d := d + 4) hq (by omega), bk_n, b_220_42 hq]
  have hX := rd_opn_X (μ := M) (L := []) (k := 0) (e := 0) (o := 0) ⟨e25, trivial⟩
  rw [e31] at hX
  refine c_220_44 (d := d) hq h0 ht hR N 0 (rd_q0, [(0, 0, 0, 0, -1)], [], rd_C0, rd_S0) _ (by omega) (rd_opn_F hF) ⟨⟨by rw [rd_opn_9 (by decide)]; exact e33, ⟨show (0 : Int) ≤ 0 by decide, show (0 : Int) ≤ 4 by decide⟩, fun z => absurd z (show ¬ (0 : Int) = 1 by decide), fun z => ?_⟩, hX, ⟨by rw [rd_opn_9 (by decide)]; exact e31, trivial⟩, ⟨by rw [rd_opn_o (by decide) (by decide)]; exact e41, fun i hi => absurd hi (Nat.not_lt_zero i)⟩, ⟨by rw [rd_opn_o (by decide) (by decide)]; exact e45, fun i hi => absurd hi (Nat.not_lt_zero i)⟩, fun z => absurd z (show ¬ (0 : Int) = 2 by decide)⟩ ⟨⟨fun _ => rfl, fun z => absurd rfl z⟩, fun y hy => ?_, Nat.le_refl _, Nat.le_refl _, Nat.le_refl _, fun o ho => by cases ho⟩ (fun v hv => hQ0 v ?_) (fun C' S' v hv => hQ1 C' S' v ?_)
  · rcases z with z | z
    · exact absurd z (show ¬ (0 : Int) = 2 by decide)
    · exact absurd z (show ¬ (0 : Int) = 3 by decide)
  · obtain rfl := List.mem_singleton.mp hy
    exact ⟨⟨show (0 : Int) ≤ 0 by decide, show (0 : Int) ≤ 3 by decide⟩, ⟨show (0 : Int) ≤ 0 by decide, show (0 : Int) ≤ 3 by decide⟩, ⟨show (0 : Int) ≤ 0 by decide, show (0 : Int) ≤ 100 by decide⟩, fun z => absurd z (show ¬ (0 : Int) = 3 by decide), fun z => absurd z (show ¬ (0 : Int) = 2 by decide)⟩
  · exact hv
  · exact hv
end RR
