/-! The class's reader: small steps, and the layout of its code. -/
/-- the text that is read -/
def rd_tx (T : Nat → Int) (N : Nat) (μ : mm_M) : Prop := N ≤ 24 ∧ μ 100 1 = N ∧ ∀ i : Nat, i < N → μ 101 i = T i ∧ 0 ≤ T i ∧ T i ≤ 65535
def rd_fr (μ μ' : mm_M) : Prop := ∀ b, b ≠ 127 → b ≠ 102 → b ≠ 105 → b ≠ 106 → μ' b = μ b
def rd_le (μ : mm_M) (C : rd_C) (S : rd_S) (i : Nat) : Prop :=
  ((C.2 i).1 = 0 → μ 105 (rd_ph C i) = 5 ∧ μ 106 (rd_ph C i) = 1000 * (C.2 i).2.1)
  ∧ ((C.2 i).1 = 1 → (0 ≤ (C.2 i).2.1 ∧ 0 ≤ (C.2 i).2.2 ∧ (C.2 i).2.1 + (C.2 i).2.2 ≤ S.1) ∧ μ 105 (rd_ph C i) = 6 ∧ μ 106 (rd_ph C i) = (C.2 i).2.2 ∧ ∀ j : Nat, (j : Int) < (C.2 i).2.2 → μ 105 (rd_ph C i + 1 + j) = 7 ∧ μ 106 (rd_ph C i + 1 + j) = 10 * (S.2 ((C.2 i).2.1.toNat + j)).1 + (S.2 ((C.2 i).2.1.toNat + j)).2)
  ∧ (2 ≤ (C.2 i).1 → (C.2 i).1 ≤ 5 → μ 105 (rd_ph C i) = (C.2 i).1 - 1)
  ∧ ((C.2 i).1 = 6 → (C.2 i).2.1.toNat ≤ C.1 ∧ μ 105 (rd_ph C i) = 8 ∧ μ 106 (rd_ph C i) = rd_ph C (C.2 i).2.1.toNat)
  ∧ ((C.2 i).1 = 7 → (C.2 i).2.1.toNat ≤ C.1 ∧ μ 105 (rd_ph C i) = 9 ∧ μ 106 (rd_ph C i) = rd_ph C (C.2 i).2.1.toNat)
def rd_lay (μ : mm_M) (C : rd_C) (S : rd_S) : Prop := μ 102 4 = rd_ph C C.1 ∧ ∀ i, i < C.1 → rd_le μ C S i
def rd_st (T : Nat → Int) (N : Nat) (μ : mm_M) (p : Nat) (C : rd_C) (S : rd_S) : Prop := rd_tx T N μ ∧ μ 127 2 = p ∧ p ≤ N ∧ rd_lay μ C S ∧ rd_ph C C.1 ≤ p
def rd_bd (T : Nat → Int) (N : Nat) (μ : mm_M) (p : Nat) : Prop := rd_tx T N μ ∧ μ 127 2 = p ∧ p ≤ N ∧ (0 ≤ μ 102 4 ∧ μ 102 4 ≤ 24)
def rd_out (T : Nat → Int) (N : Nat) (μ : mm_M) (r : rd_P) : Prop := (r.1 = true → rd_st T N μ r.2.1 r.2.2.1 r.2.2.2) ∧ (r.1 = false → rd_bd T N μ r.2.1)
section CR
variable {d : Nat} {Q : am_Ou → am_G → Prop} {w : mm_Z} {μ μ' : mm_M} {X : mm_X} {n : mm_N} {T : Nat → Int} {N p : Nat} {C C' : rd_C} {S S' : rd_S} {a b c o k e z : Int}
theorem mm_okch (h0 : 0 ≤ z) (h1 : z ≤ 65535) : (am_ok .char (.int (Int32.ofInt z)) = true) = True := by
  refine eq_true (decide_eq_true ?_)
  obtain ⟨m, rfl⟩ : ∃ m : Nat, z = m := ⟨z.toNat, by omega⟩
  have e : (Int32.ofInt (m : Int)).toUInt32 = UInt32.ofNat m := by rw [Int32.ofInt_eq_ofNat]; rfl
  have e2 : (Int32.ofInt (m : Int)).toUInt32 % 65536 = (Int32.ofInt (m : Int)).toUInt32 := by
    rw [← UInt32.toNat_inj, UInt32.toNat_mod, e]
    have : (UInt32.ofNat m).toNat = m := by
      rw [UInt32.toNat_ofNat']
      omega
    rw [this]
    show m % 65536 = m
    omega
  rw [e2]
  rfl
theorem mm_okc1 (h0 : 0 ≤ z) (h1 : z ≤ 65535) : am_ok .char (.int (Int32.ofInt z)) = true := of_eq_true (mm_okch h0 h1)
theorem rd_fr_r : rd_fr μ μ := fun _ _ _ _ _ => rfl
theorem rd_fr_t {μ1 μ2 μ3 : mm_M} (h1 : rd_fr μ1 μ2) (h2 : rd_fr μ2 μ3) : rd_fr μ1 μ3 := fun b g1 g2 g3 g4 => by rw [h2 b g1 g2 g3 g4, h1 b g1 g2 g3 g4]
theorem rd_fr_u {x : Nat} {i v : Int} (h : rd_fr μ μ') (hx : x = 127 ∨ x = 102 ∨ x = 105 ∨ x = 106) : rd_fr μ (mm_u μ' x i v) := fun b g1 g2 g3 g4 => by
  rw [mm_uu (by omega), h b g1 g2 g3 g4]
theorem rd_tx_f (h : rd_tx T N μ) (hf : rd_fr μ μ') : rd_tx T N μ' := by
  unfold rd_tx at h ⊢
  rw [hf 100 (by decide) (by decide) (by decide) (by decide), hf 101 (by decide) (by decide) (by decide) (by decide)]
  exact h
theorem rd_ch_b (h : rd_tx T N μ) : 0 ≤ rd_ch T N p ∧ rd_ch T N p ≤ 65535 := by
  by_cases g : p < N
  · rw [rd_ch1 g]; exact (h.2.2 p g).2
  · rw [rd_ch0 (by omega)]; decide
theorem c_92 (hq : mm_P w) (h : rd_tx T N μ) (hp : p ≤ 30) : am_C (d + 1) 92 [.ref 100, .int (Int32.ofInt ((p : Int)))] (mm_hp w μ X n) Q ↔ Q (.inl (some (.int (Int32.ofInt (rd_ch T N p))))) (mm_hp w μ X n) := by
  have h1 := h.1
  rw [en_92, b_92_0 hq, h.2.1]
  by_cases g : p < N
  · have g2 := h.2.2 p g
    rw [if_neg (by rw [mm_lex, mm_wv (by omega) (by omega), mm_wv (by omega) (by omega)]; omega), rd_ch1 g, mm_wv (by omega) (by omega), g2.1, mm_gd (by omega), if_pos (mm_okc1 g2.2.1 g2.2.2)]
  · rw [if_pos (by rw [mm_lex, mm_wv (by omega) (by omega), mm_wv (by omega) (by omega)]; omega), rd_ch0 (by omega), if_pos (mm_okc1 (by decide) (by decide))]
theorem c_99 (hq : mm_P w) (h : rd_tx T N μ) (hp : μ 127 2 = p) (hp2 : p ≤ 30) : am_C (d + 2) 99 [.ref 127] (mm_hp w μ X n) Q ↔ Q (.inl (some (.int (Int32.ofInt (rd_ch T N p))))) (mm_hp w μ X n) := by
  have hb := rd_ch_b (p := p) h
  rw [en_99 (d := d + 1), b_99_0 hq, hp, c_92 (d := d) hq h hp2, bk_v, b_99_11 hq, if_pos (mm_okc1 hb.1 hb.2)]
theorem c_96 (hq : mm_P w) (hx : 0 ≤ c ∧ c ≤ 65535) : am_C (d + 1) 96 [.int (Int32.ofInt (c))] (mm_hp w μ X n) Q ↔ Q (.inl (some (.int (Int32.ofInt (rd_if (rd_dg c) 1 0))))) (mm_hp w μ X n) := by
  rw [en_96, b_96_0 hq]
  by_cases g : rd_dg c
  · rw [rd_if1 g]; unfold rd_dg at g
    simp (disch := omega) only [and_self, true_and, mm_ltx, mm_lex, mm_eqx, mm_wv, mm_gd, ↓reduceIte, Int.reduceAdd, Int.reduceSub, Int.reduceNeg, Int.reduceLE, Int.reduceLT, Int.reduceMul, Int.reduceEq, if_pos, if_neg]
  · rw [rd_if0 g]; unfold rd_dg at g
    by_cases a : c < 48
    · simp (disch := omega) only [and_self, true_and, mm_ltx, mm_lex, mm_eqx, mm_wv, mm_gd, ↓reduceIte, Int.reduceAdd, Int.reduceSub, Int.reduceNeg, Int.reduceLE, Int.reduceLT, Int.reduceMul, Int.reduceEq, if_pos, if_neg]
    · simp (disch := omega) only [and_self, true_and, mm_ltx, mm_lex, mm_eqx, mm_wv, mm_gd, ↓reduceIte, Int.reduceAdd, Int.reduceSub, Int.reduceNeg, Int.reduceLE, Int.reduceLT, Int.reduceMul, Int.reduceEq, if_pos, if_neg]
theorem c_97 (hq : mm_P w) (hx : 0 ≤ c ∧ c ≤ 65535) : am_C (d + 1) 97 [.int (Int32.ofInt (c))] (mm_hp w μ X n) Q ↔ Q (.inl (some (.int (Int32.ofInt (rd_if (rd_po c) 1 0))))) (mm_hp w μ X n) := by
  rw [en_97, b_97_0 hq]
  by_cases g : rd_po c
  · rw [rd_if1 g]; unfold rd_po at g
    by_cases a : c = 42
    · simp (disch := omega) only [and_self, true_and, mm_ltx, mm_lex, mm_eqx, mm_wv, mm_gd, ↓reduceIte, Int.reduceAdd, Int.reduceSub, Int.reduceNeg, Int.reduceLE, Int.reduceLT, Int.reduceMul, Int.reduceEq, if_pos, if_neg]
    · simp (disch := omega) only [and_self, true_and, mm_ltx, mm_lex, mm_eqx, mm_wv, mm_gd, ↓reduceIte, Int.reduceAdd, Int.reduceSub, Int.reduceNeg, Int.reduceLE, Int.reduceLT, Int.reduceMul, Int.reduceEq, if_pos, if_neg]
  · rw [rd_if0 g]; unfold rd_po at g
    simp (disch := omega) only [and_self, true_and, mm_ltx, mm_lex, mm_eqx, mm_wv, mm_gd, ↓reduceIte, Int.reduceAdd, Int.reduceSub, Int.reduceNeg, Int.reduceLE, Int.reduceLT, Int.reduceMul, Int.reduceEq, if_pos, if_neg]
theorem c_98 (hq : mm_P w) (hx : 0 ≤ c ∧ c ≤ 65535) : am_C (d + 1) 98 [.int (Int32.ofInt (c))] (mm_hp w μ X n) Q ↔ Q (.inl (some (.int (Int32.ofInt (rd_if (rd_so c) 1 0))))) (mm_hp w μ X n) := by
  rw [en_98, b_98_0 hq]
  by_cases g : rd_so c
  · rw [rd_if1 g]; unfold rd_so at g
    by_cases a : c = 43
    · simp (disch := omega) only [and_self, true_and, mm_ltx, mm_lex, mm_eqx, mm_wv, mm_gd, ↓reduceIte, Int.reduceAdd, Int.reduceSub, Int.reduceNeg, Int.reduceLE, Int.reduceLT, Int.reduceMul, Int.reduceEq, if_pos, if_neg]
    · simp (disch := omega) only [and_self, true_and, mm_ltx, mm_lex, mm_eqx, mm_wv, mm_gd, ↓reduceIte, Int.reduceAdd, Int.reduceSub, Int.reduceNeg, Int.reduceLE, Int.reduceLT, Int.reduceMul, Int.reduceEq, if_pos, if_neg]
  · rw [rd_if0 g]; unfold rd_so at g
    simp (disch := omega) only [and_self, true_and, mm_ltx, mm_lex, mm_eqx, mm_wv, mm_gd, ↓reduceIte, Int.reduceAdd, Int.reduceSub, Int.reduceNeg, Int.reduceLE, Int.reduceLT, Int.reduceMul, Int.reduceEq, if_pos, if_neg]
/-- an order put behind the draft's others -/
def rd_app (μ : mm_M) (a b : Int) : mm_M := mm_u (mm_u (mm_u μ 105 (μ 102 4) a) 106 (μ 102 4) b) 102 4 (μ 102 4 + 1)
theorem c_108 (hq : mm_P w) (h : 0 ≤ μ 102 4 ∧ μ 102 4 ≤ 24) : am_C (d + 1) 108 [.ref 102, .int (Int32.ofInt (a)), .int (Int32.ofInt (b))] (mm_hp w μ X n) Q ↔ if μ 102 4 < 24 then Q (.inl (some (.int (Int32.ofInt (μ 102 4))))) (mm_hp w (rd_app μ a b) X n) else Q (.inl (some (.int (Int32.ofInt (23))))) (mm_hp w μ X n) := by
  rw [en_108, b_108_0 hq]
  have e1 : mm_u μ 105 (mm_w (μ 102 4)) a 102 = μ 102 := mm_uu (by decide)
  have e2 : ∀ i v, mm_u (mm_u μ 105 (mm_w (μ 102 4)) a) 106 i v 102 = μ 102 := fun i v => by rw [mm_uu (by decide), e1]
  have e3 : mm_w (μ 102 4) = μ 102 4 := mm_wv (by omega) (by omega)
  by_cases g : μ 102 4 < 24
  · rw [if_pos (by rw [mm_ltx, mm_wv (by omega) (by omega), mm_wv (by omega) (by omega)]; exact g), if_pos g, e1, e2, mm_us, e3, mm_gd (by omega), mm_gd (by omega), show μ 102 4 + 1 - 1 = μ 102 4 by omega]
    rfl
  · rw [if_neg (by rw [mm_ltx, mm_wv (by omega) (by omega), mm_wv (by omega) (by omega)]; exact g), if_neg g]
theorem rd_app_f (h : rd_fr μ μ') : rd_fr μ (rd_app μ' a b) := rd_fr_u (rd_fr_u (rd_fr_u h (by decide)) (by decide)) (by decide)
theorem rd_app_4 : rd_app μ a b 102 4 = μ 102 4 + 1 := mm_us
theorem rd_app_5 : rd_app μ a b 105 (μ 102 4) = a := by
  unfold rd_app
  rw [mm_uu (by decide), mm_uu (by decide), mm_us]
theorem rd_app_6 : rd_app μ a b 106 (μ 102 4) = b := by
  unfold rd_app
  rw [mm_uu (by decide), mm_us]
theorem rd_app_n {x : Nat} {i : Int} (hx : x = 105 ∨ x = 106) (hi : i ≠ μ 102 4) : rd_app μ a b x i = μ x i := by
  unfold rd_app
  rw [mm_uu (by omega)]
  rcases hx with rfl | rfl
  · rw [mm_uu (by decide), mm_un hi]
  · rw [mm_un hi, mm_uu (by decide)]
theorem rd_app_p : rd_app μ a b 127 = μ 127 := by
  unfold rd_app
  rw [mm_uu (by decide), mm_uu (by decide), mm_uu (by decide)]
/-! layouts -/
theorem rd_ph_m {m : Nat} (hb : ∀ i, i < m → (C.2 i).1 = 1 → 0 ≤ (C.2 i).2.2) : ∀ j, j ≤ m → ∀ i, i ≤ j → rd_ph C i + (j - i : Int) ≤ rd_ph C j := by
  intro j
  induction j with
  | zero =>
    intro _ i hi
    obtain rfl : i = 0 := by omega
    show rd_ph C 0 + (((0 : Nat) : Int) - ((0 : Nat) : Int)) ≤ rd_ph C 0
    omega
  | succ j ih =>
    intro hj i hi
    by_cases q : i = j + 1
    · subst q; omega
    · have h1 := ih (by omega) i (by omega)
      have h2 := hb j (by omega)
      have h3 : rd_ph C (j + 1) = rd_ph C j + 1 + (if (C.2 j).1 = 1 then (C.2 j).2.2 else 0) := rfl
      rw [h3]
      by_cases g : (C.2 j).1 = 1
      · rw [if_pos g]; have := h2 g; omega
      · rw [if_neg g]; omega
theorem rd_lay_b (h : rd_lay μ C S) : ∀ i, i < C.1 → (C.2 i).1 = 1 → 0 ≤ (C.2 i).2.2 := fun i hi g => ((h.2 i hi).2.1 g).1.2.1
theorem rd_lay_m (h : rd_lay μ C S) {i j : Nat} (hi : i ≤ j) (hj : j ≤ C.1) : rd_ph C i + (j - i : Int) ≤ rd_ph C j := rd_ph_m (rd_lay_b h) j hj i hi
theorem rd_lay_0 (h : rd_lay μ C S) : 0 ≤ rd_ph C C.1 := by
  have := rd_lay_m h (Nat.zero_le C.1) (Nat.le_refl _)
  have e : rd_ph C 0 = 0 := rfl
  omega
/-- older entries stay in longer code -/
theorem rd_lay_x (h : rd_lay μ C S) (hc : ∀ i, i < C.1 → C'.2 i = C.2 i) (hl : C.1 ≤ C'.1) (hs : rd_Sx S S') (hm : ∀ q, 0 ≤ q → q < rd_ph C C.1 → μ' 105 q = μ 105 q ∧ μ' 106 q = μ 106 q) : ∀ i, i < C.1 → rd_le μ' C' S' i := by
  intro i hi
  have hph : ∀ m, m ≤ C.1 → rd_ph C' m = rd_ph C m := fun m hm => rd_ph_c _ fun i hi => by rw [hc i (by omega)]; exact ⟨rfl, fun _ => rfl⟩
  have m0 := rd_lay_m h (Nat.zero_le i) (Nat.le_of_lt hi)
  have m1 := rd_lay_m h (show i + 1 ≤ C.1 from hi) (Nat.le_refl _)
  have e0 : rd_ph C 0 = 0 := rfl
  have e1 : rd_ph C (i + 1) = rd_ph C i + 1 + (if (C.2 i).1 = 1 then (C.2 i).2.2 else 0) := rfl
  have p0 : 0 ≤ rd_ph C i := by omega
  obtain ⟨h0, h1, h2, h3, h4⟩ := h.2 i hi
  have p1 : rd_ph C i < rd_ph C C.1 := by
    by_cases g : (C.2 i).1 = 1
    · rw [if_pos g] at e1; have := (h1 g).1; omega
    · rw [if_neg g] at e1; omega
  have hat := hm _ p0 p1
  unfold rd_le
  rw [hc i hi, hph i (by omega), hat.1, hat.2]
  refine ⟨h0, fun g => ?_, h2, fun g => ?_, fun g => ?_⟩
  · obtain ⟨g1, g2, g3, g4⟩ := h1 g
    rw [if_pos g] at e1
    have hs1 := hs.1
    refine ⟨⟨g1.1, g1.2.1, by omega⟩, g2, g3, fun j hj => ?_⟩
    have hat2 := hm (rd_ph C i + 1 + j) (by omega) (by omega)
    rw [hat2.1, hat2.2, hs.2 _ (by omega)]
    exact g4 j hj
  · obtain ⟨g1, g2, g3⟩ := h3 g
    rw [hph _ g1]
    exact ⟨by omega, g2, g3⟩
  · obtain ⟨g1, g2, g3⟩ := h4 g
    rw [hph _ g1]
    exact ⟨by omega, g2, g3⟩
/-- an order that is no reference is put -/
theorem rd_lay_e (h : rd_lay μ C S) (ho : o ≠ 1) (hn : o = 6 ∨ o = 7 → a.toNat ≤ C.1) (h0 : o = 0 → e = 5 ∧ c = 1000 * a) (h2 : 2 ≤ o → o ≤ 5 → e = o - 1) (h6 : o = 6 → e = 8 ∧ c = rd_ph C a.toNat) (h7 : o = 7 → e = 9 ∧ c = rd_ph C a.toNat) : rd_lay (rd_app μ e c) (rd_emit C o a b) S := by
  have hc : ∀ i, i < C.1 → (rd_emit C o a b).2 i = C.2 i := fun i hi => rd_emit_lt hi
  have hph : ∀ m, m ≤ C.1 → rd_ph (rd_emit C o a b) m = rd_ph C m := fun m hm => rd_ph_c _ fun i hi => by rw [hc i (by omega)]; exact ⟨rfl, fun _ => rfl⟩
  refine ⟨?_, fun i hi => ?_⟩
  · show _ = rd_ph (rd_emit C o a b) (C.1 + 1)
    rw [rd_app_4, rd_ph_e, if_neg ho, h.1]; omega
  · have hi : i < C.1 + 1 := hi
    by_cases q : i < C.1
    · refine rd_lay_x h hc (Nat.le_succ _) rd_Sx_r (fun q q0 q1 => ?_) i q
      rw [rd_app_n (Or.inl rfl) (by rw [h.1]; omega), rd_app_n (Or.inr rfl) (by rw [h.1]; omega)]
      exact ⟨rfl, rfl⟩
    · obtain rfl : i = C.1 := by omega
      unfold rd_le
      rw [rd_emit_at, hph C.1 (Nat.le_refl _), ← h.1, rd_app_5, rd_app_6]
      dsimp only
      refine ⟨h0, fun g => absurd g ho, h2, fun g => ?_, fun g => ?_⟩
      · have hn := hn (Or.inl g); rw [hph _ hn]; exact ⟨Nat.le_succ_of_le hn, h6 g⟩
      · have hn := hn (Or.inr g); rw [hph _ hn]; exact ⟨Nat.le_succ_of_le hn, h7 g⟩
/-- a jump's end is told -/
theorem rd_lay_p {i v : Nat} (h : rd_lay μ C S) (hi : i < C.1) (ho : (C.2 i).1 = 6 ∨ (C.2 i).1 = 7) (hv : v ≤ C.1) : rd_lay (mm_u μ 106 (rd_ph C i) (rd_ph C v)) (rd_pa C i v) S := by
  have hph : ∀ m, rd_ph (rd_pa C i v) m = rd_ph C m := fun m => rd_ph_c _ fun j _ => by
    by_cases q : j = i
    · subst q; rw [rd_pa_at]; exact ⟨rfl, fun _ => rfl⟩
    · rw [rd_pa_lt (by omega)]; exact ⟨rfl, fun _ => rfl⟩
  refine ⟨?_, fun j hj => ?_⟩
  · rw [mm_uu (by decide), h.1]; exact (hph _).symm
  · have hj : j < C.1 := hj
    have hjj := h.2 j hj
    by_cases q : j = i
    · subst q
      obtain ⟨h0, h1, h2, h3, h4⟩ := hjj
      unfold rd_le
      rw [rd_pa_at, hph]
      dsimp only
      rw [mm_us, mm_uu (by decide), show ((v : Nat) : Int).toNat = v by omega, hph]
      refine ⟨fun g => by omega, fun g => by omega, fun g1 g2 => by omega, fun g => ⟨hv, (h3 g).2.1, rfl⟩, fun g => ⟨hv, (h4 g).2.1, rfl⟩⟩
    · have hne : ∀ x : Int, x ≠ rd_ph C i → mm_u μ 106 (rd_ph C i) (rd_ph C v) 106 x = μ 106 x := fun x hx => mm_un hx
      have h5 : mm_u μ 106 (rd_ph C i) (rd_ph C v) 105 = μ 105 := mm_uu (by decide)
      have m0 : ∀ a b : Nat, a < b → b ≤ C.1 → rd_ph C a + 1 ≤ rd_ph C b := fun a b h1 h2 => by have := rd_lay_m h (Nat.le_of_lt h1) h2; omega
      obtain ⟨h0, h1, h2, h3, h4⟩ := hjj
      have pne : rd_ph C j ≠ rd_ph C i := by
        by_cases g : j < i
        · have := m0 j i g (by omega); omega
        · have := m0 i j (by omega) (by omega); omega
      unfold rd_le
      rw [rd_pa_lt (by omega), hph, h5, hne _ pne]
      refine ⟨h0, fun g => ?_, h2, fun g => ?_, fun g => ?_⟩
      · obtain ⟨g1, g2, g3, g4⟩ := h1 g
        refine ⟨g1, g2, g3, fun k hk => ?_⟩
        have e1 : rd_ph C (j + 1) = rd_ph C j + 1 + (if (C.2 j).1 = 1 then (C.2 j).2.2 else 0) := rfl
        rw [if_pos g] at e1
        rw [hne _ (by
          by_cases g : j < i
          · have := rd_lay_m h (show j + 1 ≤ i from g) (by omega); omega
          · have := m0 i j (by omega) (by omega); omega)]
        exact g4 k hk
      · rw [hph]; exact h3 g
      · rw [hph]; exact h4 g
/-- nothing of the class's rows tells of the second end -/
theorem rd_lay_q {i v : Int} (h : rd_lay μ C S) (hi : ∀ j : Nat, (j : Int) = i → (C.2 j).1 ≠ 1) : rd_lay μ (rd_pb C i v) S := by
  have hc : ∀ j : Nat, ((rd_pb C i v).2 j).1 = (C.2 j).1 ∧ ((rd_pb C i v).2 j).2.1 = (C.2 j).2.1 ∧ ((C.2 j).1 = 1 → ((rd_pb C i v).2 j).2.2 = (C.2 j).2.2) := fun j => by
    by_cases q : (j : Int) = i
    · subst q; rw [rd_pb_at]; exact ⟨rfl, rfl, fun g => absurd g (hi j rfl)⟩
    · rw [rd_pb_lt q]; exact ⟨rfl, rfl, fun _ => rfl⟩
  have hph : ∀ m, rd_ph (rd_pb C i v) m = rd_ph C m := fun m => (rd_ph_c _ fun j _ => ⟨(hc j).1.symm, fun g => ((hc j).2.2 g).symm⟩).symm
  refine ⟨h.1.trans (hph _).symm, fun j hj => ?_⟩
  obtain ⟨h0, h1, h2, h3, h4⟩ := h.2 j hj
  unfold rd_le
  rw [(hc j).1, (hc j).2.1, hph, hph]
  refine ⟨h0, fun g => ?_, h2, h3, h4⟩
  rw [(hc j).2.2 g]
  exact h1 g
/-- a reference of k shifts so far is being put -/
def rd_mid (μ0 μ : mm_M) (C : rd_C) (S0 S : rd_S) (k : Nat) : Prop := rd_lay μ0 C S0 ∧ (∀ q, 0 ≤ q → q < rd_ph C C.1 → μ 105 q = μ0 105 q ∧ μ 106 q = μ0 106 q) ∧ μ 105 (rd_ph C C.1) = 6 ∧ μ 106 (rd_ph C C.1) = k ∧ μ 102 4 = rd_ph C C.1 + 1 + k ∧ S.1 = S0.1 + k ∧ rd_Sx S0 S ∧ ∀ j : Nat, j < k → μ 105 (rd_ph C C.1 + 1 + j) = 7 ∧ μ 106 (rd_ph C C.1 + 1 + j) = 10 * (S.2 (S0.1 + j)).1 + (S.2 (S0.1 + j)).2
theorem rd_mid_0 (h : rd_lay μ C S) : rd_mid μ (rd_app μ 6 0) C S S 0 := by
  refine ⟨h, fun q q0 q1 => ?_, ?_, ?_, ?_, rfl, rd_Sx_r, fun j hj => by omega⟩
  · rw [rd_app_n (Or.inl rfl) (by rw [h.1]; omega), rd_app_n (Or.inr rfl) (by rw [h.1]; omega)]
    exact ⟨rfl, rfl⟩
  · rw [← h.1, rd_app_5]
  · rw [← h.1, rd_app_6]; rfl
  · rw [rd_app_4, h.1]; omega
theorem rd_mid_s {μ0 : mm_M} {S0 : rd_S} {k : Nat} {v : Int} (h : rd_mid μ0 μ C S0 S k) (hv : v = 10 * a + b) : rd_mid μ0 (mm_u (rd_app μ 7 v) 106 (rd_ph C C.1) ((k : Int) + 1)) C S0 (rd_push S (a, b)) (k + 1) := by
  obtain ⟨h1, h2, h3, h4, h5, h6, h7, h8⟩ := h
  have hx : rd_Sx S (rd_push S (a, b)) := ⟨Nat.le_succ _, fun j hj => if_neg (by omega)⟩
  have hps : ∀ j : Nat, (rd_push S (a, b)).2 j = if j = S.1 then (a, b) else S.2 j := fun j => rfl
  refine ⟨h1, fun q q0 q1 => ?_, ?_, ?_, ?_, by show S.1 + 1 = _; omega, rd_Sx_t h7 hx, fun j hj => ?_⟩
  · rw [mm_uu (by decide), rd_app_n (Or.inl rfl) (by omega), mm_un (by omega), rd_app_n (Or.inr rfl) (by omega)]
    exact h2 q q0 q1
  · rw [mm_uu (by decide), rd_app_n (Or.inl rfl) (by omega)]; exact h3
  · rw [mm_us]; omega
  · rw [mm_uu (by decide), rd_app_4]; omega
  · rw [mm_uu (by decide), mm_un (by omega), hps]
    by_cases q2 : j = k
    · subst q2
      have e1 : rd_ph C C.1 + 1 + (j : Int) = μ 102 4 := by omega
      rw [e1, rd_app_5, rd_app_6, if_pos (by omega)]
      exact ⟨rfl, hv⟩
    · rw [rd_app_n (Or.inl rfl) (by omega), rd_app_n (Or.inr rfl) (by omega), if_neg (by omega)]
      exact h8 j (by omega)
theorem rd_mid_e {μ0 : mm_M} {S0 : rd_S} {k : Nat} (h : rd_mid μ0 μ C S0 S k) : rd_lay μ (rd_emit C 1 S0.1 ((S.1 : Int) - S0.1)) S := by
  obtain ⟨h1, h2, h3, h4, h5, h6, h7, h8⟩ := h
  have ek : (S.1 : Int) - S0.1 = k := by omega
  rw [ek]
  have hc : ∀ i, i < C.1 → (rd_emit C 1 S0.1 k).2 i = C.2 i := fun i hi => rd_emit_lt hi
  have hph : ∀ m, m ≤ C.1 → rd_ph (rd_emit C 1 S0.1 k) m = rd_ph C m := fun m hm => rd_ph_c _ fun i hi => by rw [hc i (by omega)]; exact ⟨rfl, fun _ => rfl⟩
  refine ⟨?_, fun i hi => ?_⟩
  · show _ = rd_ph (rd_emit C 1 S0.1 k) (C.1 + 1)
    rw [rd_ph_e, if_pos rfl, h5]
  · have hi : i < C.1 + 1 := hi
    by_cases q : i < C.1
    · exact rd_lay_x h1 hc (Nat.le_succ _) h7 h2 i q
    · obtain rfl : i = C.1 := by omega
      unfold rd_le
      rw [rd_emit_at, hph C.1 (Nat.le_refl _)]
      dsimp only
      refine ⟨fun g => absurd g (by decide), fun _ => ⟨⟨by omega, by omega, by omega⟩, h3, h4, fun j hj => ?_⟩, fun g => absurd g (by decide), fun g => absurd g (by decide), fun g => absurd g (by decide)⟩
      rw [show ((S0.1 : Nat) : Int).toNat = S0.1 by omega]
      exact h8 j (by omega)
end CR
