/-! A sign's place in a text of the class. -/
/-- the place of b among the k values from i on -/
def mm_ixk (f : Nat → Int32) (b : Int32) : Nat → Nat → Int
  | 0, _ => -1
  | k + 1, i => if f i = b then i else mm_ixk f b k (i + 1)
section IX
variable {d : Nat} {Q : am_Ou → am_G → Prop} {w : mm_Z} {μ : mm_M} {X : mm_X} {n : mm_N} {c x t : Int} {a : Nat} {g : am_G}
theorem ix_eq (h0 : 0 ≤ c) (h1 : c ≤ 255) (g0 : 0 ≤ t) (g1 : t < 128) : (Int32.ofInt t = (Int32.ofInt c).toInt8.toInt32) = (c = t) := by
  refine propext ?_
  rw [← Int32.toInt_inj, Int8.toInt_toInt32, Int32.toInt_toInt8, Int32.toInt_ofInt_of_le (by omega) (by omega), Int32.toInt_ofInt_of_le (by omega) (by omega)]
  rw [Int.bmod_def]
  have : (2 ^ 8 : Nat) = 256 := by decide
  rw [this]
  constructor
  · intro q; split at q <;> omega
  · intro q; split <;> omega
theorem mm_old (h : 2 ≤ a ∧ a ≤ 8) : ∃ V : Nat → Value, (mm_hp w μ X n).1 a = some (.inr (13, V)) ∧ V 0 = .ref (a + 10) ∧ V 1 = .int 0 := by
  refine ⟨fun k => if k = 0 then .ref (a + 10) else if k = 1 then .int 0 else w.2.2.1, ?_, if_pos rfl, (if_neg (by decide)).trans (if_pos rfl)⟩
  show (if a < 32 then am_g0m w.1 w.2.1 w.2.2.1 a else _) = _
  rw [if_pos (by omega)]
  unfold am_g0m
  rw [if_neg (by omega), if_pos h]
theorem mm_oldt (h : 2 ≤ a ∧ a ≤ 8) : (mm_hp w μ X n).1 (a + 10) = some (.inl (.byte, (am_txt a).length, .inl fun j => (am_txt a).getD j 0)) := by
  show (if a + 10 < 32 then am_g0m w.1 w.2.1 w.2.2.1 (a + 10) else _) = _
  rw [if_pos (by omega)]
  unfold am_g0m
  have hm : a + 10 ∈ am_old1 := by
    rcases (by omega : a = 2 ∨ a = 3 ∨ a = 4 ∨ a = 5 ∨ a = 6 ∨ a = 7 ∨ a = 8) with rfl | rfl | rfl | rfl | rfl | rfl | rfl <;> decide
  have e1 : am_oll (a + 10) = am_txt a := by
    unfold am_oll
    rw [if_neg (by omega), if_neg (by omega), if_neg (by omega)]
    rfl
  have e2 : am_oty (a + 10) = .byte := by unfold am_oty; rw [if_neg (by omega)]
  rw [if_neg (by omega), if_neg (by omega), if_pos hm, e1, e2]
theorem mm_ixk_b (f : Nat → Int32) (b : Int32) : ∀ k i, -1 ≤ mm_ixk f b k i ∧ mm_ixk f b k i < i + k ∨ mm_ixk f b k i = -1 := by
  intro k
  induction k with
  | zero => intro i; exact Or.inr rfl
  | succ k ih =>
    intro i
    unfold mm_ixk
    split
    · left; omega
    · rcases ih (i + 1) with q | q
      · left; omega
      · right; exact q
theorem am_iat_y {n : Nat} {f : Nat → Int32} {x : Int32} (h : g.1 a = some (.inl (.byte, n, .inl f))) (hx : am_out x n = false) : am_iat .baload g a x = some (.int (f x.toNatClampNeg)) := by
  unfold am_iat am_ai
  simp [h, hx]
theorem c_290 {f : Nat → Int32} {N : Nat} {b : Int32} (h : g.1 a = some (.inl (.byte, N, .inl f))) (hN : N < 100) : am_C (d + 1) 290 [.ref a, .int b, .int 0, .int (nI N)] g Q ↔ Q (.inl (some (.int (Int32.ofInt (mm_ixk f b.toInt8.toInt32 N 0))))) g := by
  have loop : ∀ (k i : Nat), i + k = N → (am_E d 290 Q (7, [some (.ref a), some (.int b), some (.int 0), some (.int (nI N)), some (.int b.toInt8.toInt32), some (.int (nI i))], [], g) ↔ Q (.inl (some (.int (Int32.ofInt (mm_ixk f b.toInt8.toInt32 k i))))) g) := by
    intro k
    induction k with
    | zero =>
      intro i hi
      obtain rfl : i = N := by omega
      simp only [x_290_7, x_290_9, lc_I_5, lc_I_3, x_290_10, am_cmp_ge, am_E_ite]
      rw [if_pos (Int32.le_refl _)]
      simp only [x_290_31, x_290_32]
      rw [if_pos (by decide)]
      exact Iff.rfl
    | succ k ih =>
      intro i hi
      have hlt : ¬ nI N ≤ nI i := nI_ge (by omega) (by omega)
      have e3 : (nI i).toNatClampNeg = i := nI_clamp (by omega)
      have e4 : am_iat .baload g a (nI i) = some (.int (f i)) := by rw [am_iat_y h (am_out_nI (by omega) (by omega)), e3]
      have hinc : ∀ g', am_E d 290 Q (25, [some (.ref a), some (.int b), some (.int 0), some (.int (nI N)), some (.int b.toInt8.toInt32), some (.int (nI i))], [], g') ↔ am_E d 290 Q (28, [some (.ref a), some (.int b), some (.int 0), some (.int (nI N)), some (.int b.toInt8.toInt32), some (.int (nI (i + 1)))], [], g') := fun g' => by
        rw [x_290_25 (x := nI i) rfl (by simp)]
        rw [← nI_succ]
        exact Iff.rfl
      simp only [x_290_7, x_290_9, lc_I_5, lc_I_3, x_290_10, am_cmp_ge, am_E_ite]
      rw [if_neg hlt]
      simp only [x_290_13, lc_A_0, x_290_14, lc_I_5, x_290_16, e4, am_kv_some, x_290_17, lc_I_4, x_290_19, am_cmp_ne, am_E_ite]
      unfold mm_ixk
      by_cases q : f i = b.toInt8.toInt32
      · rw [if_pos q, if_pos q]
        simp only [x_290_22, lc_I_5, x_290_24]
        rw [if_pos (by simp [am_ok])]
        rw [show Int32.ofInt (i : Int) = nI i from by unfold nI; exact Int32.ofInt_eq_ofNat]
      · rw [if_neg q, if_neg q, hinc, x_290_28, ih (i + 1) (by omega)]
  rw [am_C_in (by simp [am_arg, m_290, Value.category]), show am_loc 290 [.ref a, .int b, .int 0, .int (nI N)] = [some (.ref a), some (.int b), some (.int 0), some (.int (nI N)), none, none] from by simp [am_loc, am_arg, m_290, Value.category, List.replicate]]
  simp only [x_290_0, lc_I_1, x_290_1, x_290_2, sc_I_4 (l3 := some (.int (nI N))) rfl, x_290_4, lc_I_2, x_290_5, sc_I_5 (l4 := some (.int b.toInt8.toInt32)) rfl]
  exact loop N 0 (by omega)
theorem c_288 {b : Int32} : am_C (d + 1) 288 [.int b] g Q ↔ Q (.inl (some (.int (if b < 0 then 0 else if (255 : Int32) < b then 0 else 1)))) g := by
  rw [am_C_in (by simp [am_arg, m_288, Value.category]), show am_loc 288 [.int b] = [some (.int b)] from by simp [am_loc, am_arg, m_288, Value.category, List.replicate]]
  simp only [x_288_0, lc_I_0, x_288_1, am_cmp_lt, am_E_ite]
  by_cases q : b < 0
  · rw [if_pos q, if_pos q]
    simp only [x_288_15, x_288_16]
    rw [if_pos (by decide)]
  · rw [if_neg q, if_neg q]
    simp only [x_288_4, lc_I_0, x_288_5, x_288_8, am_cmp_gt, am_E_ite]
    by_cases q2 : (255 : Int32) < b
    · rw [if_pos q2, if_pos q2]
      simp only [x_288_15, x_288_16]
      rw [if_pos (by decide)]
    · rw [if_neg q2, if_neg q2]
      simp only [x_288_11, x_288_12, x_288_16]
      rw [if_pos (by decide)]
theorem c_279 (h : 2 ≤ a ∧ a ≤ 8) : am_C (d + 1) 279 [.ref a] (mm_hp w μ X n) Q ↔ Q (.inl (some (.int 1))) (mm_hp w μ X n) := by
  obtain ⟨V, v0, v1, v2⟩ := mm_old (w := w) (μ := μ) (X := X) (n := n) h
  have e1 : am_S 279 (.getstatic 38) 0 [some (.ref a)] [] (mm_hp w μ X n) = am_go 3 [some (.ref a)] [.int 1] (mm_hp w μ X n) := by
    unfold am_S; dsimp only
    rw [show am_gs 279 38 = some 101 from by decide +kernel]
    rfl
  rw [am_C_in (by simp [am_arg, m_279, Value.category]), show am_loc 279 [.ref a] = [some (.ref a)] from by simp [am_loc, am_arg, m_279, Value.category, List.replicate], x_279_0, e1, am_K_go]
  simp only [x_279_3, am_cmp_eq, am_E_ite]
  rw [if_neg (by decide)]
  simp only [x_279_6, lc_A_0, x_279_7, am_gf_at v0, v2, am_kv_some, x_279_10, am_cmp_ne, am_E_ite]
  first | rw [if_pos (by decide)] | rw [if_neg (by decide)]
  simp only [x_279_13, x_279_14, x_279_18]
  rw [if_pos (by decide)]
theorem c_275 (h : 2 ≤ a ∧ a ≤ 8) : am_C (d + 1) 275 [.ref a] (mm_hp w μ X n) Q ↔ Q (.inl (some (.int 0))) (mm_hp w μ X n) := by
  obtain ⟨V, v0, v1, v2⟩ := mm_old (w := w) (μ := μ) (X := X) (n := n) h
  have e1 : am_S 275 (.getstatic 38) 0 [some (.ref a)] [] (mm_hp w μ X n) = am_go 3 [some (.ref a)] [.int 1] (mm_hp w μ X n) := by
    unfold am_S; dsimp only
    rw [show am_gs 275 38 = some 101 from by decide +kernel]
    rfl
  rw [am_C_in (by simp [am_arg, m_275, Value.category]), show am_loc 275 [.ref a] = [some (.ref a)] from by simp [am_loc, am_arg, m_275, Value.category, List.replicate], x_275_0, e1, am_K_go]
  simp only [x_275_3, am_cmp_eq, am_E_ite]
  rw [if_neg (by decide)]
  simp only [x_275_6, lc_A_0, x_275_7, am_gf_at v0, v2, am_kv_some, x_275_10, x_275_14]
  rw [if_pos (by decide)]
theorem mm_oldc (h : 2 ≤ a ∧ a ≤ 8) : am_oc (mm_hp w μ X n) a = some 13 := by
  obtain ⟨V, v0, v1, v2⟩ := mm_old (w := w) (μ := μ) (X := X) (n := n) h
  unfold am_oc
  rw [v0]
theorem c_280 (h : 2 ≤ a ∧ a ≤ 8) : am_C (d + 2) 280 [.ref a] (mm_hp w μ X n) Q ↔ Q (.inl (some (.int (nI (am_txt a).length)))) (mm_hp w μ X n) := by
  obtain ⟨V, v0, v1, v2⟩ := mm_old (w := w) (μ := μ) (X := X) (n := n) h
  have v3 := mm_oldt (w := w) (μ := μ) (X := X) (n := n) h
  have e1 : am_sz (mm_hp w μ X n) (a + 10) = some (am_txt a).length := by unfold am_sz; rw [v3]
  rw [am_C_in (by simp [am_arg, m_280, Value.category]), show am_loc 280 [.ref a] = [some (.ref a)] from by simp [am_loc, am_arg, m_280, Value.category, List.replicate]]
  simp only [x_280_0, lc_A_0, x_280_1, am_gf_at v0, v1, am_kv_some, x_280_4, e1, Option.map_some, x_280_5, z_280_6 (show ([Value.int (Int32.ofNat (am_txt a).length)] : List Value).length ≤ 4 by simp) (mm_oldc h)]
  rw [c_275 h, bk_v, x_280_9, x_280_10]
  have e2 : (Int32.ofNat (am_txt a).length) >>> ((0 : Int32) &&& 31) = nI (am_txt a).length := by
    rcases (by omega : a = 2 ∨ a = 3 ∨ a = 4 ∨ a = 5 ∨ a = 6 ∨ a = 7 ∨ a = 8) with rfl | rfl | rfl | rfl | rfl | rfl | rfl <;> decide
  rw [e2, if_pos (by simp [am_ok])]
theorem c_268 {a b : Int} (hq : mm_P w) (h1 : 0 ≤ a ∧ a ≤ 100) (h2 : 0 ≤ b ∧ b ≤ 100) : am_C (d + 1) 268 [.int (Int32.ofInt (a)), .int (Int32.ofInt (b))] (mm_hp w μ X n) Q ↔ Q (.inl (some (.int (Int32.ofInt (if a ≤ b then b else a))))) (mm_hp w μ X n) := by
  simp only [en_268, b_268_0 hq]
  by_cases e : a ≤ b
  · by_cases e2 : a = b
    · subst e2
      simp (disch := omega) only [and_self, true_and, mm_ltx, mm_lex, mm_eqx, mm_wv, mm_gd, ↓reduceIte, Int.reduceAdd, Int.reduceSub, Int.reduceNeg, Int.reduceLE, Int.reduceLT, Int.reduceMul, Int.reduceEq, if_pos, if_neg]
    · simp (disch := omega) only [and_self, true_and, mm_ltx, mm_lex, mm_eqx, mm_wv, mm_gd, ↓reduceIte, Int.reduceAdd, Int.reduceSub, Int.reduceNeg, Int.reduceLE, Int.reduceLT, Int.reduceMul, Int.reduceEq, if_pos, if_neg]
  · simp (disch := omega) only [and_self, true_and, mm_ltx, mm_lex, mm_eqx, mm_wv, mm_gd, ↓reduceIte, Int.reduceAdd, Int.reduceSub, Int.reduceNeg, Int.reduceLE, Int.reduceLT, Int.reduceMul, Int.reduceEq, if_pos, if_neg]
theorem c_289 {N : Nat} {f : Nat → Int32} (hq : mm_P w) (h : (mm_hp w μ X n).1 a = some (.inl (.byte, N, .inl f))) (hN : N < 100) (h0 : 0 < N) (hc : 0 ≤ c ∧ c ≤ 65535) : am_C (d + 2) 289 [.ref a, .int (Int32.ofInt c), .int 0, .int (nI N)] (mm_hp w μ X n) Q ↔ Q (.inl (some (.int (Int32.ofInt (if c ≤ 255 then mm_ixk f (Int32.ofInt c).toInt8.toInt32 N 0 else -1))))) (mm_hp w μ X n) := by
  have e1 : am_sz (mm_hp w μ X n) a = some N := by unfold am_sz; rw [h]
  have k0 : ¬ (Int32.ofInt c < 0) := by rw [show (0 : Int32) = Int32.ofInt 0 from rfl, mm_ltx, mm_wv (by omega) (by omega), mm_wv (by omega) (by omega)]; omega
  rw [am_C_in (by simp [am_arg, m_289, Value.category]), show am_loc 289 [.ref a, .int (Int32.ofInt c), .int 0, .int (nI N)] = [some (.ref a), some (.int (Int32.ofInt c)), some (.int 0), some (.int (nI N))] from by simp [am_loc, am_arg, m_289, Value.category, List.replicate]]
  rw [x_289_0, lc_I_1, z_289_1 (by simp), c_288, bk_v, if_neg k0, x_289_4, am_cmp_ne]
  by_cases q : c ≤ 255
  · have k1 : ¬ ((255 : Int32) < Int32.ofInt c) := by rw [show (255 : Int32) = Int32.ofInt 255 from rfl, mm_ltx, mm_wv (by omega) (by omega), mm_wv (by omega) (by omega)]; omega
    rw [if_neg k1, if_pos q]
    simp only [am_E_ite]
    rw [if_neg (by decide)]
    simp only [x_289_9, lc_I_2, x_289_10]
    rw [z_289_11 (by simp), show (0 : Int32) = Int32.ofInt 0 from rfl, c_268 hq (by decide) (by decide), bk_v, if_pos (by decide), x_289_14, sc_I_2 rfl, x_289_15, lc_I_3, x_289_16, lc_A_0, x_289_17, e1]
    simp only [Option.map_some, am_kv_some]
    have e5 : ∀ k : Nat, Int32.ofNat k = Int32.ofInt (k : Int) := fun k => Int32.ofInt_eq_ofNat.symm
    rw [z_289_18 (by simp), show nI N = Int32.ofInt (N : Int) from e5 N, e5 N, c_269 hq (by omega) (by omega), bk_v, if_pos (Int.le_refl _), x_289_21, sc_I_3 rfl, x_289_22, lc_I_2, x_289_23, lc_I_3, x_289_24, am_cmp_lt]
    simp only [am_E_ite]
    rw [if_pos (by rw [mm_ltx, mm_wv (by omega) (by omega), mm_wv (by omega) (by omega)]; omega), x_289_29, lc_A_0, x_289_30, lc_I_1, x_289_31, lc_I_2, x_289_32, lc_I_3, z_289_33 (by simp), show Int32.ofInt 0 = (0 : Int32) from rfl, ← e5 N, show Int32.ofNat N = nI N from rfl, c_290 (d := d) h hN, bk_v, x_289_36, if_pos (by simp [am_ok])]
  · have k1 : (255 : Int32) < Int32.ofInt c := by rw [show (255 : Int32) = Int32.ofInt 255 from rfl, mm_ltx, mm_wv (by omega) (by omega), mm_wv (by omega) (by omega)]; omega
    rw [if_pos k1, if_neg q]
    simp only [am_E_ite]
    rw [if_pos (by decide), x_289_7, x_289_8, if_pos (by decide)]
    exact Iff.rfl
theorem c_277 (hq : mm_P w) (h : 2 ≤ a ∧ a ≤ 8) (hc : 0 ≤ c ∧ c ≤ 65535) : am_C (d + 4) 277 [.ref a, .int (Int32.ofInt c)] (mm_hp w μ X n) Q ↔ Q (.inl (some (.int (Int32.ofInt (if c ≤ 255 then mm_ixk (fun j => (am_txt a).getD j 0) (Int32.ofInt c).toInt8.toInt32 (am_txt a).length 0 else -1))))) (mm_hp w μ X n) := by
  obtain ⟨V, v0, v1, v2⟩ := mm_old (w := w) (μ := μ) (X := X) (n := n) h
  have v3 := mm_oldt (w := w) (μ := μ) (X := X) (n := n) h
  have hl : (am_txt a).length < 100 ∧ 0 < (am_txt a).length := by
    rcases (by omega : a = 2 ∨ a = 3 ∨ a = 4 ∨ a = 5 ∨ a = 6 ∨ a = 7 ∨ a = 8) with rfl | rfl | rfl | rfl | rfl | rfl | rfl <;> decide
  rw [am_C_in (by simp [am_arg, m_277, Value.category]), show am_loc 277 [.ref a, .int (Int32.ofInt c)] = [some (.ref a), some (.int (Int32.ofInt c))] from by simp [am_loc, am_arg, m_277, Value.category, List.replicate]]
  rw [x_277_0, lc_A_0, x_277_1, lc_I_1, x_277_2, z_277_3 (by simp) (mm_oldc h)]
  rw [am_C_in (by simp [am_arg, m_278, Value.category]), show am_loc 278 [.ref a, .int (Int32.ofInt c), .int 0] = [some (.ref a), some (.int (Int32.ofInt c)), some (.int 0)] from by simp [am_loc, am_arg, m_278, Value.category, List.replicate]]
  rw [x_278_0, lc_A_0, z_278_1 (by simp) (mm_oldc h), c_279 (d := d + 1) h, bk_v, x_278_4, am_cmp_eq]
  simp only [am_E_ite]
  rw [if_neg (by decide), x_278_7, lc_A_0, x_278_8, am_gf_at v0, v1, am_kv_some, x_278_11, lc_I_1, x_278_12, lc_I_2, x_278_13, lc_A_0, z_278_14 (by simp) (mm_oldc h), c_280 h, bk_v, z_278_17 (by simp), c_289 hq v3 hl.1 hl.2 hc, bk_v, x_278_20, x_278_36, if_pos (by simp [am_ok]), bk_v, x_277_6, if_pos (by simp [am_ok])]
theorem ix_t2 {b : Int32} : mm_ixk (fun j => (am_txt 2).getD j 0) b (am_txt 2).length 0 = if Int32.ofInt 48 = b then 0 else if Int32.ofInt 49 = b then 1 else if Int32.ofInt 50 = b then 2 else if Int32.ofInt 51 = b then 3 else if Int32.ofInt 52 = b then 4 else if Int32.ofInt 53 = b then 5 else if Int32.ofInt 54 = b then 6 else if Int32.ofInt 55 = b then 7 else if Int32.ofInt 56 = b then 8 else if Int32.ofInt 57 = b then 9 else if Int32.ofInt 43 = b then 10 else if Int32.ofInt 45 = b then 11 else if Int32.ofInt 42 = b then 12 else if Int32.ofInt 47 = b then 13 else if Int32.ofInt 63 = b then 14 else if Int32.ofInt 58 = b then 15 else if Int32.ofInt 40 = b then 16 else if Int32.ofInt 41 = b then 17 else if Int32.ofInt 120 = b then 18 else if Int32.ofInt 121 = b then 19 else if Int32.ofInt 122 = b then 20 else if Int32.ofInt 60 = b then 21 else if Int32.ofInt 62 = b then 22 else if Int32.ofInt 94 = b then 23 else if Int32.ofInt 36 = b then 24 else -1 := rfl
theorem ix_c2 (h0 : 0 ≤ c) (h1 : c ≤ 255) : mm_ixk (fun j => (am_txt 2).getD j 0) (Int32.ofInt c).toInt8.toInt32 (am_txt 2).length 0 = if c = 48 then 0 else if c = 49 then 1 else if c = 50 then 2 else if c = 51 then 3 else if c = 52 then 4 else if c = 53 then 5 else if c = 54 then 6 else if c = 55 then 7 else if c = 56 then 8 else if c = 57 then 9 else if c = 43 then 10 else if c = 45 then 11 else if c = 42 then 12 else if c = 47 then 13 else if c = 63 then 14 else if c = 58 then 15 else if c = 40 then 16 else if c = 41 then 17 else if c = 120 then 18 else if c = 121 then 19 else if c = 122 then 20 else if c = 60 then 21 else if c = 62 then 22 else if c = 94 then 23 else if c = 36 then 24 else -1 := by
  rw [ix_t2]
  repeat (refine ite_congr (ix_eq h0 h1 (by decide) (by decide)) (fun _ => rfl) (fun _ => ?_))
  rfl
theorem ix_t3 {b : Int32} : mm_ixk (fun j => (am_txt 3).getD j 0) b (am_txt 3).length 0 = if Int32.ofInt 120 = b then 0 else if Int32.ofInt 121 = b then 1 else if Int32.ofInt 122 = b then 2 else -1 := rfl
theorem ix_c3 (h0 : 0 ≤ c) (h1 : c ≤ 255) : mm_ixk (fun j => (am_txt 3).getD j 0) (Int32.ofInt c).toInt8.toInt32 (am_txt 3).length 0 = if c = 120 then 0 else if c = 121 then 1 else if c = 122 then 2 else -1 := by
  rw [ix_t3]
  repeat (refine ite_congr (ix_eq h0 h1 (by decide) (by decide)) (fun _ => rfl) (fun _ => ?_))
  rfl
theorem ix_t4 {b : Int32} : mm_ixk (fun j => (am_txt 4).getD j 0) b (am_txt 4).length 0 = if Int32.ofInt 48 = b then 0 else if Int32.ofInt 49 = b then 1 else if Int32.ofInt 50 = b then 2 else if Int32.ofInt 51 = b then 3 else if Int32.ofInt 52 = b then 4 else if Int32.ofInt 53 = b then 5 else if Int32.ofInt 60 = b then 6 else if Int32.ofInt 62 = b then 7 else if Int32.ofInt 94 = b then 8 else if Int32.ofInt 36 = b then 9 else -1 := rfl
theorem ix_c4 (h0 : 0 ≤ c) (h1 : c ≤ 255) : mm_ixk (fun j => (am_txt 4).getD j 0) (Int32.ofInt c).toInt8.toInt32 (am_txt 4).length 0 = if c = 48 then 0 else if c = 49 then 1 else if c = 50 then 2 else if c = 51 then 3 else if c = 52 then 4 else if c = 53 then 5 else if c = 60 then 6 else if c = 62 then 7 else if c = 94 then 8 else if c = 36 then 9 else -1 := by
  rw [ix_t4]
  repeat (refine ite_congr (ix_eq h0 h1 (by decide) (by decide)) (fun _ => rfl) (fun _ => ?_))
  rfl
theorem c_277_2 (hq : mm_P w) (hc : 0 ≤ c ∧ c ≤ 65535) : ∃ r : Int, (-1 ≤ r ∧ r ≤ 24) ∧ (0 ≤ r ↔ sg_any c) ∧ ∀ d Q, (am_C (d + 4) 277 [.ref 2, .int (Int32.ofInt c)] (mm_hp w μ X n) Q ↔ Q (.inl (some (.int (Int32.ofInt r)))) (mm_hp w μ X n)) := by
  refine ⟨if c ≤ 255 then mm_ixk (fun j => (am_txt 2).getD j 0) (Int32.ofInt c).toInt8.toInt32 (am_txt 2).length 0 else -1, ?_, ?_, fun d Q => c_277 hq (by decide) hc⟩
  · by_cases q : c ≤ 255
    · rw [if_pos q, ix_c2 hc.1 q]
      (repeat' split) <;> omega
    · rw [if_neg q]; decide
  · by_cases q : c ≤ 255
    · rw [if_pos q, ix_c2 hc.1 q]
      unfold sg_any
      (repeat' split) <;> omega
    · rw [if_neg q]
      unfold sg_any
      omega
theorem c_277_3 (hq : mm_P w) (hc : 0 ≤ c ∧ c ≤ 65535) : am_C (d + 4) 277 [.ref 3, .int (Int32.ofInt (c))] (mm_hp w μ X n) Q ↔ Q (.inl (some (.int (Int32.ofInt (rd_if (rd_lt c) (c - 120) (-1)))))) (mm_hp w μ X n) := by
  have e : (if c ≤ 255 then mm_ixk (fun j => (am_txt 3).getD j 0) (Int32.ofInt c).toInt8.toInt32 (am_txt 3).length 0 else -1) = rd_if (rd_lt c) (c - 120) (-1) := by
    by_cases q : c ≤ 255
    · rw [if_pos q, ix_c3 hc.1 q]
      by_cases l : rd_lt c
      · rw [rd_if1 l]
        unfold rd_lt at l
        (repeat' split) <;> omega
      · rw [rd_if0 l]
        unfold rd_lt at l
        (repeat' split) <;> omega
    · rw [if_neg q, rd_if0 (fun l => by unfold rd_lt at l; omega)]
  rw [c_277 hq (by decide) hc, e]
theorem c_277_4 (hq : mm_P w) (hc : 0 ≤ c ∧ c ≤ 65535) : am_C (d + 4) 277 [.ref 4, .int (Int32.ofInt (c))] (mm_hp w μ X n) Q ↔ Q (.inl (some (.int (Int32.ofInt (rd_way c))))) (mm_hp w μ X n) := by
  have e : (if c ≤ 255 then mm_ixk (fun j => (am_txt 4).getD j 0) (Int32.ofInt c).toInt8.toInt32 (am_txt 4).length 0 else -1) = rd_way c := by
    unfold rd_way
    by_cases q : c ≤ 255
    · rw [if_pos q, ix_c4 hc.1 q]
      (repeat' split) <;> omega
    · rw [if_neg q]
      (repeat' split) <;> omega
  rw [c_277 hq (by decide) hc, e]
end IX
