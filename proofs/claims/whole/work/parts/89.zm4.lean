/-! The class's text of an amount: the number's, and all. -/
section SB
variable {d : Nat} {Q : am_Ou → am_G → Prop} {w : mm_Z} {μ : mm_M} {X : mm_X} {n : mm_N} {a t : Nat} {f : Int → Int} {c x z y s q m e p i r u k v : Int} {g : am_G}
theorem c_283_1 (h : sb_o w a) (q0 : 0 ≤ q) (q1 : q < 10) (c0 : 0 ≤ c) (c1 : c < 16) : am_C (d + 3) 283 [.ref a, .int (Int32.ofInt q)] (mm_hp w μ (sbX X a f c) n) Q ↔ Q (.inl (some (.ref a))) (mm_hp w μ (sbX X a (sbu f c (48 + q)) (c + 1)) n) := by
  rw [c_283 h q0 (by omega) c0 (by rw [nd_1 q1]; omega), nd_1 q1, ← dw_1 q0 q1, show c + 1 + -1 = c by omega]
theorem c_61_520 (hq : mm_P w) (h : sb_o w a) : am_E d 61 Q (52, [some (.ref a), some (.long (Int64.ofInt v)), none, some (.int (Int32.ofInt z)), some (.int (Int32.ofInt r)), some (.int (Int32.ofInt 0))], [], (mm_hp w μ (sbX X a f c) n)) ↔ Q (.inl none) (mm_hp w μ (sbX X a f c) n) := by
  rw [b_61_52 hq (sb_oc h), if_pos (by decide)]
theorem c_61_52 (hq : mm_P w) (h : sb_o w a) (hu : u = 100 ∨ u = 10 ∨ u = 1) (r0 : 0 ≤ r) (hr : r < 10 * u) (c0 : 0 ≤ c) (c1 : c < 16) : am_E (d + 3) 61 Q (52, [some (.ref a), some (.long (Int64.ofInt v)), none, some (.int (Int32.ofInt z)), some (.int (Int32.ofInt r)), some (.int (Int32.ofInt u))], [], (mm_hp w μ (sbX X a f c) n)) ↔ if r = 0 then Q (.inl none) (mm_hp w μ (sbX X a f c) n) else am_E (d + 3) 61 Q (52, [some (.ref a), some (.long (Int64.ofInt v)), none, some (.int (Int32.ofInt z)), some (.int (Int32.ofInt (r % u))), some (.int (Int32.ofInt (u / 10)))], [], mm_hp w μ (sbX X a (sbu f c (48 + r / u)) (c + 1)) n) := by
  rw [b_61_52 hq (sb_oc h)]
  rw [if_neg (by rw [mm_lex, mm_wv (by omega) (by omega), mm_wv (by omega) (by omega)]; omega)]
  by_cases k : r = 0
  · rw [if_pos (by rw [k]), if_pos k]
  · rw [if_neg (by rw [mm_eqx, mm_wv (by omega) (by omega), mm_wv (by omega) (by omega)]; exact k), if_neg k, if_neg (by rw [mm_eqx, mm_wv (by omega) (by omega), mm_wv (by omega) (by omega)]; omega)]
    have e1 : mm_dv r u = r / u := mm_dvp r0 (by omega) (by omega) (by omega)
    have e2 : mm_dv u 10 = u / 10 := mm_dvp (by omega) (by omega) (by decide) (by decide)
    have e3 : r - r / u * u = r % u := by rw [Int.emod_def, Int.mul_comm]
    have b1 : 0 ≤ r / u ∧ r / u < 10 := by rcases hu with rfl | rfl | rfl <;> omega
    rw [e1, c_283_1 h b1.1 b1.2 c0 c1, bk_v, b_61_71 hq, if_neg (by rw [mm_eqx, mm_wv (by omega) (by omega), mm_wv (by omega) (by omega)]; omega), e1, e2, e3]
theorem c_61_48 (hq : mm_P w) (h : sb_o w a) (r0 : 0 < r) (hr : r < 1000) (c0 : 0 ≤ c) (c1 : c < 12) : am_E (d + 3) 61 Q (52, [some (.ref a), some (.long (Int64.ofInt v)), none, some (.int (Int32.ofInt z)), some (.int (Int32.ofInt r)), some (.int (Int32.ofInt 100))], [], mm_hp w μ (sbX X a (sbu f c 46) (c + 1)) n) ↔ Q (.inl none) (mm_hp w μ (sbX X a (tx_fr f c r).1 (tx_fr f c r).2) n) := by
  unfold tx_fr
  rw [if_neg (by omega), c_61_52 hq h (Or.inl rfl) (by omega) (by omega) (by omega) (by omega), if_neg (by omega), show (100 : Int) / 10 = 10 from by decide, c_61_52 hq h (Or.inr (Or.inl rfl)) (by omega) (by omega) (by omega) (by omega)]
  by_cases k1 : r % 100 = 0
  · rw [if_pos k1, if_pos k1]
  rw [if_neg k1, if_neg k1, show (10 : Int) / 10 = 1 from by decide, c_61_52 hq h (Or.inr (Or.inr rfl)) (by omega) (by omega) (by omega) (by omega)]
  by_cases k2 : r % 100 % 10 = 0
  · rw [if_pos k2, if_pos k2]
  rw [if_neg k2, if_neg k2, show (1 : Int) / 10 = 0 from by decide, c_61_520 hq h]
theorem c_61_19 (hq : mm_P w) (h : sb_o w a) (z0 : 0 ≤ z) (z1 : z ≤ 2000000000) (c0 : 0 ≤ c) (c1 : c ≤ 1) : am_E (d + 3) 61 Q (19, [some (.ref a), some (.long (Int64.ofInt v)), none, some (.int (Int32.ofInt z)), none, none], [], (mm_hp w μ (sbX X a f c) n)) ↔ Q (.inl none) (mm_hp w μ (sbX X a (tx_n f c z).1 (tx_n f c z).2) n) := by
  have e1 : mm_dv z 1000 = z / 1000 := mm_dvp z0 (by omega) (by decide) (by decide)
  have e3 : z - z / 1000 * 1000 = z % 1000 := by omega
  have hb := nd_b (q := z / 1000)
  rw [b_61_19 hq (sb_oc h), e1, c_283 h (by omega) (by omega) c0 (by omega), bk_v, b_61_28 hq (sb_oc h), e1, e3]
  unfold tx_n
  by_cases k : z % 1000 = 0
  · rw [if_pos (by rw [k]), b_61_48 hq, c_61_52 hq h (Or.inl rfl) (by omega) (by omega) (by omega) (by omega), if_pos k]
    unfold tx_fr
    rw [if_pos k]
  · rw [if_neg (by rw [mm_eqx, mm_wv (by omega) (by omega), mm_wv (by omega) (by omega)]; exact k), c_282 h (by omega) (by omega) (by decide) (by decide), bk_v, b_61_47 hq, b_61_48 hq, c_61_48 hq h (by omega) (by omega) (by omega) (by omega)]
theorem c_61 (hq : mm_P w) (h : sb_o w a) (v0 : -2000000000 ≤ v) (v1 : v ≤ 2000000000) : am_C (d + 4) 61 [.ref a, .long (Int64.ofInt v)] (mm_hp w μ (sbX X a f 0) n) Q ↔ Q (.inl none) (mm_hp w μ (sbX X a (tx f v).1 (tx f v).2) n) := by
  rw [en_61 (d := d + 3), b_61_0 hq, c_267 (d := d + 2) hq (by omega) (by omega), bk_v, b_61_4 hq (sb_oc h)]
  unfold sp_ab tx
  by_cases k : v < 0
  · rw [if_neg (by rw [mm_lex8, mm_w8v (by omega) (by omega), mm_w8v (by omega) (by omega)]; omega), if_pos k, if_pos k, c_282 h (by decide) (by decide) (by decide) (by decide), bk_v, b_61_18 hq, c_61_19 hq h (by omega) (by omega) (by decide) (by decide)]
    exact Iff.rfl
  · rw [if_pos (by rw [mm_lex8, mm_w8v (by omega) (by omega), mm_w8v (by omega) (by omega)]; omega), if_neg k, if_neg k, c_61_19 hq h (by omega) (by omega) (by decide) (by decide)]
theorem sb_sw {L : am_Lo} {st : List Value} (hk : 0 ≤ k ∧ k ≤ 4) : am_S 60 (.tableswitch (70) (0) (3) #[(32), (40), (50), (60)]) 12 L (.int (Int32.ofInt k) :: st) g = am_go (if k = 0 then 44 else if k = 1 then 52 else if k = 2 then 62 else if k = 3 then 72 else 82) L st g := by
  rcases (by omega : k = 0 ∨ k = 1 ∨ k = 2 ∨ k = 3 ∨ k = 4) with rfl | rfl | rfl | rfl | rfl
  · unfold am_S; dsimp only; rw [if_neg (by decide)]; rfl
  · unfold am_S; dsimp only; rw [if_neg (by decide)]; rfl
  · unfold am_S; dsimp only; rw [if_neg (by decide)]; rfl
  · unfold am_S; dsimp only; rw [if_neg (by decide)]; rfl
  · unfold am_S; dsimp only; rw [if_pos (by decide)]; rfl
theorem c_60 (hq : mm_P w) (h : sb_o w n.1) (h1 : 2 ≤ n.2.1) (h2 : 20 ≤ n.2.2) (hk : 0 ≤ k ∧ k ≤ 4) (v0 : -2000000000 ≤ v) (v1 : v ≤ 2000000000) : am_C (d + 6) 60 [.long (Int64.ofInt (sp_en k v))] (mm_hp w μ X n) Q ↔ Q (.inl (some (.ref n.1))) (mm_hp w μ (sbX X n.1 (txk (fun _ => 0) k v).1 (txk (fun _ => 0) k v).2) (n.1 + 2, n.2.1 - 2, n.2.2 - 20)) := by
  rw [am_C_in (by simp [am_arg, m_60, Value.category]), show am_loc 60 [.long (Int64.ofInt (sp_en k v))] = [some (.long (Int64.ofInt (sp_en k v))), none, none] from by simp [am_loc, am_arg, m_60, Value.category, List.replicate]]
  rw [x_60_0, am_new w_60_56 (by show 1 ≤ n.2.1; omega) (by show 4 ≤ n.2.2; omega), am_K_go, x_60_3, if_pos (by first | rfl | exact ⟨rfl, rfl⟩), sb_psh h.1 h.2.1, z_60_4 (by simp)]
  show am_C _ 281 [.ref n.1] (mm_hp w μ (fun b => if b = n.1 then some (.inr (12, fun k => defaultValue (am_ft 12 k).1)) else X b) (n.1 + 1, n.2.1 - 1, n.2.2 - 4)) _ ↔ _
  rw [c_281 (d := d + 3) h h1 h2, bk_n]
  show am_E _ 60 _ (7, _, [.ref n.1], _) ↔ _
  rw [x_60_7, sc_A_2 (by first | rfl | assumption), x_60_8, lc_L_0, z_60_9 (by simp), c_55 (d := d + 4) hq hk (fun _ => by omega), bk_v, x_60_12, sb_sw hk, am_K_go]
  unfold txk
  rcases (by omega : k = 0 ∨ k = 1 ∨ k = 2 ∨ k = 3 ∨ k = 4) with rfl | rfl | rfl | rfl | rfl
  · rw [if_pos (by rfl), if_pos (by rfl), x_60_44, lc_A_2, x_60_45, lc_L_0, z_60_46 (by simp), show sp_en 0 v = v from if_pos (by rfl), c_61 (d := d + 1) hq h v0 v1, bk_n, x_60_49, x_60_89, lc_A_2, x_60_90, if_pos (by rfl)]
  · rw [if_neg (by decide), if_pos (by rfl), if_neg (by decide), if_pos (by rfl), x_60_52, lc_A_2, x_60_53, am_ldc k_60_63 t_60_63, am_K_go, z_60_55 (by simp) (sb_oc h), c_284 h (by decide), bk_v, x_60_58, if_pos (by first | rfl | exact ⟨rfl, rfl⟩), x_60_59, x_60_89, lc_A_2, x_60_90, if_pos (by rfl)]
    exact Iff.rfl
  · rw [if_neg (by decide), if_neg (by decide), if_pos (by rfl), if_neg (by decide), if_neg (by decide), if_pos (by rfl), x_60_62, lc_A_2, x_60_63, am_ldc k_60_69 t_60_69, am_K_go, z_60_65 (by simp) (sb_oc h), c_284 h (by decide), bk_v, x_60_68, if_pos (by first | rfl | exact ⟨rfl, rfl⟩), x_60_69, x_60_89, lc_A_2, x_60_90, if_pos (by rfl)]
    exact Iff.rfl
  · rw [if_neg (by decide), if_neg (by decide), if_neg (by decide), if_pos (by rfl), if_neg (by decide), if_neg (by decide), if_neg (by decide), if_pos (by rfl), x_60_72, lc_A_2, x_60_73, am_ldc k_60_71 t_60_71, am_K_go, z_60_75 (by simp) (sb_oc h), c_284 h (by decide), bk_v, x_60_78, if_pos (by first | rfl | exact ⟨rfl, rfl⟩), x_60_79, x_60_89, lc_A_2, x_60_90, if_pos (by rfl)]
    exact Iff.rfl
  · rw [if_neg (by decide), if_neg (by decide), if_neg (by decide), if_neg (by decide), if_neg (by decide), if_neg (by decide), if_neg (by decide), if_neg (by decide), x_60_82, lc_A_2, x_60_83, am_ldc k_60_73 t_60_73, am_K_go, z_60_85 (by simp) (sb_oc h), c_284 h (by decide), bk_v, x_60_88, if_pos (by first | rfl | exact ⟨rfl, rfl⟩), x_60_89, lc_A_2, x_60_90, if_pos (by rfl)]
    exact Iff.rfl
/-- how long it is, and a sign of it -/
theorem c_256 (h : sb_o w a) : am_C (d + 1) 256 [.ref a] (mm_hp w μ (sbX X a f c) n) Q ↔ Q (.inl (some (.int (Int32.ofInt c)))) (mm_hp w μ (sbX X a f c) n) := by
  rw [am_C_in (by simp [am_arg, m_256, Value.category]), show am_loc 256 [.ref a] = [some (.ref a)] from by simp [am_loc, am_arg, m_256, Value.category, List.replicate]]
  rw [x_256_0, lc_A_0, x_256_1, sb_gf3 h, am_kv_some, x_256_4, if_pos (by rfl)]
theorem c_286 (h : sb_o w a) : am_C (d + 2) 286 [.ref a] (mm_hp w μ (sbX X a f c) n) Q ↔ Q (.inl (some (.int (Int32.ofInt c)))) (mm_hp w μ (sbX X a f c) n) := by
  rw [am_C_in (by simp [am_arg, m_286, Value.category]), show am_loc 286 [.ref a] = [some (.ref a)] from by simp [am_loc, am_arg, m_286, Value.category, List.replicate]]
  rw [x_286_0, lc_A_0, z_286_1 (by simp) (sb_oc h), c_256 h, bk_v, x_286_4, if_pos (by rfl)]
theorem am_gs2 {P pc i : Nat} {L : am_Lo} {st : List Value} (h : am_gs P i = some 102) : am_S P (.getstatic i) pc L st (mm_hp w μ X n) = am_go (pc + 3) L (w.2.2.1 :: st) (mm_hp w μ X n) := by
  unfold am_S
  dsimp only
  rw [h]
  rfl
theorem c_317 {zv : Value} (hz : zv.category = 1) (i0 : 0 ≤ i) (i1 : i < c) (c1 : c ≤ 100) : am_C (d + 1) 317 [.int (Int32.ofInt i), .int (Int32.ofInt c), zv] g Q ↔ Q (.inl (some (.int (Int32.ofInt i)))) g := by
  have e : am_arg [.int (Int32.ofInt i), .int (Int32.ofInt c), zv] = [some (.int (Int32.ofInt i)), some (.int (Int32.ofInt c)), some zv] := by
    cases zv <;> first | rfl | exact absurd (show (2 : Nat) = 1 from hz) (by decide)
  have e2 : am_loc 317 [.int (Int32.ofInt i), .int (Int32.ofInt c), zv] = [some (.int (Int32.ofInt i)), some (.int (Int32.ofInt c)), some zv] := by
    unfold am_loc
    rw [e, m_317]
    rfl
  rw [am_C_in (by rw [e, m_317]; exact Nat.le_refl 3), e2]
  rw [x_317_0, lc_I_0, x_317_1, mm_L0, am_cmp_lt, am_E_ite, if_neg (by rw [mm_ltx, mm_wv (by omega) (by omega), mm_wv (by omega) (by omega)]; omega), x_317_4, lc_I_0, x_317_5, lc_I_1, x_317_6, am_cmp_lt, am_E_ite, if_pos (by rw [mm_ltx, mm_wv (by omega) (by omega), mm_wv (by omega) (by omega)]; omega)]
  first | rw [x_317_16, lc_I_0, x_317_17, if_pos (by rfl)] | rw [x_317_10, lc_I_0, x_317_11, lc_I_1, x_317_12, x_317_15, x_317_16, lc_I_0, x_317_17, if_pos (by rfl)]
theorem c_274 (hz : w.2.2.1.category = 1) (i0 : 0 ≤ i) (i1 : i < c) (c1 : c ≤ 100) : am_C (d + 2) 274 [.int (Int32.ofInt i), .int (Int32.ofInt c)] (mm_hp w μ X n) Q ↔ Q (.inl none) (mm_hp w μ X n) := by
  rw [am_C_in (by simp [am_arg, m_274, Value.category]), show am_loc 274 [.int (Int32.ofInt i), .int (Int32.ofInt c)] = [some (.int (Int32.ofInt i)), some (.int (Int32.ofInt c))] from by simp [am_loc, am_arg, m_274, Value.category, List.replicate]]
  rw [x_274_0, lc_I_0, x_274_1, lc_I_1, x_274_2, am_gs2 s_274_1053, am_K_go, z_274_5 (by simp), c_317 hz i0 i1 c1, bk_v, x_274_8, if_pos (by first | rfl | exact ⟨rfl, rfl⟩), x_274_9]
theorem sb_and : ∀ j : Nat, j < 128 → ((Int32.ofInt (j : Int) &&& Int32.ofInt 255).toUInt32 % 65536).toInt32 = Int32.ofInt (j : Int) ∧ am_ok .char (.int (Int32.ofInt (j : Int))) = true := by decide +kernel
theorem c_251 (hq : mm_P w) (hz : w.2.2.1.category = 1) (h : sb_o w a) (i0 : 0 ≤ i) (i1 : i < c) (c1 : c ≤ 16) (f0 : 0 ≤ f i) (f1 : f i ≤ 127) : am_C (d + 3) 251 [.ref a, .int (Int32.ofInt i)] (mm_hp w μ (sbX X a f c) n) Q ↔ Q (.inl (some (.int (Int32.ofInt (f i))))) (mm_hp w μ (sbX X a f c) n) := by
  rw [am_C_in (by simp [am_arg, m_251, Value.category]), show am_loc 251 [.ref a, .int (Int32.ofInt i)] = [some (.ref a), some (.int (Int32.ofInt i)), none, none, none] from by simp [am_loc, am_arg, m_251, Value.category, List.replicate]]
  obtain ⟨e1, e2⟩ := sb_and (f i).toNat (by omega)
  rw [show (((f i).toNat : Nat) : Int) = f i by omega] at e1 e2
  rw [x_251_0, lc_A_0, x_251_1, sb_gf1 h, am_kv_some, x_251_4, sc_I_2 (by first | rfl | assumption), x_251_5, lc_A_0, x_251_6, sb_gf0 h, am_kv_some, x_251_9, sc_A_3 (by first | rfl | assumption), x_251_10, lc_A_0, x_251_11, sb_gf3 h, am_kv_some, x_251_14, lc_A_3, x_251_15, sb_sz h, Option.map_some, am_kv_some, x_251_16, lc_I_2, x_251_17, show (Int32.ofNat 16) >>> (Int32.ofInt 0 &&& 31) = Int32.ofInt 16 from by decide, z_251_18 (by simp), c_269 (d := d + 1) hq (by omega) (by omega), if_pos c1, bk_v, x_251_21, sc_I_4 (by first | rfl | assumption), x_251_23, lc_I_1, x_251_24, lc_I_4, z_251_26 (by simp), c_274 hz i0 i1 (by omega), bk_n, x_251_29, lc_I_2, x_251_30, mm_L0, am_cmp_ne, am_E_ite, if_pos (by rfl), x_251_33, lc_A_3, x_251_34, lc_I_1, x_251_35, sb_ld h i0 (by omega), am_kv_some, x_251_36, show ((255 : Int32)) = Int32.ofInt (255) from by decide, x_251_39, x_251_40, e1, x_251_41, if_pos e2]
theorem c_285 (hq : mm_P w) (hz : w.2.2.1.category = 1) (h : sb_o w a) (i0 : 0 ≤ i) (i1 : i < c) (c1 : c ≤ 16) (f0 : 0 ≤ f i) (f1 : f i ≤ 127) : am_C (d + 4) 285 [.ref a, .int (Int32.ofInt i)] (mm_hp w μ (sbX X a f c) n) Q ↔ Q (.inl (some (.int (Int32.ofInt (f i))))) (mm_hp w μ (sbX X a f c) n) := by
  obtain ⟨e1, e2⟩ := sb_and (f i).toNat (by omega)
  rw [show (((f i).toNat : Nat) : Int) = f i by omega] at e1 e2
  rw [am_C_in (by simp [am_arg, m_285, Value.category]), show am_loc 285 [.ref a, .int (Int32.ofInt i)] = [some (.ref a), some (.int (Int32.ofInt i))] from by simp [am_loc, am_arg, m_285, Value.category, List.replicate]]
  rw [x_285_0, lc_A_0, x_285_1, lc_I_1, z_285_2 (by simp) (sb_oc h), c_251 hq hz h i0 i1 c1 f0 f1, bk_v, x_285_5, if_pos e2]
end SB
