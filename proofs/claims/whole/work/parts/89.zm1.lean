/-! A builder of text that a call makes: its object at a, its sixteen bytes behind it. -/
section AMX
variable {d P pc M n : Nat} {Q : am_Ou → am_G → Prop} {L : am_Lo} {st : List Value} {g : am_G}
theorem am_E_vi6 {i a k : Nat} (h : am_dc P pc = some (.invokevirtual i)) (hv : am_iv P i = some (k, M, n)) (hk : k = 6 ∨ k = 7) (hn : n ≤ st.length) (hr : (st.drop n).length ≤ 4) (hs : st.getD (n - 1) .null = .ref a) (hc : am_oc g a = some 12) : am_E d P Q (pc, L, st, g) ↔ am_C d M (st.take n).reverse g (am_bk P pc L (st.drop n) (am_E d P Q) Q) := by
  refine (am_E_x h).trans ?_
  have e : am_rcv P i st g = true := by
    unfold am_rcv
    rw [hv]
    dsimp only
    rw [hs]
    dsimp only
    rw [hc]
    rcases hk with rfl | rfl <;> simp
  unfold am_S
  dsimp only
  rw [if_pos e]
  unfold am_inv
  rw [hv]
  dsimp only
  rcases hk with rfl | rfl
  · rw [if_pos ⟨by decide, hn, hr⟩]
    exact Iff.rfl
  · rw [if_pos ⟨by decide, hn, hr⟩]
    exact Iff.rfl
theorem am_E_sp8 {i a : Nat} (h : am_dc P pc = some (.invokespecial i)) (hv : am_iv P i = some (8, M, n)) (hn : n ≤ st.length) (hr : (st.drop n).length ≤ 4) (hs : st.getD (n - 1) .null = .ref a) (hc : am_oc g a = some 12) : am_E d P Q (pc, L, st, g) ↔ am_C d M (st.take n).reverse g (am_bk P pc L (st.drop n) (am_E d P Q) Q) := by
  refine (am_E_x h).trans ?_
  have e : am_rcv P i st g = true := by
    unfold am_rcv
    rw [hv]
    dsimp only
    rw [hs]
    dsimp only
    rw [hc]
    simp
  unfold am_S
  dsimp only
  rw [hv]
  show am_K d P Q (if am_rcv P i st g = true then am_inv [8] P i pc L st g else none) ↔ _
  rw [if_pos e]
  unfold am_inv
  rw [hv]
  dsimp only
  rw [if_pos ⟨by decide, hn, hr⟩]
  exact Iff.rfl
theorem am_gs1 {i : Nat} (h : am_gs P i = some 101) : am_S P (.getstatic i) pc L st g = am_go (pc + 3) L (.int (Int32.ofInt 1) :: st) g := by
  unfold am_S; dsimp only; rw [h]; rfl
theorem am_gsA {i : Nat} (h : am_gs P i = some 19) : am_S P (.getstatic i) pc L st g = am_go (pc + 3) L (.ref 19 :: st) g := by
  unfold am_S; dsimp only; rw [h]; rfl
theorem am_gsB {i : Nat} (h : am_gs P i = some 20) : am_S P (.getstatic i) pc L st g = am_go (pc + 3) L (.ref 20 :: st) g := by
  unfold am_S; dsimp only; rw [h]; rfl
end AMX
section AMZ
variable {d : Nat} {Q : am_Ou → am_G → Prop} {L : am_Lo} {st : List Value} {g : am_G} {a : Nat} {v1 v2 v3 v4 v5 v6 : Value} {x y : Int32}
theorem x_254_0  : am_E d 254 Q (0, L, st, g) ↔ am_K d 254 Q (am_S 254 (.getstatic 18) 0 L st g) := am_E_x (by decide +kernel : am_dc 254 0 = some (.getstatic 18))
theorem x_254_3   : am_E d 254 Q (3, L, .int x :: st, g) ↔ am_E d 254 Q (am_cmp .eq x 0 21 6, L, st, g) := am_E_if (by decide +kernel : am_dc 254 3 = some (.ifCond .eq (18))) rfl rfl
theorem x_254_6   : am_E d 254 Q (6, L, st, g) ↔ am_K d 254 Q (am_ldA 7 L st g 0) := am_E_aload_n (by decide +kernel : am_dc 254 6 = some (.aload_n 0)) rfl rfl
theorem x_254_7   : am_E d 254 Q (7, L, .ref a :: st, g) ↔ am_kv d 254 Q 10 L st g (am_gf g a 12 1) := am_E_getfield (by decide +kernel : am_dc 254 7 = some (.getfield 22)) (by decide +kernel) rfl
theorem x_254_10   : am_E d 254 Q (10, L, st, g) ↔ am_K d 254 Q (am_ldA 11 L st g 1) := am_E_aload_n (by decide +kernel : am_dc 254 10 = some (.aload_n 1)) rfl rfl
theorem x_254_11  : am_E d 254 Q (11, L, st, g) ↔ am_K d 254 Q (am_S 254 (.invokevirtual 40) 11 L st g) := am_E_x (by decide +kernel : am_dc 254 11 = some (.invokevirtual 40))
theorem x_254_14   : am_E d 254 Q (14, L, .int y :: .int x :: st, g) ↔ am_E d 254 Q (am_cmp .eq x y 21 17, L, st, g) := am_E_ic (by decide +kernel : am_dc 254 14 = some (.if_icmp .eq (7))) rfl rfl
theorem x_254_17   : am_E d 254 Q (17, L, st, g) ↔ am_K d 254 Q (am_ldA 18 L st g 0) := am_E_aload_n (by decide +kernel : am_dc 254 17 = some (.aload_n 0)) rfl rfl
theorem x_254_18  : am_E d 254 Q (18, L, st, g) ↔ am_K d 254 Q (am_S 254 (.invokevirtual 195) 18 L st g) := am_E_x (by decide +kernel : am_dc 254 18 = some (.invokevirtual 195))
theorem x_254_21  : am_E d 254 Q (21, L, [], g) ↔ Q (.inl none) g := am_E_return (by decide +kernel : am_dc 254 21 = some (.return_)) (by decide +kernel)
theorem s_254_18 : am_gs 254 18 = some 101 := by decide +kernel
theorem f_254_22 : am_fl 254 22 = some (12, 1) := by decide +kernel
theorem v_254_40 : am_iv 254 40 = some (1, 275, 1) := by decide +kernel
theorem v_254_195 : am_iv 254 195 = some (7, 253, 1) := by decide +kernel
theorem t_254 : am_t 254 = none := by decide +kernel
theorem h_254 : am_h 254 = [] := by decide +kernel
theorem m_254 : am_m 254 = 2 := by decide +kernel
theorem z_247_7 (hs : st.length ≤ 4) (hc : am_oc g a = some 12) : am_E d 247 Q (7, L, v2 :: .ref a :: st, g) ↔ am_C d 252 [.ref a, v2] g (am_bk 247 7 L st (am_E d 247 Q) Q) := am_E_vi6 (by decide +kernel : am_dc 247 7 = some (.invokevirtual 100)) v_247_100 (Or.inr rfl) (by simp) (by simpa using hs) rfl hc
theorem z_247_11 (hs : st.length ≤ 4) (hc : am_oc g a = some 12) : am_E d 247 Q (11, L, .ref a :: st, g) ↔ am_C d 255 [.ref a] g (am_bk 247 11 L st (am_E d 247 Q) Q) := am_E_vi6 (by decide +kernel : am_dc 247 11 = some (.invokevirtual 83)) v_247_83 (Or.inl rfl) (by simp) (by simpa using hs) rfl hc
theorem z_248_14 (hs : st.length ≤ 4) (hc : am_oc g a = some 12) : am_E d 248 Q (14, L, v2 :: .ref a :: st, g) ↔ am_C d 252 [.ref a, v2] g (am_bk 248 14 L st (am_E d 248 Q) Q) := am_E_vi6 (by decide +kernel : am_dc 248 14 = some (.invokevirtual 100)) v_248_100 (Or.inr rfl) (by simp) (by simpa using hs) rfl hc
theorem z_248_18 (hs : st.length ≤ 4) (hc : am_oc g a = some 12) : am_E d 248 Q (18, L, .ref a :: st, g) ↔ am_C d 255 [.ref a] g (am_bk 248 18 L st (am_E d 248 Q) Q) := am_E_vi6 (by decide +kernel : am_dc 248 18 = some (.invokevirtual 83)) v_248_83 (Or.inl rfl) (by simp) (by simpa using hs) rfl hc
theorem z_249_21 (hs : st.length ≤ 4) (hc : am_oc g a = some 12) : am_E d 249 Q (21, L, v2 :: .ref a :: st, g) ↔ am_C d 252 [.ref a, v2] g (am_bk 249 21 L st (am_E d 249 Q) Q) := am_E_vi6 (by decide +kernel : am_dc 249 21 = some (.invokevirtual 100)) v_249_100 (Or.inr rfl) (by simp) (by simpa using hs) rfl hc
theorem z_249_30 (hs : st.length ≤ 4) (hc : am_oc g a = some 12) : am_E d 249 Q (30, L, v3 :: v2 :: .ref a :: st, g) ↔ am_C d 258 [.ref a, v2, v3] g (am_bk 249 30 L st (am_E d 249 Q) Q) := am_E_vi6 (by decide +kernel : am_dc 249 30 = some (.invokevirtual 208)) v_249_208 (Or.inr rfl) (by simp) (by simpa using hs) rfl hc
theorem z_258_2 (hs : st.length ≤ 4) (hc : am_oc g a = some 12) : am_E d 258 Q (2, L, v2 :: .ref a :: st, g) ↔ am_C d 254 [.ref a, v2] g (am_bk 258 2 L st (am_E d 258 Q) Q) := am_E_vi6 (by decide +kernel : am_dc 258 2 = some (.invokevirtual 397)) v_258_397 (Or.inr rfl) (by simp) (by simpa using hs) rfl hc
theorem z_282_2 (hs : st.length ≤ 4) (hc : am_oc g a = some 12) : am_E d 282 Q (2, L, v2 :: .ref a :: st, g) ↔ am_C d 247 [.ref a, v2] g (am_bk 282 2 L st (am_E d 282 Q) Q) := am_E_sp8 (by decide +kernel : am_dc 282 2 = some (.invokespecial 50)) v_282_50 (by simp) (by simpa using hs) rfl hc
theorem z_283_2 (hs : st.length ≤ 4) (hc : am_oc g a = some 12) : am_E d 283 Q (2, L, v2 :: .ref a :: st, g) ↔ am_C d 248 [.ref a, v2] g (am_bk 283 2 L st (am_E d 283 Q) Q) := am_E_sp8 (by decide +kernel : am_dc 283 2 = some (.invokespecial 53)) v_283_53 (by simp) (by simpa using hs) rfl hc
theorem z_284_2 (hs : st.length ≤ 4) (hc : am_oc g a = some 12) : am_E d 284 Q (2, L, v2 :: .ref a :: st, g) ↔ am_C d 249 [.ref a, v2] g (am_bk 284 2 L st (am_E d 284 Q) Q) := am_E_sp8 (by decide +kernel : am_dc 284 2 = some (.invokespecial 29)) v_284_29 (by simp) (by simpa using hs) rfl hc
theorem z_285_2 (hs : st.length ≤ 4) (hc : am_oc g a = some 12) : am_E d 285 Q (2, L, v2 :: .ref a :: st, g) ↔ am_C d 251 [.ref a, v2] g (am_bk 285 2 L st (am_E d 285 Q) Q) := am_E_sp8 (by decide +kernel : am_dc 285 2 = some (.invokespecial 329)) v_285_329 (by simp) (by simpa using hs) rfl hc
theorem z_286_1 (hs : st.length ≤ 4) (hc : am_oc g a = some 12) : am_E d 286 Q (1, L, .ref a :: st, g) ↔ am_C d 256 [.ref a] g (am_bk 286 1 L st (am_E d 286 Q) Q) := am_E_sp8 (by decide +kernel : am_dc 286 1 = some (.invokespecial 343)) v_286_343 (by simp) (by simpa using hs) rfl hc
theorem z_254_11 (hs : st.length ≤ 4) (hc : am_oc g a = some 13) : am_E d 254 Q (11, L, .ref a :: st, g) ↔ am_C d 275 [.ref a] g (am_bk 254 11 L st (am_E d 254 Q) Q) := am_E_vi1 (by decide +kernel : am_dc 254 11 = some (.invokevirtual 40)) v_254_40 (by simp) (by simpa using hs) rfl hc (by decide) (by decide +kernel)
end AMZ
def sb_V (a : Nat) (c : Int) : Nat → Value := fun k => if k = 0 then .ref (a + 1) else if k = 3 then .int (Int32.ofInt c) else .int (Int32.ofInt 0)
def sbX (X : mm_X) (a : Nat) (f : Int → Int) (c : Int) : mm_X := fun b => if b = a then some (.inr (12, sb_V a c)) else if b = a + 1 then some (.inl (.byte, 16, .inl fun j => Int32.ofInt (f j))) else X b
def sbu (f : Int → Int) (k z : Int) : Int → Int := fun j => if j = k then z else f j
def sb_o (w : mm_Z) (a : Nat) : Prop := 32 ≤ a ∧ w.2.2.2 a = false ∧ w.2.2.2 (a + 1) = false
section SB
variable {d : Nat} {Q : am_Ou → am_G → Prop} {w : mm_Z} {μ : mm_M} {X : mm_X} {n : mm_N} {a : Nat} {f : Int → Int} {c x z y s q m e : Int} {g : am_G}
theorem sb_at0 (h : sb_o w a) : (mm_hp w μ (sbX X a f c) n).1 a = some (.inr (12, sb_V a c)) := by
  obtain ⟨h1, h2, h3⟩ := h
  show (if a < 32 then _ else if w.2.2.2 a = true then _ else sbX X a f c a) = _
  rw [if_neg (by omega), if_neg (by rw [h2]; decide)]
  exact if_pos rfl
theorem sb_at1 (h : sb_o w a) : (mm_hp w μ (sbX X a f c) n).1 (a + 1) = some (.inl (.byte, 16, .inl fun j => Int32.ofInt (f j))) := by
  obtain ⟨h1, h2, h3⟩ := h
  show (if a + 1 < 32 then _ else if w.2.2.2 (a + 1) = true then _ else sbX X a f c (a + 1)) = _
  rw [if_neg (by omega), if_neg (by rw [h3]; decide)]
  exact (if_neg (by omega)).trans (if_pos rfl)
theorem sb_gf0 (h : sb_o w a) : am_gf (mm_hp w μ (sbX X a f c) n) a 12 0 = some (.ref (a + 1)) := am_gf_at (sb_at0 h)
theorem sb_gf1 (h : sb_o w a) : am_gf (mm_hp w μ (sbX X a f c) n) a 12 1 = some (.int (Int32.ofInt 0)) := am_gf_at (sb_at0 h)
theorem sb_gf3 (h : sb_o w a) : am_gf (mm_hp w μ (sbX X a f c) n) a 12 3 = some (.int (Int32.ofInt c)) := am_gf_at (sb_at0 h)
theorem sb_oc (h : sb_o w a) : am_oc (mm_hp w μ (sbX X a f c) n) a = some 12 := by unfold am_oc; rw [sb_at0 h]
theorem sb_sz (h : sb_o w a) : am_sz (mm_hp w μ (sbX X a f c) n) (a + 1) = some 16 := by unfold am_sz; rw [sb_at1 h]
theorem sb_set {q : am_A} {X' : mm_X} (h32 : 32 ≤ a) (hp : w.2.2.2 a = false) (h1 : X' a = some q) (h2 : ∀ b, b ≠ a → X' b = X b) : am_set (mm_hp w μ X n) a q = mm_hp w μ X' n := by
  refine Prod.ext (funext fun b => ?_) rfl
  show (if b = a then some q else (mm_hp w μ X n).1 b) = (if b < 32 then _ else if w.2.2.2 b = true then mm_c μ b else X' b)
  by_cases k : b = a
  · subst k
    rw [if_pos (by rfl), if_neg (by omega), if_neg (by rw [hp]; decide), h1]
  · rw [if_neg k, h2 b k]
    rfl
theorem sb_pf3 (h : sb_o w a) : am_pf (mm_hp w μ (sbX X a f c) n) a 12 3 (.int (Int32.ofInt x)) = some (mm_hp w μ (sbX X a f x) n) := by
  rw [am_pf_at (sb_at0 h) h.1]
  refine congrArg some (sb_set h.1 h.2.1 ?_ fun b hb => ?_)
  · refine (if_pos rfl).trans ?_
    have : sb_V a x = updV (sb_V a c) 3 (.int (Int32.ofInt x)) := by
      funext k
      unfold sb_V updV
      by_cases k3 : k = 3
      · subst k3; rfl
      · rw [if_neg k3]
        show (if k = 0 then Value.ref (a + 1) else .int (Int32.ofInt 0)) = (if k = 3 then Value.int (Int32.ofInt x) else (if k = 0 then Value.ref (a + 1) else if k = 3 then .int (Int32.ofInt c) else .int (Int32.ofInt 0)))
        rw [if_neg k3, if_neg k3]
    rw [this]
  · unfold sbX
    rw [if_neg hb, if_neg hb]
theorem am_sat_y {N : Nat} {f : Nat → Int32} {x y : Int32} (h : g.1 a = some (.inl (.byte, N, .inl f))) (h32 : 32 ≤ a) (hx : am_out x N = false) : am_sat .bastore g a x (.int y) = some (am_set g a (.inl (.byte, N, .inl (upd f x.toNatClampNeg (vp_nar .byte y))))) := by
  unfold am_sat am_ai; rw [if_neg (by omega), h]; simp [hx]
theorem sb_bv (h0 : 0 ≤ y) (h1 : y ≤ 127) : (Int32.ofInt y).toInt8.toInt32 = Int32.ofInt y := by
  rw [← Int32.toInt_inj, Int8.toInt_toInt32, Int32.toInt_toInt8, Int32.toInt_ofInt_of_le (by omega) (by omega)]
  rw [Int.bmod_def]
  have : (2 ^ 8 : Nat) = 256 := by decide
  rw [this]
  split <;> omega
theorem sb_out (h0 : 0 ≤ z) (h1 : z < 16) : am_out (Int32.ofInt z) 16 = false := by
  rw [mm_outx, mm_wv (by omega) (by omega)]
  have : (0 ≤ z ∧ z < ((16 : Nat) : Int)) := ⟨h0, by omega⟩
  rw [decide_eq_true this]
  rfl
theorem sb_cl (h0 : 0 ≤ z) (h1 : z < 2147483648) : (((Int32.ofInt z).toNatClampNeg : Nat) : Int) = z := by
  rw [← Int32.toNat_toInt, Int32.toInt_ofInt_of_le (by omega) (by omega)]
  omega
theorem sb_st (h : sb_o w a) (h0 : 0 ≤ z) (h1 : z < 16) (y0 : 0 ≤ y) (y1 : y ≤ 127) : am_sat .bastore (mm_hp w μ (sbX X a f c) n) (a + 1) (Int32.ofInt z) (.int (Int32.ofInt y)) = some (mm_hp w μ (sbX X a (sbu f z y) c) n) := by
  have h32 : 32 ≤ a + 1 := by have := h.1; omega
  rw [am_sat_y (sb_at1 h) h32 (sb_out h0 h1)]
  refine congrArg some (sb_set h32 h.2.2 ?_ fun b hb => ?_)
  · refine ((if_neg (by omega)).trans (if_pos rfl)).trans ?_
    refine congrArg (fun q => some (Sum.inl (FieldType.byte, 16, Sum.inl q))) (funext fun j => ?_)
    have hc := sb_cl (z := z) h0 (by omega)
    unfold upd sbu
    by_cases k : j = (Int32.ofInt z).toNatClampNeg
    · rw [if_pos k, if_pos (by omega), show vp_nar .byte (Int32.ofInt y) = (Int32.ofInt y).toInt8.toInt32 from rfl, sb_bv y0 y1]
    · rw [if_neg k, if_neg (by omega)]
  · unfold sbX
    by_cases k : b = a
    · rw [if_pos k, if_pos k]
    · rw [if_neg k, if_neg hb, if_neg k, if_neg hb]
theorem sb_ld (h : sb_o w a) (h0 : 0 ≤ z) (h1 : z < 16) : am_iat .baload (mm_hp w μ (sbX X a f c) n) (a + 1) (Int32.ofInt z) = some (.int (Int32.ofInt (f z))) := by
  rw [am_iat_y (sb_at1 h) (sb_out h0 h1), sb_cl h0 (by omega)]
theorem c_252 (h : sb_o w a) (h0 : 0 ≤ m) (h1 : m ≤ 16) : am_C (d + 1) 252 [.ref a, .int (Int32.ofInt m)] (mm_hp w μ (sbX X a f c) n) Q ↔ Q (.inl none) (mm_hp w μ (sbX X a f c) n) := by
  rw [am_C_in (by simp [am_arg, m_252, Value.category]), show am_loc 252 [.ref a, .int (Int32.ofInt m)] = [some (.ref a), some (.int (Int32.ofInt m)), none] from by simp [am_loc, am_arg, m_252, Value.category, List.replicate]]
  rw [x_252_0, lc_A_0, x_252_1, sb_gf0 h, am_kv_some, x_252_4, sb_sz h, Option.map_some, am_kv_some, x_252_5, lc_A_0, x_252_6, sb_gf1 h, am_kv_some, x_252_9, show (Int32.ofNat 16) >>> (Int32.ofInt 0 &&& 31) = Int32.ofInt 16 from by decide, x_252_10, sc_I_2 (by first | rfl | assumption), x_252_11, lc_I_1, x_252_12, lc_I_2, x_252_13, mm_sb, x_252_14, mm_L0, am_cmp_le, am_E_ite, if_pos (by rw [mm_lex, mm_wv (by omega) (by omega), mm_wv (by omega) (by omega)]; omega), x_252_38]
theorem c_255 (h : sb_o w a) : am_C (d + 1) 255 [.ref a] (mm_hp w μ (sbX X a f c) n) Q ↔ Q (.inl (some (.int (Int32.ofInt 1)))) (mm_hp w μ (sbX X a f c) n) := by
  rw [am_C_in (by simp [am_arg, m_255, Value.category]), show am_loc 255 [.ref a] = [some (.ref a)] from by simp [am_loc, am_arg, m_255, Value.category, List.replicate]]
  rw [x_255_0, am_gs1 s_255_18, am_K_go, x_255_3, mm_L0, am_cmp_eq, am_E_ite, if_neg (by decide), x_255_6, lc_A_0, x_255_7, sb_gf1 h, am_kv_some, x_255_10, mm_L0, am_cmp_ne, am_E_ite, if_pos (by decide), x_255_13, show ((1 : Int32)) = Int32.ofInt (1) from by decide, x_255_14, x_255_18, if_pos (by decide)]
theorem c_287 (h0 : 0 ≤ x) (h1 : x ≤ 255) : am_C (d + 1) 287 [.int (Int32.ofInt x)] g Q ↔ Q (.inl (some (.int (Int32.ofInt 1)))) g := by
  rw [am_C_in (by simp [am_arg, m_287, Value.category]), show am_loc 287 [.int (Int32.ofInt x)] = [some (.int (Int32.ofInt x))] from by simp [am_loc, am_arg, m_287, Value.category, List.replicate]]
  rw [x_287_0, lc_I_0, x_287_1, show ((255 : Int32)) = Int32.ofInt (255) from by decide, x_287_4, am_cmp_gt, am_E_ite, if_neg (by rw [mm_ltx, mm_wv (by omega) (by omega), mm_wv (by omega) (by omega)]; omega), x_287_7, show ((1 : Int32)) = Int32.ofInt (1) from by decide, x_287_8, x_287_12, if_pos (by decide)]
theorem c_247 (h : sb_o w a) (c0 : 0 ≤ c) (c1 : c < 16) (x0 : 0 ≤ x) (x1 : x ≤ 127) : am_C (d + 2) 247 [.ref a, .int (Int32.ofInt x)] (mm_hp w μ (sbX X a f c) n) Q ↔ Q (.inl (some (.ref a))) (mm_hp w μ (sbX X a (sbu f c x) (c + 1)) n) := by
  rw [am_C_in (by simp [am_arg, m_247, Value.category]), show am_loc 247 [.ref a, .int (Int32.ofInt x)] = [some (.ref a), some (.int (Int32.ofInt x))] from by simp [am_loc, am_arg, m_247, Value.category, List.replicate]]
  rw [x_247_0, lc_A_0, x_247_1, lc_A_0, x_247_2, sb_gf3 h, am_kv_some, x_247_5, show ((1 : Int32)) = Int32.ofInt (1) from by decide, x_247_6, mm_ad, z_247_7 (by simp) (sb_oc h), c_252 h (by omega) (by omega), bk_n, x_247_10, lc_A_0, z_247_11 (by simp) (sb_oc h), c_255 h, bk_v, x_247_14, mm_L0, am_cmp_eq, am_E_ite, if_neg (by decide), x_247_17, lc_I_1, z_247_18 (by simp), c_287 x0 (by omega), bk_v, x_247_21, mm_L0, am_cmp_eq, am_E_ite, if_neg (by decide), x_247_24, lc_A_0, x_247_25, sb_gf0 h, am_kv_some, x_247_28, lc_A_0, x_247_29, if_pos (by first | rfl | exact ⟨rfl, rfl⟩), x_247_30, sb_gf3 h, am_kv_some, x_247_33, if_pos (by first | rfl | exact ⟨rfl, rfl⟩), x_247_34, show ((1 : Int32)) = Int32.ofInt (1) from by decide, x_247_35, mm_ad, y_247_36, sb_pf3 h, am_kg_some, x_247_39, lc_I_1, x_247_40, sb_bv x0 x1, x_247_41, sb_st h c0 c1 x0 x1, am_kg_some, x_247_42, x_247_75, lc_A_0, x_247_76, if_pos (by rfl)]
theorem c_282 (h : sb_o w a) (c0 : 0 ≤ c) (c1 : c < 16) (x0 : 0 ≤ x) (x1 : x ≤ 127) : am_C (d + 3) 282 [.ref a, .int (Int32.ofInt x)] (mm_hp w μ (sbX X a f c) n) Q ↔ Q (.inl (some (.ref a))) (mm_hp w μ (sbX X a (sbu f c x) (c + 1)) n) := by
  rw [am_C_in (by simp [am_arg, m_282, Value.category]), show am_loc 282 [.ref a, .int (Int32.ofInt x)] = [some (.ref a), some (.int (Int32.ofInt x))] from by simp [am_loc, am_arg, m_282, Value.category, List.replicate]]
  rw [x_282_0, lc_A_0, x_282_1, lc_I_1, z_282_2 (by simp) (sb_oc h), c_247 h c0 c1 x0 x1, bk_v, x_282_5, if_pos (by first | rfl | exact ⟨rfl, rfl⟩), x_282_6, lc_A_0, x_282_7, if_pos (by rfl)]
end SB
