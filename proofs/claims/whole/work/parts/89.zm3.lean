/-! A builder of text: a text is appended, a sign is read, it is made; the class's text of an amount. -/
/-- the text t, from the builder's first place on -/
def sbt (f : Int → Int) (t : Nat) : Int → Int := fun j => if 0 ≤ j ∧ j < (am_txt t).length then ((am_txt t).getD j.toNat 0).toInt else f j
def tx_fr (f : Int → Int) (s r : Int) : (Int → Int) × Int :=
  if r = 0 then (f, s) else if r % 100 = 0 then (sbu (sbu f s 46) (s + 1) (48 + r / 100), s + 1 + 1)
  else if r % 100 % 10 = 0 then (sbu (sbu (sbu f s 46) (s + 1) (48 + r / 100)) (s + 1 + 1) (48 + r % 100 / 10), s + 1 + 1 + 1)
  else (sbu (sbu (sbu (sbu f s 46) (s + 1) (48 + r / 100)) (s + 1 + 1) (48 + r % 100 / 10)) (s + 1 + 1 + 1) (48 + r % 100 % 10 / 1), s + 1 + 1 + 1 + 1)
def tx_n (f : Int → Int) (s z : Int) : (Int → Int) × Int := tx_fr (dw f (s + nd (z / 1000)) (z / 1000) (nd (z / 1000))) (s + nd (z / 1000)) (z % 1000)
/-- the text of a number -/
def tx (f : Int → Int) (v : Int) : (Int → Int) × Int := if v < 0 then tx_n (sbu f 0 45) 1 (-v) else tx_n f 0 v
/-- the text of an amount -/
def txk (f : Int → Int) (k v : Int) : (Int → Int) × Int := if k = 0 then tx f v else if k = 1 then (sbt f 5, 5) else if k = 2 then (sbt f 6, 4) else if k = 3 then (sbt f 7, 4) else (sbt f 8, 3)
section AMX
variable {d P pc M : Nat} {Q : am_Ou → am_G → Prop} {L : am_Lo} {st : List Value} {g : am_G} {i a b : Nat}
theorem am_ldc (h : am_ci P i = none) (h2 : am_cs P i = some a) : am_S P (.ldc i) pc L st g = am_go (pc + 2) L (.ref a :: st) g := by
  unfold am_S; dsimp only; rw [h]; dsimp only; rw [h2]; rfl
theorem am_new {c : Nat} (h : am_nw P i = some c) (h1 : 1 ≤ g.2.2.1) (h2 : am_nf c ≤ g.2.2.2) : am_S P (.new i) pc L st g = am_go (pc + 3) L (.ref g.2.1 :: st) (am_psh g (.inr (c, fun k => defaultValue (am_ft c k).1)) (am_nf c)) := by
  unfold am_S; dsimp only; rw [h]; exact if_pos ⟨h1, h2⟩
theorem am_obj {n : Nat} (h : am_iv P i = some (3, M, n)) (hs : st.length ≤ 4) : am_S P (.invokespecial i) pc L (.ref b :: st) g = am_go (pc + 3) L st g := by
  unfold am_S; dsimp only; rw [h]; exact if_pos hs
theorem am_nwb (h1 : 1 ≤ g.2.2.1) (h2 : 16 ≤ g.2.2.2) : am_S P (.newarray .byte) pc L (.int (Int32.ofInt 16) :: st) g = am_go (pc + 2) L (.ref g.2.1 :: st) (am_psh g (.inl (.byte, 16, .inl fun _ => 0)) 16) := by
  have e : (Int32.ofInt 16).toNatClampNeg = 16 := by decide
  unfold am_S
  dsimp only
  rw [e]
  show (some _ : Option am_A).bind _ = _
  rw [Option.bind_some, if_pos ⟨by decide, by decide, h1, h2⟩]
end AMX
section SB
variable {d : Nat} {Q : am_Ou → am_G → Prop} {w : mm_Z} {μ : mm_M} {X : mm_X} {n : mm_N} {a t : Nat} {f : Int → Int} {c x z y s q m e p i r u k v : Int} {g : am_G}
theorem c_254 (h : sb_o w a) (ht : 2 ≤ t ∧ t ≤ 8) : am_C (d + 2) 254 [.ref a, .ref t] (mm_hp w μ (sbX X a f c) n) Q ↔ Q (.inl none) (mm_hp w μ (sbX X a f c) n) := by
  rw [am_C_in (by simp [am_arg, m_254, Value.category]), show am_loc 254 [.ref a, .ref t] = [some (.ref a), some (.ref t)] from by simp [am_loc, am_arg, m_254, Value.category, List.replicate]]
  rw [x_254_0, am_gs1 s_254_18, am_K_go, x_254_3, mm_L0, am_cmp_eq, am_E_ite, if_neg (by decide), x_254_6, lc_A_0, x_254_7, sb_gf1 h, am_kv_some, x_254_10, lc_A_1, z_254_11 (by simp) (mm_oldc ht), c_275 ht, bk_v, x_254_14, am_cmp_eq, am_E_ite, if_pos (by decide), x_254_21]
theorem sb_copy (h : sb_o w a) (ht : 5 ≤ t ∧ t ≤ 8) {L : am_Lo} : am_S 276 (.invokestatic 212) 22 L [.int (Int32.ofNat (am_txt t).length), .int (Int32.ofInt 0), .ref (a + 1), .int (Int32.ofInt 0), .ref (t + 10)] (mm_hp w μ (sbX X a f c) n) = am_go 25 L [] (mm_hp w μ (sbX X a (sbt f t) c) n) := by
  have v3 := mm_oldt (w := w) (μ := μ) (X := sbX X a f c) (n := n) (a := t) (by omega)
  have v4 := sb_at1 (μ := μ) (X := X) (n := n) (f := f) (c := c) h
  have h32 : 32 ≤ a + 1 := by have := h.1; omega
  have e1 : am_cp .int (mm_hp w μ (sbX X a f c) n) (t + 10) (a + 1) (Int32.ofInt 0) (Int32.ofInt 0) (Int32.ofNat (am_txt t).length) = none := by
    unfold am_cp
    rw [show am_ai (mm_hp w μ (sbX X a f c) n) (t + 10) .int = none from by unfold am_ai; rw [v3]; exact if_neg (by decide)]
    rfl
  have e2 : am_cp .byte (mm_hp w μ (sbX X a f c) n) (t + 10) (a + 1) (Int32.ofInt 0) (Int32.ofInt 0) (Int32.ofNat (am_txt t).length) = some (mm_hp w μ (sbX X a (sbt f t) c) n) := by
    unfold am_cp
    rw [show am_ai (mm_hp w μ (sbX X a f c) n) (t + 10) .byte = some ((am_txt t).length, fun j => (am_txt t).getD j 0) from by unfold am_ai; rw [v3]; exact if_pos (by rfl), show am_ai (mm_hp w μ (sbX X a f c) n) (a + 1) .byte = some (16, fun j : Nat => Int32.ofInt (f j)) from by unfold am_ai; rw [v4]; exact if_pos (by rfl), Option.bind_some, Option.bind_some]
    have hset : am_set (mm_hp w μ (sbX X a f c) n) (a + 1) (.inl (.byte, 16, .inl (va_cpy (fun j => (am_txt t).getD j 0) (fun j : Nat => Int32.ofInt (f j)) 0 0 (am_txt t).length))) = mm_hp w μ (sbX X a (sbt f t) c) n := by
      refine sb_set h32 h.2.2 ?_ fun b hb => ?_
      · refine ((if_neg (by omega)).trans (if_pos rfl)).trans ?_
        refine congrArg (fun q => some (Sum.inl (FieldType.byte, 16, Sum.inl q))) (funext fun j => ?_)
        unfold va_cpy sbt
        by_cases k : j < (am_txt t).length
        · rw [if_pos (by omega), if_pos (by omega), Int32.ofInt_toInt]
          show (am_txt t).getD _ 0 = (am_txt t).getD _ 0
          congr 1
          omega
        · rw [if_neg (by omega), if_neg (by omega)]
      · unfold sbX
        by_cases k : b = a
        · rw [if_pos k, if_pos k]
        · rw [if_neg k, if_neg hb, if_neg k, if_neg hb]
    rcases (by omega : t = 5 ∨ t = 6 ∨ t = 7 ∨ t = 8) with rfl | rfl | rfl | rfl
    all_goals
      rw [if_pos ⟨by decide, by decide, by decide, by decide, (by show (Int32.ofInt 0).toNatClampNeg + Int32.toNatClampNeg _ ≤ 16; decide), h32, by decide⟩]
      exact congrArg some hset
  unfold am_S
  dsimp only
  rw [v_276_212]
  show (if ([] : List Value).length ≤ 4 then (match am_cp .int (mm_hp w μ (sbX X a f c) n) (t + 10) (a + 1) (Int32.ofInt 0) (Int32.ofInt 0) (Int32.ofNat (am_txt t).length) with | some g_ => am_go 25 L [] g_ | none => (am_cp .byte (mm_hp w μ (sbX X a f c) n) (t + 10) (a + 1) (Int32.ofInt 0) (Int32.ofInt 0) (Int32.ofNat (am_txt t).length)).bind fun g' => am_go 25 L [] g') else none) = _
  rw [if_pos (by decide), e1, e2]
  rfl
theorem c_276 (h : sb_o w a) (ht : 5 ≤ t ∧ t ≤ 8) : am_C (d + 2) 276 [.ref t, .ref (a + 1), .int (Int32.ofInt 0), .int (Int32.ofInt 0)] (mm_hp w μ (sbX X a f c) n) Q ↔ Q (.inl none) (mm_hp w μ (sbX X a (sbt f t) c) n) := by
  have ht2 : 2 ≤ t ∧ t ≤ 8 := ⟨by omega, ht.2⟩
  obtain ⟨V, v0, v1, v2⟩ := mm_old (w := w) (μ := μ) (X := sbX X a f c) (n := n) ht2
  have v3 := mm_oldt (w := w) (μ := μ) (X := sbX X a f c) (n := n) ht2
  have e1 : am_sz (mm_hp w μ (sbX X a f c) n) (t + 10) = some (am_txt t).length := by unfold am_sz; rw [v3]
  rw [am_C_in (by simp [am_arg, m_276, Value.category]), show am_loc 276 [.ref t, .ref (a + 1), .int (Int32.ofInt 0), .int (Int32.ofInt 0)] = [some (.ref t), some (.ref (a + 1)), some (.int (Int32.ofInt 0)), some (.int (Int32.ofInt 0))] from by simp [am_loc, am_arg, m_276, Value.category, List.replicate]]
  rw [x_276_0, lc_A_0, z_276_1 (by simp) (mm_oldc ht2), c_275 ht2, bk_v, x_276_4, lc_I_3, x_276_5, am_cmp_ne, am_E_ite, if_pos (by decide), x_276_8, lc_A_0, x_276_9, am_gf_at v0, v1, am_kv_some, x_276_12, show ((0 : Int32)) = Int32.ofInt (0) from by decide, x_276_13, lc_A_1, x_276_14, lc_I_2, x_276_15, lc_I_3, x_276_16, show (Int32.ofInt 0) <<< (Int32.ofInt 0 &&& 31) = Int32.ofInt 0 from by decide, x_276_17, lc_A_0, x_276_18, am_gf_at v0, v1, am_kv_some, x_276_21, e1, Option.map_some, am_kv_some, x_276_22, sb_copy h ht, am_K_go, x_276_25, x_276_43]
theorem c_258 (h : sb_o w a) (ht : 5 ≤ t ∧ t ≤ 8) : am_C (d + 3) 258 [.ref a, .int (Int32.ofInt 0), .ref t] (mm_hp w μ (sbX X a f c) n) Q ↔ Q (.inl none) (mm_hp w μ (sbX X a (sbt f t) c) n) := by
  have ht2 : 2 ≤ t ∧ t ≤ 8 := ⟨by omega, ht.2⟩
  rw [am_C_in (by simp [am_arg, m_258, Value.category]), show am_loc 258 [.ref a, .int (Int32.ofInt 0), .ref t] = [some (.ref a), some (.int (Int32.ofInt 0)), some (.ref t)] from by simp [am_loc, am_arg, m_258, Value.category, List.replicate]]
  rw [x_258_0, lc_A_0, x_258_1, lc_A_2, z_258_2 (by simp) (sb_oc h), c_254 h ht2, bk_n, x_258_5, lc_A_2, x_258_6, lc_A_0, x_258_7, sb_gf0 h, am_kv_some, x_258_10, lc_I_1, x_258_11, lc_A_0, x_258_12, sb_gf1 h, am_kv_some, z_258_15 (by simp) (mm_oldc ht2), c_276 h ht, bk_n, x_258_18]
theorem am_nn {d P pc : Nat} {Q : am_Ou → am_G → Prop} {L : am_Lo} {st : List Value} {g : am_G} {off : Int} {b T : Nat} (h : am_dc P pc = some (.ifnonnull off)) (hj : am_jok pc off = true) (hT : am_jp pc off = T) : am_E d P Q (pc, L, .ref b :: st, g) ↔ am_E d P Q (T, L, st, g) := by
  refine am_E_go h ?_
  unfold am_S
  dsimp only
  rw [if_pos hj, hT]
  rfl
theorem c_249 (h : sb_o w a) (ht : 5 ≤ t ∧ t ≤ 8) : am_C (d + 4) 249 [.ref a, .ref t] (mm_hp w μ (sbX X a f 0) n) Q ↔ Q (.inl (some (.ref a))) (mm_hp w μ (sbX X a (sbt f t) (am_txt t).length) n) := by
  have ht2 : 2 ≤ t ∧ t ≤ 8 := ⟨by omega, ht.2⟩
  have hl : (am_txt t).length ≤ 16 := by
    rcases (by omega : t = 5 ∨ t = 6 ∨ t = 7 ∨ t = 8) with rfl | rfl | rfl | rfl <;> decide
  rw [am_C_in (by simp [am_arg, m_249, Value.category]), show am_loc 249 [.ref a, .ref t] = [some (.ref a), some (.ref t), none] from by simp [am_loc, am_arg, m_249, Value.category, List.replicate]]
  rw [x_249_0, lc_A_1, am_nn (by decide +kernel : am_dc 249 1 = some (.ifnonnull 8)) (by decide) (by decide : am_jp 1 8 = 9), x_249_9, lc_A_1, z_249_10 (by simp) (mm_oldc ht2), c_280 ht2, bk_v, show nI (am_txt t).length = Int32.ofInt ((am_txt t).length : Int) from Int32.ofInt_eq_ofNat.symm, x_249_13, sc_I_2 (by first | rfl | assumption), x_249_14, lc_A_0, x_249_15, lc_A_0, x_249_16, sb_gf3 h, am_kv_some, x_249_19, lc_I_2, x_249_20, mm_ad, Int.zero_add, z_249_21 (by simp) (sb_oc h), c_252 h (by omega) (by omega), bk_n, x_249_24, lc_A_0, x_249_25, lc_A_0, x_249_26, sb_gf3 h, am_kv_some, x_249_29, lc_A_1, z_249_30 (by simp) (sb_oc h), c_258 h ht, bk_n, x_249_33, lc_A_0, x_249_34, if_pos (by first | rfl | exact ⟨rfl, rfl⟩), x_249_35, sb_gf3 h, am_kv_some, x_249_38, lc_I_2, x_249_39, mm_ad, y_249_40, sb_pf3 h, am_kg_some, x_249_43, lc_A_0, x_249_44, if_pos (by rfl), Int.zero_add]
theorem c_284 (h : sb_o w a) (ht : 5 ≤ t ∧ t ≤ 8) : am_C (d + 5) 284 [.ref a, .ref t] (mm_hp w μ (sbX X a f 0) n) Q ↔ Q (.inl (some (.ref a))) (mm_hp w μ (sbX X a (sbt f t) (am_txt t).length) n) := by
  rw [am_C_in (by simp [am_arg, m_284, Value.category]), show am_loc 284 [.ref a, .ref t] = [some (.ref a), some (.ref t)] from by simp [am_loc, am_arg, m_284, Value.category, List.replicate]]
  rw [x_284_0, lc_A_0, x_284_1, lc_A_1, z_284_2 (by simp) (sb_oc h), c_249 h ht, bk_v, x_284_5, if_pos (by first | rfl | exact ⟨rfl, rfl⟩), x_284_6, lc_A_0, x_284_7, if_pos (by rfl)]
/-- a builder is made -/
theorem sb_psh {A : am_A} {j : Nat} (h32 : 32 ≤ n.1) (hp : w.2.2.2 n.1 = false) : am_psh (mm_hp w μ X n) A j = mm_hp w μ (fun b => if b = n.1 then some A else X b) (n.1 + 1, n.2.1 - 1, n.2.2 - j) := by
  refine Prod.ext (funext fun b => ?_) rfl
  show (if b = n.1 then some A else (mm_hp w μ X n).1 b) = (if b < 32 then _ else if w.2.2.2 b = true then mm_c μ b else (if b = n.1 then some A else X b))
  by_cases k : b = n.1
  · subst k
    rw [if_pos (by rfl), if_neg (by omega), if_neg (by rw [hp]; decide), if_pos (by rfl)]
  · rw [if_neg k, if_neg k]
    rfl
theorem sb_pfx {V : Nat → Value} {j : Nat} {y : Value} (h32 : 32 ≤ a) (hp : w.2.2.2 a = false) (hX : X a = some (.inr (12, V))) : am_pf (mm_hp w μ X n) a 12 j y = some (mm_hp w μ (fun b => if b = a then some (.inr (12, updV V j y)) else X b) n) := by
  have h : (mm_hp w μ X n).1 a = some (.inr (12, V)) := by
    show (if a < 32 then _ else if w.2.2.2 a = true then _ else X a) = _
    rw [if_neg (by omega), if_neg (by rw [hp]; decide), hX]
  rw [am_pf_at h h32]
  exact congrArg some (sb_set h32 hp (if_pos rfl) fun b hb => if_neg hb)
theorem c_246 {V : Nat → Value} (h : sb_o w a) (hn : n.1 = a + 1) (h1 : 1 ≤ n.2.1) (h2 : 16 ≤ n.2.2) (hX : X a = some (.inr (12, V))) : am_C (d + 1) 246 [.ref a, .int (Int32.ofInt 16)] (mm_hp w μ X n) Q ↔ Q (.inl none) (mm_hp w μ (fun b => if b = a then some (.inr (12, updV (updV V 0 (.ref (a + 1))) 1 (.int (Int32.ofInt 0)))) else if b = a + 1 then some (.inl (.byte, 16, .inl fun _ => 0)) else X b) (n.1 + 1, n.2.1 - 1, n.2.2 - 16)) := by
  rw [am_C_in (by simp [am_arg, m_246, Value.category]), show am_loc 246 [.ref a, .int (Int32.ofInt 16)] = [some (.ref a), some (.int (Int32.ofInt 16))] from by simp [am_loc, am_arg, m_246, Value.category, List.replicate]]
  rw [x_246_0, lc_A_0, x_246_1, am_obj v_246_3 (by simp), am_K_go, x_246_4, am_gs1 s_246_18, am_K_go, x_246_7, mm_L0, am_cmp_eq, am_E_ite, if_neg (by decide), x_246_10, lc_A_0, x_246_11, lc_I_1, x_246_12, am_nwb h1 h2, am_K_go, sb_psh (by rw [hn]; have := h.1; omega) (by rw [hn]; exact h.2.2), y_246_14, sb_pfx h.1 h.2.1 ((if_neg (by rw [hn]; omega)).trans hX), am_kg_some, x_246_17, lc_A_0, x_246_18, show ((0 : Int32)) = Int32.ofInt (0) from by decide, y_246_19 (by decide), sb_pfx h.1 h.2.1 (if_pos (by rfl)), am_kg_some, x_246_22, x_246_38]
  have e : (fun b => if b = a then some (.inr (12, updV (updV V 0 (.ref n.1)) 1 (.int (Int32.ofInt 0)))) else if b = a then some (.inr (12, updV V 0 (.ref n.1))) else if b = n.1 then some (.inl (.byte, 16, .inl fun _ => 0)) else X b : mm_X) = fun b => if b = a then some (.inr (12, updV (updV V 0 (.ref (a + 1))) 1 (.int (Int32.ofInt 0)))) else if b = a + 1 then some (.inl (.byte, 16, .inl fun _ => 0)) else X b := by
    funext b
    rw [hn]
    by_cases k : b = a
    · rw [if_pos k, if_pos k]
    · rw [if_neg k, if_neg k, if_neg k]
  exact iff_of_eq (congrArg (fun y => Q (.inl none) (mm_hp w μ y (n.1 + 1, n.2.1 - 1, n.2.2 - 16))) e)
theorem sb_V0 : updV (updV (fun k => defaultValue (am_ft 12 k).1) 0 (.ref (a + 1))) 1 (.int (Int32.ofInt 0)) = sb_V a 0 := by
  funext k
  match k with
  | 0 => rfl
  | 1 => rfl
  | 2 => rfl
  | 3 => rfl
  | k + 4 => rfl
theorem c_281 (h : sb_o w n.1) (h1 : 2 ≤ n.2.1) (h2 : 20 ≤ n.2.2) : am_C (d + 2) 281 [.ref n.1] (mm_hp w μ (fun b => if b = n.1 then some (.inr (12, fun k => defaultValue (am_ft 12 k).1)) else X b) (n.1 + 1, n.2.1 - 1, n.2.2 - 4)) Q ↔ Q (.inl none) (mm_hp w μ (sbX X n.1 (fun _ => 0) 0) (n.1 + 2, n.2.1 - 2, n.2.2 - 20)) := by
  rw [am_C_in (by simp [am_arg, m_281, Value.category]), show am_loc 281 [.ref n.1] = [some (.ref n.1)] from by simp [am_loc, am_arg, m_281, Value.category, List.replicate]]
  rw [x_281_0, lc_A_0, x_281_1, show ((16 : Int32)) = Int32.ofInt (16) from by decide, z_281_3 (by simp), c_246 (n := (n.1 + 1, n.2.1 - 1, n.2.2 - 4)) h rfl (by show 1 ≤ n.2.1 - 1; omega) (by show 16 ≤ n.2.2 - 4; omega) (if_pos (by rfl)), bk_n, x_281_6, sb_V0]
  have e : (fun b => if b = n.1 then some (.inr (12, sb_V n.1 0)) else if b = n.1 + 1 then some (.inl (.byte, 16, .inl fun _ => 0)) else (if b = n.1 then some (.inr (12, fun k => defaultValue (am_ft 12 k).1)) else X b) : mm_X) = sbX X n.1 (fun _ => 0) 0 := by
    funext b
    unfold sbX
    by_cases k : b = n.1
    · rw [if_pos k, if_pos k]
    · rw [if_neg k, if_neg k, if_neg k]
      rfl
  rw [e]
  show Q _ (mm_hp w μ _ (n.1 + 1 + 1, n.2.1 - 1 - 1, n.2.2 - 4 - 16)) ↔ _
  rw [show n.2.1 - 1 - 1 = n.2.1 - 2 by omega, show n.2.2 - 4 - 16 = n.2.2 - 20 by omega]
end SB
