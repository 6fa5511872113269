/-! The text of an amount: whatever stood there before; its signs; the reference's. -/
/-- the sign at a place, or -1 -/
def txa (p : (Int → Int) × Int) (k : Int) : Int := if 0 ≤ k ∧ k < p.2 then p.1 k else -1
def tx_ag (f g : Int → Int) (s : Int) : Prop := ∀ j, 0 ≤ j → j < s → f j = g j ∧ 0 ≤ f j ∧ f j ≤ 127
def rs (μ : mm_M) (F : Int → Int) : mm_M := fun b => if b = 177 then F else μ b
section SB
variable {d : Nat} {Q : am_Ou → am_G → Prop} {w : mm_Z} {μ : mm_M} {X : mm_X} {n : mm_N} {a t : Nat} {f h F : Int → Int} {c x z y s q p i r u k v l b P : Int} {g : am_G}
theorem txg_u (hf : tx_ag f h s) (z0 : 0 ≤ z) (z1 : z ≤ 127) : tx_ag (sbu f s z) (sbu h s z) (s + 1) := by
  intro j j0 j1
  unfold sbu
  by_cases e : j = s
  · rw [if_pos e, if_pos e]; exact ⟨rfl, z0, z1⟩
  · rw [if_neg e, if_neg e]; exact hf j j0 (by omega)
theorem txg_dw {m : Int} (hf : tx_ag f h s) : tx_ag (dw f (s + m) q m) (dw h (s + m) q m) (s + m) := by
  intro j j0 j1
  unfold dw
  by_cases e : s + m - m ≤ j ∧ j < s + m
  · rw [if_pos e, if_pos e]
    have := Int.emod_nonneg (q / 10 ^ (s + m - 1 - j).toNat) (show (10 : Int) ≠ 0 by decide)
    have := Int.emod_lt_of_pos (q / 10 ^ (s + m - 1 - j).toNat) (show (0 : Int) < 10 by decide)
    exact ⟨rfl, by omega, by omega⟩
  · rw [if_neg e, if_neg e]; exact hf j j0 (by omega)
theorem txg_fr (hf : tx_ag f h s) (r0 : 0 ≤ r) (r1 : r < 1000) : tx_ag (tx_fr f s r).1 (tx_fr h s r).1 (tx_fr f s r).2 ∧ (tx_fr h s r).2 = (tx_fr f s r).2 ∧ s ≤ (tx_fr f s r).2 ∧ (tx_fr f s r).2 ≤ s + 4 := by
  have a1 := txg_u hf (z := 46) (by decide) (by decide)
  have a2 := txg_u a1 (z := 48 + r / 100) (by omega) (by omega)
  have a3 := txg_u a2 (z := 48 + r % 100 / 10) (by omega) (by omega)
  have a4 := txg_u a3 (z := 48 + r % 100 % 10 / 1) (by omega) (by omega)
  unfold tx_fr
  by_cases e0 : r = 0
  · rw [if_pos e0, if_pos e0]; exact ⟨hf, rfl, by show s ≤ s; omega, by show s ≤ s + 4; omega⟩
  rw [if_neg e0, if_neg e0]
  by_cases e1 : r % 100 = 0
  · rw [if_pos e1, if_pos e1]; exact ⟨a2, rfl, by show s ≤ s + 1 + 1; omega, by show s + 1 + 1 ≤ s + 4; omega⟩
  rw [if_neg e1, if_neg e1]
  by_cases e2 : r % 100 % 10 = 0
  · rw [if_pos e2, if_pos e2]; exact ⟨a3, rfl, by show s ≤ s + 1 + 1 + 1; omega, by show s + 1 + 1 + 1 ≤ s + 4; omega⟩
  rw [if_neg e2, if_neg e2]; exact ⟨a4, rfl, by show s ≤ s + 1 + 1 + 1 + 1; omega, by show s + 1 + 1 + 1 + 1 ≤ s + 4; omega⟩
theorem txg_n (hf : tx_ag f h s) : tx_ag (tx_n f s z).1 (tx_n h s z).1 (tx_n f s z).2 ∧ (tx_n h s z).2 = (tx_n f s z).2 ∧ s ≤ (tx_n f s z).2 ∧ (tx_n f s z).2 ≤ s + 11 := by
  have hb := nd_b (q := z / 1000)
  have := txg_fr (txg_dw (q := z / 1000) (m := nd (z / 1000)) hf) (r := z % 1000) (by omega) (by omega)
  unfold tx_n
  exact ⟨this.1, this.2.1, by omega, by omega⟩
theorem txg_tx : tx_ag (tx f v).1 (tx h v).1 (tx f v).2 ∧ (tx h v).2 = (tx f v).2 ∧ 0 ≤ (tx f v).2 ∧ (tx f v).2 ≤ 16 := by
  have h0 : tx_ag f h 0 := fun j j0 j1 => by omega
  unfold tx
  by_cases e : v < 0
  · rw [if_pos e, if_pos e]
    have := txg_n (z := -v) (s := 1) (txg_u h0 (z := 45) (by decide) (by decide))
    exact ⟨this.1, this.2.1, by omega, by omega⟩
  · rw [if_neg e, if_neg e]
    have := txg_n (z := v) h0
    exact ⟨this.1, this.2.1, by omega, by omega⟩
theorem txg_t (ht : 5 ≤ t ∧ t ≤ 8) : tx_ag (sbt f t) (sbt h t) (am_txt t).length := by
  have hl : ∀ j : Nat, j < (am_txt t).length → 0 ≤ ((am_txt t).getD j 0).toInt ∧ ((am_txt t).getD j 0).toInt ≤ 127 := by
    rcases (by omega : t = 5 ∨ t = 6 ∨ t = 7 ∨ t = 8) with rfl | rfl | rfl | rfl <;> decide
  intro j j0 j1
  unfold sbt
  rw [if_pos ⟨j0, j1⟩, if_pos ⟨j0, j1⟩]
  exact ⟨rfl, hl _ (by omega)⟩
theorem txg_k : tx_ag (txk f k v).1 (txk h k v).1 (txk f k v).2 ∧ (txk h k v).2 = (txk f k v).2 ∧ 0 ≤ (txk f k v).2 ∧ (txk f k v).2 ≤ 16 := by
  unfold txk
  by_cases e0 : k = 0
  · rw [if_pos e0, if_pos e0]; exact txg_tx
  rw [if_neg e0, if_neg e0]
  by_cases e1 : k = 1
  · rw [if_pos e1, if_pos e1]; exact ⟨txg_t (t := 5) (by decide), rfl, by show (0 : Int) ≤ 5; decide, by show (5 : Int) ≤ 16; decide⟩
  rw [if_neg e1, if_neg e1]
  by_cases e2 : k = 2
  · rw [if_pos e2, if_pos e2]; exact ⟨txg_t (t := 6) (by decide), rfl, by show (0 : Int) ≤ 4; decide, by show (4 : Int) ≤ 16; decide⟩
  rw [if_neg e2, if_neg e2]
  by_cases e3 : k = 3
  · rw [if_pos e3, if_pos e3]; exact ⟨txg_t (t := 7) (by decide), rfl, by show (0 : Int) ≤ 4; decide, by show (4 : Int) ≤ 16; decide⟩
  rw [if_neg e3, if_neg e3]; exact ⟨txg_t (t := 8) (by decide), rfl, by show (0 : Int) ≤ 3; decide, by show (3 : Int) ≤ 16; decide⟩
theorem txa_k : txa (txk f k v) i = txa (txk h k v) i := by
  obtain ⟨a1, a2, -⟩ := txg_k (f := f) (h := h) (k := k) (v := v)
  unfold txa
  rw [a2]
  by_cases e : 0 ≤ i ∧ i < (txk f k v).2
  · rw [if_pos e, if_pos e]; exact (a1 i e.1 e.2).1
  · rw [if_neg e, if_neg e]
/-! the reference -/
theorem rs_u : mm_u (rs μ F) 177 k z = rs μ (sbu F k z) := by
  funext b j
  rw [mm_ux]
  unfold rs sbu
  by_cases e : b = 177
  · subst e
    rw [if_pos rfl, if_pos rfl]
    by_cases e2 : j = k
    · rw [if_pos ⟨rfl, e2⟩, if_pos e2]
    · rw [if_neg (fun q => e2 q.2), if_neg e2]
  · rw [if_neg (fun q => e q.1), if_neg e, if_neg e]
theorem rs_o {b : Nat} (e : b ≠ 177) : rs μ F b = μ b := if_neg e
theorem rs_s : rs μ F 177 = F := if_pos rfl
theorem rs_id : rs μ (μ 177) = μ := by
  funext b
  unfold rs
  by_cases e : b = 177
  · rw [if_pos e, e]
  · rw [if_neg e]
theorem mm_chv (h0 : 0 ≤ x) (h1 : x ≤ 65535) : mm_ch x = x := by
  have h : ((Int32.ofInt x).toUInt32 % 65536).toInt32 = Int32.ofInt x := of_decide_eq_true (mm_okc1 h0 h1)
  unfold mm_ch
  rw [h]
  exact mm_wv (by omega) (by omega)
theorem dw_T {m : Nat} : dw (sbu F s (48 + q / 10 ^ m % 10)) (s + 1 + m) q m = dw F (s + ((m + 1 : Nat) : Int)) q ((m + 1 : Nat) : Int) := by
  funext j
  unfold dw
  by_cases e : s + 1 + (m : Int) - m ≤ j ∧ j < s + 1 + m
  · rw [if_pos e, if_pos (by omega), show (s + 1 + (m : Int) - 1 - j).toNat = (s + ((m + 1 : Nat) : Int) - 1 - j).toNat by omega]
  · rw [if_neg e]
    unfold sbu
    by_cases e2 : j = s
    · rw [if_pos e2, if_pos (by omega), show (s + ((m + 1 : Nat) : Int) - 1 - j).toNat = m by omega]
    · rw [if_neg e2, if_neg (by omega)]
theorem dw_0 : dw F s q 0 = F := by
  funext j
  exact if_neg (by omega)
theorem c_227_end (hq : mm_P w) (k0 : -2147483648 ≤ k) (k1 : k ≤ 2147483647) (s0 : 0 ≤ s) (s1 : s ≤ 16) : am_E d 227 Q (174, [some (.ref (129)), some (.int (Int32.ofInt l)), some (.int (Int32.ofInt k)), some (.long (Int64.ofInt z)), none, some (.int (Int32.ofInt s)), some (.long (Int64.ofInt x)), none, some (.long (Int64.ofInt 0)), none, some (.long (Int64.ofInt u)), none], [], mm_hp w (rs μ F) X n) ↔ Q (.inl (some (.int (Int32.ofInt (txa (F, s) k))))) (mm_hp w (rs μ F) X n) := by
  rw [b_227_174 hq, if_pos (by decide)]
  unfold txa
  by_cases e0 : k < 0
  · rw [if_pos (by rw [mm_ltx, mm_wv (by omega) (by omega), mm_wv (by omega) (by omega)]; omega), if_neg (by show ¬ (0 ≤ k ∧ k < s); omega)]
  · rw [if_neg (by rw [mm_ltx, mm_wv (by omega) (by omega), mm_wv (by omega) (by omega)]; omega)]
    by_cases e1 : s ≤ k
    · rw [if_pos (by rw [mm_lex, mm_wv (by omega) (by omega), mm_wv (by omega) (by omega)]; omega), if_neg (by show ¬ (0 ≤ k ∧ k < s); omega)]
    · rw [if_neg (by rw [mm_lex, mm_wv (by omega) (by omega), mm_wv (by omega) (by omega)]; omega), mm_wv k0 k1, mm_gd (by omega), if_pos (by show (0 ≤ k ∧ k < s); omega), rs_s]
theorem c_227_st (hq : mm_P w) (hu : u = 100 ∨ u = 10 ∨ u = 1) (r0 : 0 < r) (hr : r < 10 * u) (s0 : 0 ≤ s) (s1 : s < 16) : am_E d 227 Q (174, [some (.ref (129)), some (.int (Int32.ofInt l)), some (.int (Int32.ofInt k)), some (.long (Int64.ofInt z)), none, some (.int (Int32.ofInt s)), some (.long (Int64.ofInt x)), none, some (.long (Int64.ofInt r)), none, some (.long (Int64.ofInt u)), none], [], mm_hp w (rs μ F) X n) ↔ am_E d 227 Q (174, [some (.ref (129)), some (.int (Int32.ofInt l)), some (.int (Int32.ofInt k)), some (.long (Int64.ofInt z)), none, some (.int (Int32.ofInt (s + 1))), some (.long (Int64.ofInt x)), none, some (.long (Int64.ofInt (r % u))), none, some (.long (Int64.ofInt (u / 10))), none], [], mm_hp w (rs μ (sbu F s (48 + r / u))) X n) := by
  have e1 : mm_d8 r u = r / u := mm_d8p (by omega) (by omega) (by omega) (by omega)
  have e2 : mm_d8 u 10 = u / 10 := mm_d8p (by omega) (by omega) (by decide) (by decide)
  have e3 : r - r / u * u = r % u := by rw [Int.emod_def, Int.mul_comm]
  have b1 : 0 ≤ r / u ∧ r / u < 10 := by rcases hu with rfl | rfl | rfl <;> omega
  rw [b_227_174 hq, if_neg (by rw [mm_lex8, mm_w8v (by omega) (by omega), mm_w8v (by omega) (by omega)]; omega), if_neg (by rw [mm_eqx8, mm_w8v (by omega) (by omega), mm_w8v (by omega) (by omega)]; omega), mm_wv (z := s) (by omega) (by omega), mm_gd (by omega), if_neg (by rw [mm_eqx8, mm_w8v (by omega) (by omega), mm_w8v (by omega) (by omega)]; omega), if_neg (by decide), e1, e2, e3, mm_chv (by omega) (by omega), mm_c16v (by omega) (by omega), rs_u]
theorem c_227_fr (hq : mm_P w) (k0 : -2147483648 ≤ k) (k1 : k ≤ 2147483647) (s0 : 0 ≤ s) (s1 : s ≤ 11) (r0 : 0 < r) (r1 : r < 1000) : am_E d 227 Q (174, [some (.ref (129)), some (.int (Int32.ofInt l)), some (.int (Int32.ofInt k)), some (.long (Int64.ofInt z)), none, some (.int (Int32.ofInt (s + 1))), some (.long (Int64.ofInt x)), none, some (.long (Int64.ofInt r)), none, some (.long (Int64.ofInt 100)), none], [], mm_hp w (rs μ (sbu F s 46)) X n) ↔ Q (.inl (some (.int (Int32.ofInt (txa (tx_fr F s r) k))))) (mm_hp w (rs μ (tx_fr F s r).1) X n) := by
  unfold tx_fr
  rw [if_neg (by omega), c_227_st hq (Or.inl rfl) r0 (by omega) (by omega) (by omega), show (100 : Int) / 10 = 10 from by decide]
  by_cases e1 : r % 100 = 0
  · rw [if_pos e1, e1, c_227_end hq k0 k1 (by omega) (by omega)]
  rw [if_neg e1, c_227_st hq (Or.inr (Or.inl rfl)) (by omega) (by omega) (by omega) (by omega), show (10 : Int) / 10 = 1 from by decide]
  by_cases e2 : r % 100 % 10 = 0
  · rw [if_pos e2, e2, c_227_end hq k0 k1 (by omega) (by omega)]
  rw [if_neg e2, c_227_st hq (Or.inr (Or.inr rfl)) (by omega) (by omega) (by omega) (by omega), show r % 100 % 10 % 1 = 0 by omega, c_227_end hq k0 k1 (by omega) (by omega)]
theorem c_227_100 (hq : mm_P w) (k0 : -2147483648 ≤ k) (k1 : k ≤ 2147483647) (z0 : 0 ≤ z) (z1 : z ≤ 2000000000) : ∀ (m : Nat) (s P : Int) (F : Int → Int), P = 10 ^ (m + 2) → m ≤ 7 → 0 ≤ s → s + m ≤ 11 → (am_E d 227 Q (100, [some (.ref (129)), some (.int (Int32.ofInt l)), some (.int (Int32.ofInt k)), some (.long (Int64.ofInt z)), none, some (.int (Int32.ofInt s)), some (.long (Int64.ofInt P)), none, none, none, none, none], [], mm_hp w (rs μ F) X n) ↔ Q (.inl (some (.int (Int32.ofInt (txa (tx_fr (dw F (s + m) (z / 1000) m) (s + m) (z % 1000)) k))))) (mm_hp w (rs μ (tx_fr (dw F (s + m) (z / 1000) m) (s + m) (z % 1000)).1) X n)) := by
  intro m
  have e1 : mm_d8 z 1000 = z / 1000 := mm_d8p z0 (by omega) (by decide) (by decide)
  induction m with
  | zero =>
    intro s P F hP _ s0 s1
    have hP : P = 100 := hP
    subst hP
    have hs : s + ((0 : Nat) : Int) = s := by omega
    rw [b_227_100 hq, if_pos (by decide), if_neg (by decide), e1, show z - z / 1000 * 1000 = z % 1000 by omega, hs, show ((0 : Nat) : Int) = 0 from rfl, dw_0]
    by_cases e : z % 1000 = 0
    · rw [if_pos (by rw [mm_lex8, mm_w8v (by omega) (by omega), mm_w8v (by omega) (by omega)]; omega), b_227_169 hq, e, c_227_end hq k0 k1 (by omega) (by omega)]
      unfold tx_fr
      rw [if_pos rfl]
    · rw [if_neg (by rw [mm_lex8, mm_w8v (by omega) (by omega), mm_w8v (by omega) (by omega)]; omega), mm_wv (z := s) (by omega) (by omega), mm_gd (by omega), mm_c16v (by decide) (by decide), rs_u, b_227_169 hq, c_227_fr hq k0 k1 (by omega) (by omega) (by omega) (by omega)]
  | succ m ih =>
    intro s P F hP hm s0 s1
    obtain ⟨p, hp⟩ : ∃ p : Int, p = 10 ^ (m + 2) := ⟨_, rfl⟩
    have hp1 : 100 ≤ p ∧ p ≤ 100000000 := by
      rw [hp]
      rcases (by omega : m = 0 ∨ m = 1 ∨ m = 2 ∨ m = 3 ∨ m = 4 ∨ m = 5 ∨ m = 6) with rfl | rfl | rfl | rfl | rfl | rfl | rfl <;> decide
    have hPp : P = p * 10 := by rw [hP, hp, ← Int.pow_succ]
    have q1 : mm_d8 z P = z / P := mm_d8p z0 (by omega) (by omega) (by omega)
    have q0 : 0 ≤ z / P := Int.ediv_nonneg z0 (by omega)
    have q2 : z / P ≤ z := Int.ediv_le_self _ z0
    have q3 : mm_d8 (z / P) 10 = z / P / 10 := mm_d8p q0 (by omega) (by decide) (by decide)
    have q4 : mm_d8 P 10 = p := by rw [mm_d8p (by omega) (by omega) (by decide) (by decide)]; omega
    have q5 : z / P - z / P / 10 * 10 = z / P % 10 := by omega
    have q6 : z / P = z / 1000 / 10 ^ m := by
      rw [Int.ediv_ediv_of_nonneg (by decide), hP, show m + 1 + 2 = 3 + m by omega, Int.pow_add]
      rfl
    rw [b_227_100 hq, if_neg (by rw [mm_ltx8, mm_w8v (by omega) (by omega), mm_w8v (by omega) (by omega)]; omega), if_neg (by rw [mm_eqx8, mm_w8v (by omega) (by omega), mm_w8v (by omega) (by omega)]; omega), if_neg (by decide), mm_wv (z := s) (by omega) (by omega), mm_gd (by omega), if_neg (by decide), q1, q3, q5, q4, mm_chv (by omega) (by omega), mm_c16v (by omega) (by omega), rs_u, q6]
    rw [ih (s + 1) p _ hp (by omega) (by omega) (by omega), dw_T, show s + 1 + (m : Int) = s + ((m + 1 : Nat) : Int) by omega]
theorem c_227_78 (hq : mm_P w) (z0 : 0 ≤ z) (z1 : z ≤ 2000000000) (b0 : 0 < b) (b1 : b ≤ 1000000000) : am_E d 227 Q (78, [some (.ref (129)), some (.int (Int32.ofInt l)), some (.int (Int32.ofInt k)), some (.long (Int64.ofInt z)), none, some (.int (Int32.ofInt s)), some (.long (Int64.ofInt b)), none, none, none, none, none], [], mm_hp w (rs μ F) X n) ↔ if z / b ≤ 9 then am_E d 227 Q (100, [some (.ref (129)), some (.int (Int32.ofInt l)), some (.int (Int32.ofInt k)), some (.long (Int64.ofInt z)), none, some (.int (Int32.ofInt s)), some (.long (Int64.ofInt b)), none, none, none, none, none], [], mm_hp w (rs μ F) X n) else am_E d 227 Q (78, [some (.ref (129)), some (.int (Int32.ofInt l)), some (.int (Int32.ofInt k)), some (.long (Int64.ofInt z)), none, some (.int (Int32.ofInt s)), some (.long (Int64.ofInt (b * 10))), none, none, none, none, none], [], mm_hp w (rs μ F) X n) := by
  have q1 : mm_d8 z b = z / b := mm_d8p z0 (by omega) (by omega) (by omega)
  have q0 : 0 ≤ z / b := Int.ediv_nonneg z0 (by omega)
  have q2 : z / b ≤ z := Int.ediv_le_self _ z0
  rw [b_227_78 hq, if_neg (by rw [mm_eqx8, mm_w8v (by omega) (by omega), mm_w8v (by omega) (by omega)]; omega), q1]
  by_cases e : z / b ≤ 9
  · rw [if_pos (by rw [mm_lex8, mm_w8v (by omega) (by omega), mm_w8v (by omega) (by omega)]; omega), if_pos e]
  · rw [if_neg (by rw [mm_lex8, mm_w8v (by omega) (by omega), mm_w8v (by omega) (by omega)]; omega), if_neg e]
theorem c_227_73 (hq : mm_P w) (k0 : -2147483648 ≤ k) (k1 : k ≤ 2147483647) (z0 : 0 ≤ z) (z1 : z ≤ 2000000000) (s0 : 0 ≤ s) (s1 : s ≤ 1) : am_E d 227 Q (73, [some (.ref (129)), some (.int (Int32.ofInt l)), some (.int (Int32.ofInt k)), some (.long (Int64.ofInt z)), none, some (.int (Int32.ofInt s)), none, none, none, none, none, none], [], mm_hp w (rs μ F) X n) ↔ Q (.inl (some (.int (Int32.ofInt (txa (tx_n F s z) k))))) (mm_hp w (rs μ (tx_n F s z).1) X n) := by
  rw [b_227_73 hq]
  unfold tx_n
  have key : ∀ m : Nat, nd (z / 1000) = m → ∀ P : Int, P = 10 ^ (m + 2) → 1 ≤ m → m ≤ 7 → (am_E d 227 Q (100, [some (.ref (129)), some (.int (Int32.ofInt l)), some (.int (Int32.ofInt k)), some (.long (Int64.ofInt z)), none, some (.int (Int32.ofInt s)), some (.long (Int64.ofInt P)), none, none, none, none, none], [], mm_hp w (rs μ F) X n) ↔ Q (.inl (some (.int (Int32.ofInt (txa (tx_fr (dw F (s + nd (z / 1000)) (z / 1000) (nd (z / 1000))) (s + nd (z / 1000)) (z % 1000)) k))))) (mm_hp w (rs μ (tx_fr (dw F (s + nd (z / 1000)) (z / 1000) (nd (z / 1000))) (s + nd (z / 1000)) (z % 1000)).1) X n)) := fun m hm P hP m0 m1 => by
    rw [hm]
    exact c_227_100 hq k0 k1 z0 z1 m s P F hP m1 s0 (by omega)
  rw [c_227_78 hq z0 z1 (by decide) (by decide)]
  by_cases e1 : z / 1000 < 10
  · rw [if_pos (by omega)]
    exact key 1 (if_pos e1) _ (by decide) (by decide) (by decide)
  rw [if_neg (by omega), show (1000 : Int) * 10 = 10000 from by decide, c_227_78 hq z0 z1 (by decide) (by decide)]
  by_cases e2 : z / 1000 < 100
  · rw [if_pos (by omega)]
    exact key 2 (by unfold nd; rw [if_neg e1, if_pos e2]; rfl) _ (by decide) (by decide) (by decide)
  rw [if_neg (by omega), show (10000 : Int) * 10 = 100000 from by decide, c_227_78 hq z0 z1 (by decide) (by decide)]
  by_cases e3 : z / 1000 < 1000
  · rw [if_pos (by omega)]
    exact key 3 (by unfold nd; rw [if_neg e1, if_neg e2, if_pos e3]; rfl) _ (by decide) (by decide) (by decide)
  rw [if_neg (by omega), show (100000 : Int) * 10 = 1000000 from by decide, c_227_78 hq z0 z1 (by decide) (by decide)]
  by_cases e4 : z / 1000 < 10000
  · rw [if_pos (by omega)]
    exact key 4 (by unfold nd; rw [if_neg e1, if_neg e2, if_neg e3, if_pos e4]; rfl) _ (by decide) (by decide) (by decide)
  rw [if_neg (by omega), show (1000000 : Int) * 10 = 10000000 from by decide, c_227_78 hq z0 z1 (by decide) (by decide)]
  by_cases e5 : z / 1000 < 100000
  · rw [if_pos (by omega)]
    exact key 5 (by unfold nd; rw [if_neg e1, if_neg e2, if_neg e3, if_neg e4, if_pos e5]; rfl) _ (by decide) (by decide) (by decide)
  rw [if_neg (by omega), show (10000000 : Int) * 10 = 100000000 from by decide, c_227_78 hq z0 z1 (by decide) (by decide)]
  by_cases e6 : z / 1000 < 1000000
  · rw [if_pos (by omega)]
    exact key 6 (by unfold nd; rw [if_neg e1, if_neg e2, if_neg e3, if_neg e4, if_neg e5, if_pos e6]; rfl) _ (by decide) (by decide) (by decide)
  rw [if_neg (by omega), show (100000000 : Int) * 10 = 1000000000 from by decide, c_227_78 hq z0 z1 (by decide) (by decide)]
  rw [if_pos (by omega)]
  exact key 7 (by unfold nd; rw [if_neg e1, if_neg e2, if_neg e3, if_neg e4, if_neg e5, if_neg e6]; rfl) _ (by decide) (by decide) (by decide)
theorem c_203 (hq : mm_P w) (k0 : -2147483648 ≤ k) (k1 : k ≤ 2147483647) (hi : 1 ≤ i ∧ i ≤ 4) : am_C (d + 1) 203 [.int (Int32.ofInt k), .int (Int32.ofInt i)] (mm_hp w μ X n) Q ↔ Q (.inl (some (.int (Int32.ofInt (txa (txk f i v) k))))) (mm_hp w μ X n) := by
  have hT : ∀ (t : Nat) (len : Nat), (am_txt t).length = len → txa (sbt f t, (len : Int)) k = if 0 ≤ k ∧ k < len then ((am_txt t).getD k.toNat 0).toInt else -1 := fun t len hl => by
    unfold txa
    by_cases e : 0 ≤ k ∧ k < (len : Int)
    · rw [if_pos e, if_pos e]
      show sbt f t k = _
      unfold sbt
      rw [hl, if_pos e]
    · rw [if_neg e, if_neg e]
  have h5 := hT 5 5 rfl
  have h6 := hT 6 4 rfl
  have h7 := hT 7 4 rfl
  have h8 := hT 8 3 rfl
  rw [en_203, b_203_0 hq]
  rcases (by omega : i = 1 ∨ i = 2 ∨ i = 3 ∨ i = 4) with rfl | rfl | rfl | rfl
  · rw [show txk f 1 v = (sbt f 5, ((5 : Nat) : Int)) from rfl, h5]
    by_cases e0 : k = 0
    · subst e0; exact Iff.rfl
    by_cases e1 : k = 1
    · subst e1; exact Iff.rfl
    by_cases e2 : k = 2
    · subst e2; exact Iff.rfl
    by_cases e3 : k = 3
    · subst e3; exact Iff.rfl
    by_cases e4 : k = 4
    · subst e4; exact Iff.rfl
    simp only [mm_eqx, mm_wv k0 k1, mm_wv (show (-2147483648 : Int) ≤ 0 by decide) (by decide), mm_wv (show (-2147483648 : Int) ≤ 1 by decide) (by decide), mm_wv (show (-2147483648 : Int) ≤ 2 by decide) (by decide), mm_wv (show (-2147483648 : Int) ≤ 3 by decide) (by decide), mm_wv (show (-2147483648 : Int) ≤ 4 by decide) (by decide), e0, e1, e2, e3, e4, if_false]
    rw [if_pos (by decide), if_neg (by omega)]
  · rw [show txk f 2 v = (sbt f 6, ((4 : Nat) : Int)) from rfl, h6]
    by_cases e0 : k = 0
    · subst e0; exact Iff.rfl
    by_cases e1 : k = 1
    · subst e1; exact Iff.rfl
    by_cases e2 : k = 2
    · subst e2; exact Iff.rfl
    by_cases e3 : k = 3
    · subst e3; exact Iff.rfl
    simp only [mm_eqx, mm_wv k0 k1, mm_wv (show (-2147483648 : Int) ≤ 0 by decide) (by decide), mm_wv (show (-2147483648 : Int) ≤ 1 by decide) (by decide), mm_wv (show (-2147483648 : Int) ≤ 2 by decide) (by decide), mm_wv (show (-2147483648 : Int) ≤ 3 by decide) (by decide), mm_wv (show (-2147483648 : Int) ≤ 4 by decide) (by decide), e0, e1, e2, e3, if_false]
    rw [if_neg (by decide), if_pos (by decide), if_neg (by omega)]
  · rw [show txk f 3 v = (sbt f 7, ((4 : Nat) : Int)) from rfl, h7]
    by_cases e0 : k = 0
    · subst e0; exact Iff.rfl
    by_cases e1 : k = 1
    · subst e1; exact Iff.rfl
    by_cases e2 : k = 2
    · subst e2; exact Iff.rfl
    by_cases e3 : k = 3
    · subst e3; exact Iff.rfl
    simp only [mm_eqx, mm_wv k0 k1, mm_wv (show (-2147483648 : Int) ≤ 0 by decide) (by decide), mm_wv (show (-2147483648 : Int) ≤ 1 by decide) (by decide), mm_wv (show (-2147483648 : Int) ≤ 2 by decide) (by decide), mm_wv (show (-2147483648 : Int) ≤ 3 by decide) (by decide), mm_wv (show (-2147483648 : Int) ≤ 4 by decide) (by decide), e0, e1, e2, e3, if_false]
    rw [if_neg (by decide), if_neg (by decide), if_pos (by decide), if_neg (by omega)]
  · rw [show txk f 4 v = (sbt f 8, ((3 : Nat) : Int)) from rfl, h8]
    by_cases e0 : k = 0
    · subst e0; exact Iff.rfl
    by_cases e1 : k = 1
    · subst e1; exact Iff.rfl
    by_cases e2 : k = 2
    · subst e2; exact Iff.rfl
    simp only [mm_eqx, mm_wv k0 k1, mm_wv (show (-2147483648 : Int) ≤ 0 by decide) (by decide), mm_wv (show (-2147483648 : Int) ≤ 1 by decide) (by decide), mm_wv (show (-2147483648 : Int) ≤ 2 by decide) (by decide), mm_wv (show (-2147483648 : Int) ≤ 3 by decide) (by decide), mm_wv (show (-2147483648 : Int) ≤ 4 by decide) (by decide), e0, e1, e2, if_false]
    rw [if_neg (by decide), if_neg (by decide), if_neg (by decide), if_neg (by omega)]
end SB
