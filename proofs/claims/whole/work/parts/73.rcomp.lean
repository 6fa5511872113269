/-! The reference combines two operands; it delivers a result. -/
def rcmb (μ : mm_M) (op : Int) : mm_M :=
  rpsh (rres (mm_u μ 129 59 (μ 129 59 - 2)) (sp_cmb (op - 1) (μ 173 (μ 129 59 - 2)) (μ 174 (μ 129 59 - 2)) (μ 173 (μ 129 59 - 2 + 1)) (μ 174 (μ 129 59 - 2 + 1))).1 (sp_cmb (op - 1) (μ 173 (μ 129 59 - 2)) (μ 174 (μ 129 59 - 2)) (μ 173 (μ 129 59 - 2 + 1)) (μ 174 (μ 129 59 - 2 + 1))).2) (sp_cmb (op - 1) (μ 173 (μ 129 59 - 2)) (μ 174 (μ 129 59 - 2)) (μ 173 (μ 129 59 - 2 + 1)) (μ 174 (μ 129 59 - 2 + 1))).1 (sp_cmb (op - 1) (μ 173 (μ 129 59 - 2)) (μ 174 (μ 129 59 - 2)) (μ 173 (μ 129 59 - 2 + 1)) (μ 174 (μ 129 59 - 2 + 1))).2
/-- an operand as the reference keeps it -/
def rop (k v : Int) : Prop := (0 ≤ k ∧ k ≤ 4) ∧ (-2000000000 ≤ v ∧ v ≤ 2000000000) ∧ (k ≠ 0 → v = 0)
section RC
variable {d : Nat} {Q : am_Ou → am_G → Prop} {w : mm_Z} {μ : mm_M} {X : mm_X} {n : mm_N} {c e m f r : Int}
theorem rres_62 {k v : Int} : rres μ k v 129 62 = k := by
  unfold rres
  rw [mm_un (by decide), mm_us]
theorem rres_63 {k v : Int} : rres μ k v 129 63 = v := by
  unfold rres
  rw [mm_us]
theorem rres_f {k v j : Int} (h2 : j ≠ 62) (h3 : j ≠ 63) : rres μ k v 129 j = μ 129 j := by
  unfold rres
  rw [mm_un h3, mm_un h2]
theorem rres_o {k v : Int} {b : Nat} (h : b ≠ 129) : rres μ k v b = μ b := by
  unfold rres
  rw [mm_uu h, mm_uu h]
theorem sp_wtstr {a b : Int} (ha : 0 ≤ a ∧ a ≤ 4) (hb : 0 ≤ b ∧ b ≤ 4) : sp_wt (sp_str a b) = (if sp_wt b ≤ sp_wt a then sp_wt a else sp_wt b) ∧ (sp_str a b ≤ 1 ↔ sp_wt (sp_str a b) ≤ 0) ∧ (¬ sp_str a b ≤ 1 → sp_ow (sp_wt (sp_str a b)) = sp_str a b) := by
  rcases (by omega : a = 0 ∨ a = 1 ∨ a = 2 ∨ a = 3 ∨ a = 4) with rfl | rfl | rfl | rfl | rfl <;> rcases (by omega : b = 0 ∨ b = 1 ∨ b = 2 ∨ b = 3 ∨ b = 4) with rfl | rfl | rfl | rfl | rfl <;> decide
theorem rop_pl {k v : Int} (h : rop k v) : sp_pl k v = v := by
  unfold sp_pl
  split
  · rfl
  · exact (h.2.2 (by assumption)).symm
theorem c_165 (hq : mm_P w) {op : Int} (ho : 2 ≤ op ∧ op ≤ 5) (ht : 2 ≤ μ 129 59 ∧ μ 129 59 ≤ 640) (h1 : rop (μ 173 (μ 129 59 - 2)) (μ 174 (μ 129 59 - 2))) (h2 : rop (μ 173 (μ 129 59 - 2 + 1)) (μ 174 (μ 129 59 - 2 + 1))) : am_C (d + 3) 165 [.ref 129, .int (Int32.ofInt (op))] (mm_hp w μ X n) Q ↔ Q (.inl none) (mm_hp w (rcmb μ op) X n) := by
  have hpa := rop_pl h1
  have hpb := rop_pl h2
  have hcb := sp_cmb_b (op := op - 1) (va := μ 174 (μ 129 59 - 2)) (vb := μ 174 (μ 129 59 - 2 + 1)) h1.1 h2.1
  have hs := sp_wtstr h1.1 h2.1
  have hsb := sp_str_b h1.1 h2.1
  have w1 := sp_wt_b (k := μ 173 (μ 129 59 - 2))
  have w2 := sp_wt_b (k := μ 173 (μ 129 59 - 2 + 1))
  rw [en_165 (d := d + 2), b_165_0 hq]
  simp (disch := omega) only [and_self, true_and, mm_ltx, mm_lex, mm_eqx, mm_wv, mm_gd, ↓reduceIte, Int.reduceAdd, Int.reduceSub, Int.reduceNeg, Int.reduceLE, Int.reduceLT, Int.reduceMul, Int.reduceEq, mm_us, mm_uu (show (173 : Nat) ≠ 129 by decide), mm_uu (show (174 : Nat) ≠ 129 by decide)]
  rw [c_241 (d := d + 1) hq h1.1, bk_v, b_165_45 hq]
  simp (disch := omega) only [and_self, true_and, mm_ltx, mm_lex, mm_eqx, mm_wv, mm_gd, ↓reduceIte, Int.reduceAdd, Int.reduceSub, Int.reduceNeg, Int.reduceLE, Int.reduceLT, Int.reduceMul, Int.reduceEq, mm_us, mm_uu (show (173 : Nat) ≠ 129 by decide), mm_uu (show (174 : Nat) ≠ 129 by decide)]
  rw [c_241 (d := d + 1) hq h2.1, bk_v, b_165_61 hq]
  -- push what was worked out
  have fin : ∀ (e5 : Int) (r : ev_K), r = sp_cmb (op - 1) (μ 173 (μ 129 59 - 2)) (μ 174 (μ 129 59 - 2)) (μ 173 (μ 129 59 - 2 + 1)) (μ 174 (μ 129 59 - 2 + 1)) → (am_E (d + 2) 165 Q (193, [some (.ref 129), some (.int (Int32.ofInt (op))), some (.long (Int64.ofInt (μ 174 (μ 129 59 - 2)))), none, some (.long (Int64.ofInt (μ 174 (μ 129 59 - 2 + 1)))), none, some (.int (Int32.ofInt (e5)))], [], mm_hp w (rres (mm_u μ 129 59 (μ 129 59 - 2)) r.1 r.2) X n) ↔ Q (.inl none) (mm_hp w (rcmb μ op) X n)) := by
    rintro e5 _ rfl
    rw [b_165_193 hq, rres_62, rres_63, c_217 (d := d + 1) hq hcb.1 (by rw [rres_f (by decide) (by decide), mm_us]; omega), bk_n, b_165_205 hq]
    rfl
  have h173 : ∀ j, mm_u μ 129 59 (μ 129 59 - 2) 173 j = μ 173 j := fun j => by rw [mm_uu (by decide)]
  generalize hM : rcmb μ op = M at *
  generalize hk1 : μ 173 (μ 129 59 - 2) = ka at *
  generalize hv1 : μ 174 (μ 129 59 - 2) = va at *
  generalize hk2 : μ 173 (μ 129 59 - 2 + 1) = kb at *
  generalize hv2 : μ 174 (μ 129 59 - 2 + 1) = vb at *
  have hA : mm_u μ 129 59 (μ 129 59 - 2) 129 59 = μ 129 59 - 2 := mm_us
  have hB : mm_u μ 129 59 (μ 129 59 - 2) 173 (μ 129 59 - 2 + 1) = kb := by rw [h173, hk2]
  generalize mm_u μ 129 59 (μ 129 59 - 2) = μ1 at *
  have s85 : ∀ (x6 s : Int), s = sp_wt (sp_str ka kb) → (am_E (d + 2) 165 Q (85, [some (.ref 129), some (.int (Int32.ofInt (op))), some (.long (Int64.ofInt (va))), none, some (.long (Int64.ofInt (vb))), none, some (.int (Int32.ofInt (x6)))], [.int (Int32.ofInt (s))], mm_hp w μ1 X n) ↔ Q (.inl none) (mm_hp w M X n)) := by
    rintro x6 _ rfl
    have w3 := sp_wt_b (k := sp_str ka kb)
    have pm := sp_mulb h1.2.1 h2.2.1
    have hva := h1.2.1
    have hvb := h2.2.1
    rw [b_165_85 hq]
    by_cases g : sp_wt (sp_str ka kb) ≤ 0
    · rw [if_pos (by rw [mm_lex, mm_wv (by omega) (by omega), mm_wv (by decide) (by decide)]; exact g)]
      have hcm : sp_cmb (op - 1) ka va kb vb = if op - 1 = 1 then sp_fit (va + vb) else if op - 1 = 2 then sp_fit (va - vb) else if op - 1 = 3 then sp_fit (sp_rnd (va * vb) 1000) else if vb = 0 then (4, 0) else sp_fit (sp_rnd (va * 1000) vb) := by
        unfold sp_cmb
        rw [if_pos (hs.2.1.mpr g), hpa, hpb]
      have r0 : ∀ v : Int, (if (0 : Int) = 0 then (sp_fit v).1 else 0) = (sp_fit v).1 ∧ (if (0 : Int) = 0 then (sp_fit v).2 else 0) = (sp_fit v).2 := fun v => ⟨if_pos rfl, if_pos rfl⟩
      have s115 : (op = 2 ∨ op = 3) → (am_E (d + 2) 165 Q (115, [some (.ref 129), some (.int (Int32.ofInt (op))), some (.long (Int64.ofInt (va))), none, some (.long (Int64.ofInt (vb))), none, some (.int (Int32.ofInt (sp_wt (sp_str ka kb))))], [], mm_hp w μ1 X n) ↔ Q (.inl none) (mm_hp w M X n)) := by
        intro hop
        rw [b_165_115 hq]
        by_cases o2 : op = 2
        · rw [if_pos (by rw [o2]), b_165_133 hq, c_223 (d := d) hq (by decide) (by omega) (by omega), bk_n, b_165_136 hq, (r0 _).1, (r0 _).2]
          refine fin _ (sp_fit (va + vb)) ?_
          rw [hcm, if_pos (by omega)]
        · rw [if_neg (by rw [mm_eqx, mm_wv (by omega) (by omega), mm_wv (by decide) (by decide)]; exact o2), b_165_133 hq, c_223 (d := d) hq (by decide) (by omega) (by omega), bk_n, b_165_136 hq, (r0 _).1, (r0 _).2]
          refine fin _ (sp_fit (va - vb)) ?_
          rw [hcm, if_neg (by omega), if_pos (by omega)]
      by_cases o2 : op = 2
      · rw [if_pos (by rw [o2])]
        exact s115 (Or.inl o2)
      · rw [if_neg (by rw [mm_eqx, mm_wv (by omega) (by omega), mm_wv (by decide) (by decide)]; exact o2)]
        by_cases o3 : op = 3
        · rw [if_pos (by rw [o3])]
          exact s115 (Or.inr o3)
        · rw [if_neg (by rw [mm_eqx, mm_wv (by omega) (by omega), mm_wv (by decide) (by decide)]; exact o3)]
          by_cases o4 : op = 4
          · have hr := sp_rnd_b (a := va * vb) (b := 1000) (v := 4000000000000000000) (by omega) (by omega) (by decide)
            rw [if_pos (by rw [o4]), c_224 (d := d + 1) hq (by omega) (by omega) (by decide) (by decide) (by decide), bk_v, b_165_156 hq, c_223 (d := d) hq (by decide) (by omega) (by omega), bk_n, b_165_159 hq, (r0 _).1, (r0 _).2]
            refine fin _ (sp_fit (sp_rnd (va * vb) 1000)) ?_
            rw [hcm, if_neg (by omega), if_neg (by omega), if_pos (by omega)]
          · rw [if_neg (by rw [mm_eqx, mm_wv (by omega) (by omega), mm_wv (by decide) (by decide)]; exact o4)]
            by_cases y0 : vb = 0
            · rw [if_pos (by rw [y0]), c_223 (d := d) hq (by decide) (by decide) (by decide), bk_n, b_165_175 hq, if_neg (by decide), if_neg (by decide)]
              refine fin _ (4, 0) ?_
              rw [hcm, if_neg (by omega), if_neg (by omega), if_neg (by omega), if_pos y0]
            · have hr := sp_rnd_b (a := va * 1000) (b := vb) (v := 2000000000000) (by omega) (by omega) y0
              rw [if_neg (by rw [mm_eqx8, mm_w8v (by omega) (by omega), mm_w8v (by decide) (by decide)]; exact y0), Int.mul_comm 1000 va, c_224 (d := d + 1) hq (by omega) (by omega) (by omega) (by omega) y0, bk_v, b_165_190 hq, c_223 (d := d) hq (by decide) (by omega) (by omega), bk_n, (r0 _).1, (r0 _).2]
              refine fin _ (sp_fit (sp_rnd (va * 1000) vb)) ?_
              rw [hcm, if_neg (by omega), if_neg (by omega), if_neg (by omega), if_neg y0]
    · have g' : ¬ sp_str ka kb ≤ 1 := fun q => g (hs.2.1.mp q)
      have hcm : sp_cmb (op - 1) ka va kb vb = (sp_str ka kb, 0) := by
        unfold sp_cmb
        rw [if_neg g']
      rw [if_neg (by rw [mm_lex, mm_wv (by omega) (by omega), mm_wv (by decide) (by decide)]; exact g), c_210 (d := d + 1) hq (by omega), bk_v, b_165_98 hq, hs.2.2 g', c_223 (d := d) hq hsb (by decide) (by decide), bk_n, b_165_102 hq, if_neg (by omega), if_neg (by omega)]
      refine fin _ (sp_str ka kb, 0) ?_
      rw [hcm]
  by_cases g : sp_wt kb ≤ sp_wt ka
  · rw [if_pos (by rw [mm_lex, mm_wv (by omega) (by omega), mm_wv (by omega) (by omega)]; exact g)]
    exact s85 _ _ (by rw [hs.1, if_pos g])
  · rw [if_neg (by rw [mm_lex, mm_wv (by omega) (by omega), mm_wv (by omega) (by omega)]; exact g)]
    rw [hA]
    simp (disch := omega) only [and_self, true_and, mm_ltx, mm_lex, mm_eqx, mm_wv, mm_gd, ↓reduceIte, Int.reduceAdd, Int.reduceSub, Int.reduceNeg, Int.reduceLE, Int.reduceLT, Int.reduceMul, Int.reduceEq]
    rw [hB, c_241 (d := d + 1) hq h2.1, bk_v, b_165_80 hq]
    exact s85 _ _ (by rw [hs.1, if_neg g])
/-- frames that pass a result on -/
def rpop (μ : mm_M) : Nat → Nat
  | 0 => 0
  | k + 1 => if μ 165 k < 0 ∧ 3 ≤ μ 132 (6 * μ 167 k + rpart (μ 164 k) (μ 167 k)) then rpop μ k else k + 1
/-- what the top frame makes of a result -/
def rdl1 (μ : mm_M) : mm_M :=
  if μ 129 47 ≤ 0 then μ else if 0 ≤ μ 167 (μ 129 47 - 1) then mm_u (mm_u (mm_u μ 170 (μ 129 47 - 1) (μ 170 (μ 129 47 - 1) + μ 129 63)) 171 (μ 129 47 - 1) (if sp_wt (μ 129 62) ≤ μ 171 (μ 129 47 - 1) then μ 171 (μ 129 47 - 1) else sp_wt (μ 129 62))) 172 (μ 129 47 - 1) (μ 172 (μ 129 47 - 1) + 1)
  else rpsh μ (μ 129 62) (μ 129 63)
def rdel (μ : mm_M) : mm_M := rdl1 (mm_u μ 129 47 (rpop μ (μ 129 47).toNat))
/-- frames in range -/
def rfv (μ : mm_M) : Prop := (0 ≤ μ 129 47 ∧ μ 129 47 ≤ 20) ∧ (∀ i, 0 ≤ i → i < μ 129 47 → (0 ≤ μ 164 i ∧ μ 164 i < 216) ∧ (-1 ≤ μ 165 i ∧ μ 165 i < 8) ∧ (-1 ≤ μ 167 i ∧ μ 167 i < 3) ∧ (μ 165 i < 0 → 0 ≤ μ 167 i) ∧ (0 ≤ μ 168 i ∧ μ 168 i < 216) ∧ (0 ≤ μ 169 i ∧ μ 169 i ≤ 7) ∧ (0 ≤ μ 171 i ∧ μ 171 i ≤ 3) ∧ (0 ≤ μ 172 i ∧ μ 172 i ≤ 6))
  ∧ ∀ j, 0 ≤ j → j < 18 → 0 ≤ μ 132 j ∧ μ 132 j ≤ 4
theorem mm_un_id {a : Nat} {k : Int} : mm_u μ a k (μ a k) = μ := by
  funext b j
  unfold mm_u
  split
  · rename_i h; rw [h.1, h.2]
  · rfl
theorem mm_u2 {a : Nat} {k x y : Int} : mm_u (mm_u μ a k x) a k y = mm_u μ a k y := by
  funext b j
  unfold mm_u
  split <;> rfl
theorem c_167_0 (hq : mm_P w) (h62 : 0 ≤ μ 129 62 ∧ μ 129 62 ≤ 4) (h59 : 0 ≤ μ 129 59 ∧ μ 129 59 < 640) (hv : rfv μ) {e2 e3 : Option Value} (h2 : am_n2 e2 = true) (h3 : am_n2 e3 = true) : am_E (d + 1) 167 Q (13, [some (.ref 129), some (.int (Int32.ofInt (0))), e2, e3], [], mm_hp w μ X n) ↔ Q (.inl none) (mm_hp w (rdl1 μ) X n) := by
  rw [b_167_13 hq h2 h3, if_pos rfl]
  unfold rdl1
  have hn := hv.1
  by_cases g : μ 129 47 ≤ 0
  · rw [if_pos g, if_pos (by rw [mm_lex, mm_wv (by omega) (by omega), mm_wv (by decide) (by decide)]; exact g)]
  · have hf := hv.2.1 (μ 129 47 - 1) (by omega) (by omega)
    have hn := hv.1
    have ws := sp_wt_b (k := μ 129 62)
    rw [if_neg g, if_neg (by rw [mm_lex, mm_wv (by omega) (by omega), mm_wv (by decide) (by decide)]; exact g)]
    simp (disch := omega) only [and_self, true_and, mm_ltx, mm_lex, mm_eqx, mm_wv, mm_gd, ↓reduceIte, Int.reduceAdd, Int.reduceSub, Int.reduceNeg, Int.reduceLE, Int.reduceLT, Int.reduceMul, Int.reduceEq]
    by_cases g2 : 0 ≤ μ 167 (μ 129 47 - 1)
    · rw [if_pos g2, if_pos g2, mm_uu (show (129 : Nat) ≠ 170 by decide), c_241 (d := d) hq h62, bk_v, b_167_181 hq h3]
      simp (disch := omega) only [and_self, true_and, mm_ltx, mm_lex, mm_eqx, mm_wv, mm_gd, ↓reduceIte, Int.reduceAdd, Int.reduceSub, Int.reduceNeg, Int.reduceLE, Int.reduceLT, Int.reduceMul, Int.reduceEq, mm_uu (show (171 : Nat) ≠ 170 by decide)]
      by_cases g3 : sp_wt (μ 129 62) ≤ μ 171 (μ 129 47 - 1)
      · rw [if_pos g3, if_pos g3, b_167_206 hq h3]
        simp (disch := omega) only [and_self, true_and, mm_ltx, mm_lex, mm_eqx, mm_wv, mm_gd, ↓reduceIte, Int.reduceAdd, Int.reduceSub, Int.reduceNeg, Int.reduceLE, Int.reduceLT, Int.reduceMul, Int.reduceEq, mm_uu (show (172 : Nat) ≠ 171 by decide), mm_uu (show (172 : Nat) ≠ 170 by decide)]
      · rw [if_neg g3, if_neg g3, mm_uu (show (129 : Nat) ≠ 170 by decide), c_241 (d := d) hq h62, bk_v, b_167_197 hq h3, b_167_206 hq h3]
        simp (disch := omega) only [and_self, true_and, mm_ltx, mm_lex, mm_eqx, mm_wv, mm_gd, ↓reduceIte, Int.reduceAdd, Int.reduceSub, Int.reduceNeg, Int.reduceLE, Int.reduceLT, Int.reduceMul, Int.reduceEq, mm_uu (show (172 : Nat) ≠ 171 by decide), mm_uu (show (172 : Nat) ≠ 170 by decide)]
    · rw [if_neg g2, if_neg g2, c_217 (d := d) hq h62 h59, bk_n, b_167_149 hq h3]
theorem rfv_le {k : Nat} (hv : rfv μ) (h : (k : Int) ≤ μ 129 47) : rfv (mm_u μ 129 47 k) := by
  refine ⟨⟨by rw [mm_us]; omega, by rw [mm_us]; have := hv.1; omega⟩, fun i i0 i1 => ?_, fun j j0 j1 => ?_⟩
  · rw [mm_us] at i1
    simp only [mm_uu (show (164 : Nat) ≠ 129 by decide), mm_uu (show (165 : Nat) ≠ 129 by decide), mm_uu (show (167 : Nat) ≠ 129 by decide), mm_uu (show (168 : Nat) ≠ 129 by decide), mm_uu (show (169 : Nat) ≠ 129 by decide), mm_uu (show (171 : Nat) ≠ 129 by decide), mm_uu (show (172 : Nat) ≠ 129 by decide)]
    exact hv.2.1 i i0 (by omega)
  · rw [mm_uu (show (132 : Nat) ≠ 129 by decide)]
    exact hv.2.2 j j0 j1
theorem c_167_13 (hq : mm_P w) (h62 : 0 ≤ μ 129 62 ∧ μ 129 62 ≤ 4) (h59 : 0 ≤ μ 129 59 ∧ μ 129 59 < 640) (hv : rfv μ) : ∀ (k : Nat) (e2 e3 : Option Value), am_n2 e2 = true → am_n2 e3 = true → (k : Int) + 1 ≤ μ 129 47 →
    (am_E (d + 1) 167 Q (13, [some (.ref 129), some (.int (Int32.ofInt (1))), e2, e3], [], mm_hp w (mm_u μ 129 47 ((k + 1 : Nat) : Int)) X n) ↔ Q (.inl none) (mm_hp w (rdl1 (mm_u μ 129 47 (rpop μ (k + 1)))) X n)) := by
  intro k
  induction k with
  | zero =>
    intro e2 e3 h2 h3 hk
    have hn := hv.1
    have hf := hv.2.1 ((0 : Nat) : Int) (by omega) (by omega)
    have hp := rpart_b (e := μ 167 ((0 : Nat) : Int)) hf.1.1 hf.1.2
    have s109 : ∀ (x1 j : Int) (x2 x3 : Int), 0 ≤ j → j ≤ ((0 : Nat) : Int) + 1 → (am_E (d + 1) 167 Q (109, [some (.ref 129), some (.int (Int32.ofInt (x1))), some (.int (Int32.ofInt (x2))), some (.int (Int32.ofInt (x3)))], [], mm_hp w (mm_u μ 129 47 j) X n) ↔ Q (.inl none) (mm_hp w (rdl1 (mm_u μ 129 47 j)) X n)) := by
      intro x1 j x2 x3 j0 j1
      rw [b_167_109 hq, b_167_110 hq]
      have := rfv_le (k := j.toNat) hv (by omega)
      rw [show ((j.toNat : Nat) : Int) = j by omega] at this
      exact c_167_0 hq (by rw [mm_un (by decide)]; exact h62) (by rw [mm_un (by decide)]; exact h59) this rfl rfl
    have s0 : rpop μ (0 + 1) = 0 + 1 → ∀ (x1 x2 : Int) (e3 : Option Value), am_n2 e3 = true → (am_E (d + 1) 167 Q (72, [some (.ref 129), some (.int (Int32.ofInt (x1))), some (.int (Int32.ofInt (x2))), e3], [.int (Int32.ofInt (0))], mm_hp w (mm_u μ 129 47 (((0 : Nat) : Int) + 1)) X n) ↔ Q (.inl none) (mm_hp w (rdl1 (mm_u μ 129 47 (rpop μ (0 + 1)))) X n)) := by
      intro hr x1 x2 e3 h3
      rw [b_167_72 hq h3, if_pos rfl, mm_us, b_167_91 hq, if_pos rfl, mm_u2, s109 _ _ _ _ (by omega) (Int.le_refl _), hr]
      rfl
    have s1 : rpop μ (0 + 1) = rpop μ 0 → ∀ (x1 x2 : Int) (e3 : Option Value), am_n2 e3 = true → (am_E (d + 1) 167 Q (72, [some (.ref 129), some (.int (Int32.ofInt (x1))), some (.int (Int32.ofInt (x2))), e3], [.int (Int32.ofInt (1))], mm_hp w (mm_u μ 129 47 (((0 : Nat) : Int) + 1)) X n) ↔ Q (.inl none) (mm_hp w (rdl1 (mm_u μ 129 47 (rpop μ (0 + 1)))) X n)) := by
      intro hr x1 x2 e3 h3
      rw [b_167_72 hq h3, if_neg (by decide), mm_us, b_167_91 hq, if_neg (by decide), mm_u2, mm_us, show ((0 : Nat) : Int) + 1 - 1 = ((0 : Nat) : Int) by omega]
      rw [if_pos (by decide), s109 _ _ _ _ (by decide) (by decide), hr]
      rfl
    rw [b_167_13 hq h2 h3, if_neg (by decide), show (((0 + 1 : Nat)) : Int) = ((0 : Nat) : Int) + 1 by omega]
    simp (disch := omega) only [and_self, true_and, mm_ltx, mm_lex, mm_eqx, mm_wv, mm_gd, ↓reduceIte, Int.reduceAdd, Int.reduceSub, Int.reduceNeg, Int.reduceLE, Int.reduceLT, Int.reduceMul, Int.reduceEq, mm_us, show ((0 : Nat) : Int) + 1 - 1 = ((0 : Nat) : Int) by omega, mm_uu (show (165 : Nat) ≠ 129 by decide), mm_uu (show (164 : Nat) ≠ 129 by decide), mm_uu (show (167 : Nat) ≠ 129 by decide)]
    by_cases g : 0 ≤ μ 165 ((0 : Nat) : Int)
    · rw [if_pos g, b_167_71 hq h3]
      exact s0 (by rw [show rpop μ (0 + 1) = if μ 165 ((0 : Nat) : Int) < 0 ∧ 3 ≤ μ 132 (6 * μ 167 ((0 : Nat) : Int) + rpart (μ 164 ((0 : Nat) : Int)) (μ 167 ((0 : Nat) : Int))) then rpop μ 0 else 0 + 1 from rfl]; rw [if_neg (fun q => by have := q.1; omega)]) _ _ _ h3
    · rw [if_neg g, d_213 (d := d) hq hf.1.1 hf.1.2 (by omega), bk_v, b_167_61 hq h3]
      have h132 := hv.2.2 (6 * μ 167 ((0 : Nat) : Int) + rpart (μ 164 ((0 : Nat) : Int)) (μ 167 ((0 : Nat) : Int))) (by omega) (by omega)
      simp (disch := omega) only [and_self, true_and, mm_ltx, mm_lex, mm_eqx, mm_wv, mm_gd, ↓reduceIte, Int.reduceAdd, Int.reduceSub, Int.reduceNeg, Int.reduceLE, Int.reduceLT, Int.reduceMul, Int.reduceEq, mm_uu (show (132 : Nat) ≠ 129 by decide)]
      by_cases g2 : μ 132 (6 * μ 167 ((0 : Nat) : Int) + rpart (μ 164 ((0 : Nat) : Int)) (μ 167 ((0 : Nat) : Int))) ≤ 2
      · rw [if_pos g2, b_167_71 hq h3]
        exact s0 (by rw [show rpop μ (0 + 1) = if μ 165 ((0 : Nat) : Int) < 0 ∧ 3 ≤ μ 132 (6 * μ 167 ((0 : Nat) : Int) + rpart (μ 164 ((0 : Nat) : Int)) (μ 167 ((0 : Nat) : Int))) then rpop μ 0 else 0 + 1 from rfl]; rw [if_neg (fun q => by have := q.2; omega)]) _ _ _ h3
      · rw [if_neg g2]
        exact s1 (by rw [show rpop μ (0 + 1) = if μ 165 ((0 : Nat) : Int) < 0 ∧ 3 ≤ μ 132 (6 * μ 167 ((0 : Nat) : Int) + rpart (μ 164 ((0 : Nat) : Int)) (μ 167 ((0 : Nat) : Int))) then rpop μ 0 else 0 + 1 from rfl]; rw [if_pos ⟨by omega, by omega⟩]) _ _ _ h3
  | succ k ih =>
    intro e2 e3 h2 h3 hk
    have hn := hv.1
    have hf := hv.2.1 ((k + 1 : Nat) : Int) (by omega) (by omega)
    have hp := rpart_b (e := μ 167 ((k + 1 : Nat) : Int)) hf.1.1 hf.1.2
    have s109 : ∀ (x1 j : Int) (x2 x3 : Int), 0 ≤ j → j ≤ ((k + 1 : Nat) : Int) + 1 → (am_E (d + 1) 167 Q (109, [some (.ref 129), some (.int (Int32.ofInt (x1))), some (.int (Int32.ofInt (x2))), some (.int (Int32.ofInt (x3)))], [], mm_hp w (mm_u μ 129 47 j) X n) ↔ Q (.inl none) (mm_hp w (rdl1 (mm_u μ 129 47 j)) X n)) := by
      intro x1 j x2 x3 j0 j1
      rw [b_167_109 hq, b_167_110 hq]
      have := rfv_le (k := j.toNat) hv (by omega)
      rw [show ((j.toNat : Nat) : Int) = j by omega] at this
      exact c_167_0 hq (by rw [mm_un (by decide)]; exact h62) (by rw [mm_un (by decide)]; exact h59) this rfl rfl
    have s0 : rpop μ ((k + 1) + 1) = (k + 1) + 1 → ∀ (x1 x2 : Int) (e3 : Option Value), am_n2 e3 = true → (am_E (d + 1) 167 Q (72, [some (.ref 129), some (.int (Int32.ofInt (x1))), some (.int (Int32.ofInt (x2))), e3], [.int (Int32.ofInt (0))], mm_hp w (mm_u μ 129 47 (((k + 1 : Nat) : Int) + 1)) X n) ↔ Q (.inl none) (mm_hp w (rdl1 (mm_u μ 129 47 (rpop μ ((k + 1) + 1)))) X n)) := by
      intro hr x1 x2 e3 h3
      rw [b_167_72 hq h3, if_pos rfl, mm_us, b_167_91 hq, if_pos rfl, mm_u2, s109 _ _ _ _ (by omega) (Int.le_refl _), hr]
      rfl
    have s1 : rpop μ ((k + 1) + 1) = rpop μ (k + 1) → ∀ (x1 x2 : Int) (e3 : Option Value), am_n2 e3 = true → (am_E (d + 1) 167 Q (72, [some (.ref 129), some (.int (Int32.ofInt (x1))), some (.int (Int32.ofInt (x2))), e3], [.int (Int32.ofInt (1))], mm_hp w (mm_u μ 129 47 (((k + 1 : Nat) : Int) + 1)) X n) ↔ Q (.inl none) (mm_hp w (rdl1 (mm_u μ 129 47 (rpop μ ((k + 1) + 1)))) X n)) := by
      intro hr x1 x2 e3 h3
      rw [b_167_72 hq h3, if_neg (by decide), mm_us, b_167_91 hq, if_neg (by decide), mm_u2, mm_us, show ((k + 1 : Nat) : Int) + 1 - 1 = ((k + 1 : Nat) : Int) by omega]
      rw [if_neg (by rw [mm_lex, mm_wv (by omega) (by omega), mm_wv (by decide) (by decide)]; omega), b_167_110 hq, hr]
      exact ih _ _ rfl rfl (by omega)
    rw [b_167_13 hq h2 h3, if_neg (by decide), show ((((k + 1) + 1 : Nat)) : Int) = ((k + 1 : Nat) : Int) + 1 by omega]
    simp (disch := omega) only [and_self, true_and, mm_ltx, mm_lex, mm_eqx, mm_wv, mm_gd, ↓reduceIte, Int.reduceAdd, Int.reduceSub, Int.reduceNeg, Int.reduceLE, Int.reduceLT, Int.reduceMul, Int.reduceEq, mm_us, show ((k + 1 : Nat) : Int) + 1 - 1 = ((k + 1 : Nat) : Int) by omega, mm_uu (show (165 : Nat) ≠ 129 by decide), mm_uu (show (164 : Nat) ≠ 129 by decide), mm_uu (show (167 : Nat) ≠ 129 by decide)]
    by_cases g : 0 ≤ μ 165 ((k + 1 : Nat) : Int)
    · rw [if_pos g, b_167_71 hq h3]
      exact s0 (by rw [show rpop μ ((k + 1) + 1) = if μ 165 ((k + 1 : Nat) : Int) < 0 ∧ 3 ≤ μ 132 (6 * μ 167 ((k + 1 : Nat) : Int) + rpart (μ 164 ((k + 1 : Nat) : Int)) (μ 167 ((k + 1 : Nat) : Int))) then rpop μ (k + 1) else (k + 1) + 1 from rfl]; rw [if_neg (fun q => by have := q.1; omega)]) _ _ _ h3
    · rw [if_neg g, d_213 (d := d) hq hf.1.1 hf.1.2 (by omega), bk_v, b_167_61 hq h3]
      have h132 := hv.2.2 (6 * μ 167 ((k + 1 : Nat) : Int) + rpart (μ 164 ((k + 1 : Nat) : Int)) (μ 167 ((k + 1 : Nat) : Int))) (by omega) (by omega)
      simp (disch := omega) only [and_self, true_and, mm_ltx, mm_lex, mm_eqx, mm_wv, mm_gd, ↓reduceIte, Int.reduceAdd, Int.reduceSub, Int.reduceNeg, Int.reduceLE, Int.reduceLT, Int.reduceMul, Int.reduceEq, mm_uu (show (132 : Nat) ≠ 129 by decide)]
      by_cases g2 : μ 132 (6 * μ 167 ((k + 1 : Nat) : Int) + rpart (μ 164 ((k + 1 : Nat) : Int)) (μ 167 ((k + 1 : Nat) : Int))) ≤ 2
      · rw [if_pos g2, b_167_71 hq h3]
        exact s0 (by rw [show rpop μ ((k + 1) + 1) = if μ 165 ((k + 1 : Nat) : Int) < 0 ∧ 3 ≤ μ 132 (6 * μ 167 ((k + 1 : Nat) : Int) + rpart (μ 164 ((k + 1 : Nat) : Int)) (μ 167 ((k + 1 : Nat) : Int))) then rpop μ (k + 1) else (k + 1) + 1 from rfl]; rw [if_neg (fun q => by have := q.2; omega)]) _ _ _ h3
      · rw [if_neg g2]
        exact s1 (by rw [show rpop μ ((k + 1) + 1) = if μ 165 ((k + 1 : Nat) : Int) < 0 ∧ 3 ≤ μ 132 (6 * μ 167 ((k + 1 : Nat) : Int) + rpart (μ 164 ((k + 1 : Nat) : Int)) (μ 167 ((k + 1 : Nat) : Int))) then rpop μ (k + 1) else (k + 1) + 1 from rfl]; rw [if_pos ⟨by omega, by omega⟩]) _ _ _ h3
theorem c_167 (hq : mm_P w) (h62 : 0 ≤ μ 129 62 ∧ μ 129 62 ≤ 4) (h59 : 0 ≤ μ 129 59 ∧ μ 129 59 < 640) (hv : rfv μ) : am_C (d + 2) 167 [.ref 129] (mm_hp w μ X n) Q ↔ Q (.inl none) (mm_hp w (rdel μ) X n) := by
  have hn := hv.1
  rw [en_167 (d := d + 1), b_167_0 hq]
  unfold rdel
  by_cases g : μ 129 47 ≤ 0
  · rw [if_pos (by rw [mm_lex, mm_wv (by omega) (by omega), mm_wv (by decide) (by decide)]; exact g), b_167_12 hq, c_167_0 hq h62 h59 hv rfl rfl, show (μ 129 47).toNat = 0 by omega]
    have : mm_u μ 129 47 ((rpop μ 0 : Nat) : Int) = μ := by
      have h0 : μ 129 47 = ((rpop μ 0 : Nat) : Int) := by show μ 129 47 = 0; omega
      rw [← h0, mm_un_id]
    rw [this]
  · rw [if_neg (by rw [mm_lex, mm_wv (by omega) (by omega), mm_wv (by decide) (by decide)]; exact g), b_167_12 hq]
    have := c_167_13 (d := d) (Q := Q) (X := X) (n := n) hq h62 h59 hv ((μ 129 47).toNat - 1) none none rfl rfl (by omega)
    rw [show (μ 129 47).toNat - 1 + 1 = (μ 129 47).toNat by omega, show (((μ 129 47).toNat : Nat) : Int) = μ 129 47 by omega, mm_un_id] at this
    exact this
end RC
