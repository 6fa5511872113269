/-! The class works cells out as the environment has it. -/
/-- nothing but the calculator's own rows changes -/
def ce_s (μ μ' : mm_M) : Prop := ∀ b, b ≠ 122 → b ≠ 123 → b ≠ 124 → μ' b = μ b
/-- behind a cell that is worked out -/
def ce_a (μ μ' : mm_M) (t : Int) : Prop := ce_s μ μ' ∧ μ' 123 = μ 123 ∧ (∀ k, k ≠ 7 → μ' 122 k = μ 122 k) ∧ μ' 122 7 = t ∧ ∀ j, j < μ 122 5 → μ' 124 j = μ 124 j
/-- behind an exception -/
def ce_x (μ μ' : mm_M) : Prop := ce_s μ μ' ∧ ∀ k, k ≠ 5 → k ≠ 7 → μ' 122 k = μ 122 k
/-- the formula of rule r, as the class has it at the rule v -/
def ce_co (μ : mm_M) (v : Int) (N : ev_N) (r : Int) : Prop := ∃ φ : Nat → Int, φ 0 = 0 ∧ φ (nv_code N r).length = μ (mm_rl v) 4 ∧ μ (mm_rl v) 4 ≤ 24 ∧ (∀ i j, i < j → j ≤ (nv_code N r).length → φ i < φ j) ∧ ∀ (i : Nat) (op a b : Int), (nv_code N r)[i]? = some (op, a, b) →
  (op = 0 → μ (mm_rl v + 3) (φ i) = 5 ∧ μ (mm_rl v + 4) (φ i) = 1000 * a ∧ φ (i + 1) = φ i + 1)
  ∧ (op = 1 → μ (mm_rl v + 3) (φ i) = 6 ∧ μ (mm_rl v + 4) (φ i) = (nv_sh N r a b).length ∧ φ (i + 1) = φ i + 1 + (nv_sh N r a b).length ∧ ∀ (j : Nat) (s : Int × Int), (nv_sh N r a b)[j]? = some s → μ (mm_rl v + 4) (φ i + 1 + j) = s.1 * 10 + s.2)
  ∧ (2 ≤ op ∧ op ≤ 5 → μ (mm_rl v + 3) (φ i) = op - 1 ∧ φ (i + 1) = φ i + 1)
  ∧ (op = 6 → μ (mm_rl v + 3) (φ i) = 8 ∧ μ (mm_rl v + 4) (φ i) = φ a.toNat ∧ μ (mm_rl v + 4) (φ a.toNat - 1) = φ b.toNat ∧ φ (i + 1) = φ i + 1)
  ∧ (op = 7 → μ (mm_rl v + 3) (φ i) = 9 ∧ μ (mm_rl v + 4) (φ i) = φ a.toNat ∧ φ (i + 1) = φ i + 1)
/-- the class's rows say what the environment says -/
def ce_0 (μ : mm_M) (N : ev_N) (G : Int → Prop) : Prop := ct_a μ ∧ cr_r μ ∧ cg_r μ ∧ (∀ c, G c → cinner μ (cc c) = if nv_inn N c < 0 then 3 else nv_inn N c) ∧ (0 ≤ μ 122 6 ∧ μ 122 6 < 3) ∧ (∀ c, G c → nv_inn N c < 0 → csee μ (cc c) (μ 122 6 + 1).toNat = nv_in N c) ∧ (∀ c, G c → ¬ nv_inn N c < 0 → nv_in N c = -2147483648)
  ∧ (∀ c, G c → (cbest μ (cc c) (μ 53 1).toNat).1 = nv_win N c) ∧ (∀ c, G c → ¬ nv_inn N c < 0 → μ (mm_tr (nv_inn N c) + 2) (rpart c (nv_inn N c)) = nv_roll N (nv_inn N c) (rpart c (nv_inn N c))) ∧ (∀ e m, 0 ≤ e → e < 3 → 0 ≤ m → m < 6 → fo_ch (μ (mm_tr e + 1)) m = nv_kid N e m)
  ∧ (∀ c, G c → 0 ≤ nv_win N c → ce_co μ (μ 54 (nv_win N c)) N (nv_win N c))
  ∧ ∀ c e s, G c → 0 ≤ e → e < 3 → 0 ≤ s → s < 9 → nv_tg N e s (rpart c e) = if s = 6 then (if μ (mm_tr e + 4) (rpart c e) = -1 ∨ μ (mm_tr e + 4) (rpart c e) + -1 < 0 ∨ μ (mm_tr e) 5 ≤ μ (mm_tr e + 4) (rpart c e) + -1 then -1 else μ (mm_tr e + 5) (μ (mm_tr e + 4) (rpart c e) + -1)) else if s = 7 then (if μ (mm_tr e + 4) (rpart c e) = -1 ∨ μ (mm_tr e + 4) (rpart c e) + 1 < 0 ∨ μ (mm_tr e) 5 ≤ μ (mm_tr e + 4) (rpart c e) + 1 then -1 else μ (mm_tr e + 5) (μ (mm_tr e + 4) (rpart c e) + 1)) else if s = 8 then μ (mm_tr e + 1) (rpart c e) else if μ (mm_tr e + 1) s ≠ -2 then s else -1
def ce_e (μ : mm_M) (N : ev_N) (G : Int → Prop) : Prop := ∀ μ', ce_s μ μ' → μ' 122 6 = μ 122 6 → ce_0 μ' N G
/-- the calculator in the midst of its work: P is being worked out, t steps are taken -/
def ce_m (μ : mm_M) (N : ev_N) (G : Int → Prop) (P : List Int) (t : Int) : Prop := ce_e μ N G ∧ (∀ c, 0 ≤ c → c < 216 → (μ 123 (cc c) = 0 ∨ μ 123 (cc c) = 1) ∧ (μ 123 (cc c) = 1 ↔ c ∈ P)) ∧ μ 122 7 = t ∧ (0 ≤ t ∧ t ≤ nv_fu N) ∧ μ 122 8 = nv_fu N ∧ 0 ≤ μ 122 5
/-- the operands lie on the stack, from base on -/
def ce_ss (v : Int → Int) (base : Int) : List ev_K → Prop
  | [] => True
  | x :: st => v (base + st.length) = sp_en x.1 x.2 ∧ ce_ss v base st
section CK
variable {d : Nat} {Q : am_Ou → am_G → Prop} {w : mm_Z} {μ : mm_M} {X : mm_X} {n : mm_N} {c e m r t v : Int} {N : ev_N} {G : Int → Prop}
theorem ce_s_r : ce_s μ μ := fun _ _ _ _ => rfl
theorem ce_s_t {μ1 μ2 : mm_M} (h1 : ce_s μ μ1) (h2 : ce_s μ1 μ2) : ce_s μ μ2 := fun b g1 g2 g3 => by rw [h2 b g1 g2 g3, h1 b g1 g2 g3]
theorem ce_e_t {μ1 : mm_M} (h : ce_e μ N G) (h1 : ce_s μ μ1) (h2 : μ1 122 6 = μ 122 6) : ce_e μ1 N G := fun μ' g1 g2 => h μ' (ce_s_t h1 g1) (by rw [g2, h2])
theorem ce_x_t {μ1 μ2 : mm_M} (h1 : ce_s μ μ1) (h1' : ∀ k, k ≠ 5 → k ≠ 7 → μ1 122 k = μ 122 k) (h2 : ce_x μ1 μ2) : ce_x μ μ2 := ⟨ce_s_t h1 h2.1, fun k g1 g2 => by rw [h2.2 k g1 g2, h1' k g1 g2]⟩
theorem ce_m_a {μ1 : mm_M} {P : List Int} {t1 : Int} (h : ce_m μ N G P t) (h1 : ce_a μ μ1 t1) (ht : 0 ≤ t1 ∧ t1 ≤ nv_fu N) : ce_m μ1 N G P t1 := by
  obtain ⟨m1, m2, m3, m4, m5, m6⟩ := h
  obtain ⟨a1, a2, a3, a4, a5⟩ := h1
  refine ⟨ce_e_t m1 a1 (a3 6 (by decide)), ?_, a4, ht, by rw [a3 8 (by decide)]; exact m5, by rw [a3 5 (by decide)]; exact m6⟩
  rw [a2]
  exact m2
theorem ce_a_t {μ1 μ2 : mm_M} {t1 t2 : Int} (h1 : ce_a μ μ1 t1) (h2 : ce_a μ1 μ2 t2) : ce_a μ μ2 t2 := by
  obtain ⟨a1, a2, a3, a4, a5⟩ := h1
  obtain ⟨b1, b2, b3, b4, b5⟩ := h2
  refine ⟨ce_s_t a1 b1, by rw [b2, a2], fun k hk => by rw [b3 k hk, a3 k hk], b4, fun j hj => ?_⟩
  rw [b5 j (by rw [a3 5 (by decide)]; exact hj), a5 j hj]
theorem ce_a_r (h : μ 122 7 = t) : ce_a μ μ t := ⟨ce_s_r, rfl, fun _ _ => rfl, h, fun _ _ => rfl⟩
theorem ce_a_x {μ1 : mm_M} (h1 : ce_a μ μ1 t) : ∀ k, k ≠ 5 → k ≠ 7 → μ1 122 k = μ 122 k := fun k _ g => h1.2.2.1 k g
/-- the room for an exception is there -/
def ce_n (n : mm_N) : Prop := 1 ≤ n.2.1 ∧ 6 ≤ n.2.2
/-- a cell is worked out, f deep at most -/
def ce_W (d : Nat) (w : mm_Z) (X : mm_X) (n : mm_N) (N : ev_N) (G : Int → Prop) (f : Nat) : Prop := ∀ (c : Int) (P : List Int) (t : Int) (μ : mm_M) (Q : am_Ou → am_G → Prop), G c → ce_m μ N G P t → μ 122 5 + 9 * f ≤ 180 → (∀ x t', ev N f P c t = some (x, t') → ∀ μ', ce_a μ μ' t' → Q (.inl (some (.long (Int64.ofInt (sp_en x.1 x.2))))) (mm_hp w (μ') X n)) → (ev N f P c t = none → ∀ μ', ce_x μ μ' → Q (.inr (2, n.1)) (mm_hp w μ' X (mm_th n))) → am_C d 75 [.ref 122, .int (Int32.ofInt (cc c)), .int (Int32.ofInt (21 - (f : Int)))] (mm_hp w μ X n) Q
theorem ce_kf {p : Int → Int} : (fo_rk 6).filter (fun j => decide (p j = m)) = fo_ch p m := by rw [fo_rk6]; rfl
/-- the sum over some children -/
theorem c_63 (hq : mm_P w) (hN : ev_en N G) {f : Nat} (hf : f ≤ 19) (hW : ce_W d w X n N G f) {P : List Int} (he : 0 ≤ e ∧ e < 3) (hc : G c) (hd : 4 ≤ d)
    (hm : ce_m μ N G P t) (hb : μ 122 5 + 9 * f ≤ 180)
    (q1 : ∀ s t', ev_sum (ev N f P) c e (nv_kid N e (rpart c e)) (0, 0) t = some (s, t') → ∀ μ', ce_a μ μ' t' → Q (.inl (some (.long (Int64.ofInt (sp_en (if s.1 ≤ 1 then 0 else s.1) s.2))))) (mm_hp w (μ') X n))
    (q2 : ev_sum (ev N f P) c e (nv_kid N e (rpart c e)) (0, 0) t = none → ∀ μ', ce_x μ μ' → Q (.inr (2, n.1)) (mm_hp w μ' X (mm_th n))) : am_C (d + 1) 63 [.ref 122, .int (Int32.ofInt (cc c)), .int (Int32.ofInt (e)), .int (Int32.ofInt (20 - (f : Int)))] (mm_hp w μ X n) Q := by
  have hc0 := hN.1 c hc
  have hcb := cc_b hc0.1 hc0.2
  have hpb := rpart_b (e := e) hc0.1 hc0.2
  have hE := ev_o hN f P
  obtain ⟨d, rfl⟩ : ∃ k, d = k + 4 := ⟨d - 4, by omega⟩
  have loop : ∀ (k : Nat) (s : ev_K) (t : Int) (μ1 : mm_M) (e10 : Option Value), k ≤ 6 → ce_a μ μ1 t → ce_m μ1 N G P t → (0 ≤ s.1 ∧ s.1 ≤ 4) → (-2000000000 * (6 - (k : Int)) ≤ s.2 ∧ s.2 ≤ 2000000000 * (6 - (k : Int))) →
      (∀ s' t', ev_sum (ev N f P) c e ((fo_rk k).filter (fun j => decide (μ (mm_tr e + 1) j = rpart c e))) s t = some (s', t') → ∀ μ', ce_a μ μ' t' → Q (.inl (some (.long (Int64.ofInt (sp_en (if s'.1 ≤ 1 then 0 else s'.1) s'.2))))) (mm_hp w (μ') X n)) →
      (ev_sum (ev N f P) c e ((fo_rk k).filter (fun j => decide (μ (mm_tr e + 1) j = rpart c e))) s t = none → ∀ μ', ce_x μ μ' → Q (.inr (2, n.1)) (mm_hp w μ' X (mm_th n))) →
      am_E (d + 4) 63 Q (27, [some (.ref 122), some (.int (Int32.ofInt (cc c))), some (.int (Int32.ofInt (e))), some (.int (Int32.ofInt (20 - (f : Int)))), some (.ref (mm_tr e)), some (.int (Int32.ofInt (rpart c e))), some (.long (Int64.ofInt (s.2))), none, some (.int (Int32.ofInt (s.1))), some (.int (Int32.ofInt (6 - (k : Int)))), e10, none], [], mm_hp w μ1 X n) := by
    intro k
    induction k with
    | zero =>
      intro s t μ1 e10 _ ha hm1 hs hv p1 _
      have p1 := p1 s t rfl
      rw [b_63_27 hq]
      by_cases g : s.1 ≤ 1
      · have := p1 μ1 ha
        rw [if_pos g] at this
        simp (disch := omega) only [and_self, true_and, mm_ltx, mm_lex, mm_eqx, mm_wv, mm_gd, ↓reduceIte, Int.reduceAdd, Int.reduceSub, Int.reduceNeg, Int.reduceLE, Int.reduceLT, Int.reduceMul, Int.reduceEq, if_pos, if_neg]
        exact this
      · have := p1 μ1 ha
        rw [if_neg g] at this
        simp (disch := omega) only [and_self, true_and, mm_ltx, mm_lex, mm_eqx, mm_wv, mm_gd, ↓reduceIte, Int.reduceAdd, Int.reduceSub, Int.reduceNeg, Int.reduceLE, Int.reduceLT, Int.reduceMul, Int.reduceEq, if_pos, if_neg]
        rw [show d + 4 = (d + 3) + 1 from rfl, c_56 (d := d + 3) hq (by omega), bk_v, b_63_101 hq]
        unfold sp_en at this ⊢
        rw [if_neg (by omega)] at this ⊢
        exact this
    | succ k ih =>
      intro s t μ1 e10 hk ha hm1 hs hv p1 p2
      have g0 : 0 ≤ 6 - ((k + 1 : Nat) : Int) := by omega
      have g6 : 6 - ((k + 1 : Nat) : Int) < 6 := by omega
      have e1 : 6 - ((k + 1 : Nat) : Int) + 1 = 6 - (k : Int) := by omega
      have h0 := hm1.1 μ1 ce_s_r rfl
      have ht := h0.1 e he.1 he.2
      have hrow : μ1 (mm_tr e + 1) = μ (mm_tr e + 1) := ha.1 _ (by have := mm_tr_b (z := e); omega) (by have := mm_tr_b (z := e); omega) (by have := mm_tr_b (z := e); omega)
      have hkids : ∀ j, 0 ≤ j → j < 6 → μ (mm_tr e + 1) j = rpart c e → j ∈ nv_kid N e (rpart c e) := by
        intro j j0 j6 hj
        rw [← h0.2.2.2.2.2.2.2.2.2.1 e (rpart c e) he.1 he.2 hpb.1 hpb.2, hrow]
        exact fo_mem_ch.mpr ⟨⟨j0, j6⟩, hj⟩
      unfold fo_rk at p1 p2
      rw [b_63_27 hq]
      generalize hj : 6 - ((k + 1 : Nat) : Int) = j at *
      simp (disch := omega) only [and_self, true_and, mm_ltx, mm_lex, mm_eqx, mm_wv, mm_gd, ↓reduceIte, Int.reduceAdd, Int.reduceSub, Int.reduceNeg, Int.reduceLE, Int.reduceLT, Int.reduceMul, Int.reduceEq, if_pos, if_neg]
      rw [show d + 4 = (d + 3) + 1 from rfl, c_149 (d := d + 3) (mm_PT hq) g0 g6 (by omega) (by omega) (mm_twp ht), bk_v, b_63_43 hq, hrow]
      by_cases a : μ (mm_tr e + 1) j = rpart c e
      · rw [List.filter_cons_of_pos (by simp [a])] at p1 p2
        have hG := hN.2.2.2.2.2.2.1 c e j hc he.1 he.2 (hkids j g0 g6 a)
        have hmc : cc c + (j - cpart (cc c) e) * mm_span e = cc (ev_mv c e j) := (rmv_cc hc0.1 hc0.2 he ⟨g0, g6⟩).symm
        rw [if_pos a, if_neg (by decide), show d + 3 + 1 = (d + 2) + 2 from rfl, c_132 (d := d + 2) hq hcb.1 hcb.2 he ⟨g0, g6⟩, bk_v, b_63_54 hq, hmc, show d + 2 + 2 = d + 4 from rfl, show 20 - (f : Int) + 1 = 21 - (f : Int) by omega]
        refine hW (ev_mv c e j) P t μ1 _ hG.2 hm1 (by rw [ha.2.2.1 5 (by decide)]; exact hb) ?_ ?_
        · intro x t1 hx μ2 ha2
          have hxo := hE _ _ _ _ hG.2 hx
          have hpl : -2000000000 ≤ sp_pl x.1 x.2 ∧ sp_pl x.1 x.2 ≤ 2000000000 := sp_pl_b (fun _ => hxo.1.2)
          have hx0 : x.1 = 0 → -1000000000000 ≤ x.2 ∧ x.2 ≤ 1000000000000 := fun _ => by have := hxo.1.2; omega
          have hst := sp_str_b hs hxo.1.1
          rw [bk_v, b_63_60 hq, show d + 4 = (d + 3) + 1 from rfl, c_57 (d := d + 3) hq hxo.1.1 hx0, bk_v, b_63_69 hq, c_55 (d := d + 3) hq hxo.1.1 hx0, bk_v, b_63_79 hq, show d + 3 + 1 = (d + 2) + 2 from rfl, c_59 (d := d + 2) hq hs hxo.1.1, bk_v, b_63_82 hq, b_63_84 hq, e1]
          have hm2 := ce_m_a hm1 ha2 ⟨by have := hm1.2.2.2.1; omega, by have := hm1.2.2.2.1; omega⟩
          refine ih (sp_str s.1 x.1, s.2 + sp_pl x.1 x.2) t1 μ2 _ (by omega) (ce_a_t ha ha2) hm2 hst ⟨?_, ?_⟩ ?_ ?_
          · show -2000000000 * (6 - (k : Int)) ≤ s.2 + sp_pl x.1 x.2
            omega
          · show s.2 + sp_pl x.1 x.2 ≤ 2000000000 * (6 - (k : Int))
            omega
          · intro s' t' h
            refine p1 s' t' ?_
            unfold ev_sum
            rw [hx]
            exact h
          · intro h
            refine p2 ?_
            unfold ev_sum
            rw [hx]
            exact h
        · intro hx μ2 hx2
          rw [bk_e h_63]
          refine p2 ?_ μ2 (ce_x_t ha.1 (ce_a_x ha) hx2)
          unfold ev_sum
          rw [hx]
      · rw [List.filter_cons_of_neg (by simp [a])] at p1 p2
        rw [if_neg a, if_pos (by decide), b_63_84 hq, e1]
        exact ih s t μ1 e10 (by omega) ha hm1 hs ⟨by omega, by omega⟩ p1 p2
  have h0 := hm.1 μ ce_s_r rfl
  have hk6 : (fo_rk 6).filter (fun j => decide (μ (mm_tr e + 1) j = rpart c e)) = nv_kid N e (rpart c e) := by
    rw [ce_kf]
    exact h0.2.2.2.2.2.2.2.2.2.1 e (rpart c e) he.1 he.2 hpb.1 hpb.2
  have := loop 6 (0, 0) t μ none (by omega) (ce_a_r hm.2.2.1) hm (by decide) (by decide) (by rw [hk6]; exact q1) (by rw [hk6]; exact q2)
  rw [en_63, b_63_0 hq]
  simp (disch := omega) only [and_self, true_and, mm_ltx, mm_lex, mm_eqx, mm_wv, mm_gd, ↓reduceIte, Int.reduceAdd, Int.reduceSub, Int.reduceNeg, Int.reduceLE, Int.reduceLT, Int.reduceMul, Int.reduceEq, if_pos, if_neg]
  rw [show d + 4 = (d + 3) + 1 from rfl, c_131 (d := d + 3) hq hcb.1 hcb.2 he, bk_v, b_63_16 hq, cc_p hc0.1 hc0.2]
  exact this
end CK
