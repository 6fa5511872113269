/-! The class works cells out: operands, references, formulas. -/
section CK
variable {d : Nat} {Q : am_Ou → am_G → Prop} {w : mm_Z} {μ : mm_M} {X : mm_X} {n : mm_N} {c e m r t v : Int} {N : ev_N} {G : Int → Prop}
theorem c_70 (hq : mm_P w) {x : Int} (h : 0 ≤ μ 122 5 ∧ μ 122 5 < 200) : am_C (d + 1) 70 [.ref 122, .long (Int64.ofInt (x))] (mm_hp w μ X n) Q ↔ Q (.inl none) (mm_hp w (mm_u (mm_u μ 124 (μ 122 5) x) 122 5 (μ 122 5 + 1)) X n) := by
  rw [en_70, b_70_0 hq]
  simp (disch := omega) only [and_self, true_and, mm_ltx, mm_lex, mm_eqx, mm_wv, mm_gd, ↓reduceIte, Int.reduceAdd, Int.reduceSub, Int.reduceNeg, Int.reduceLE, Int.reduceLT, Int.reduceMul, Int.reduceEq, if_neg, mm_uu]
theorem c_69 (hq : mm_P w) (h : 1 ≤ μ 122 5 ∧ μ 122 5 ≤ 200) : am_C (d + 1) 69 [.ref 122] (mm_hp w μ X n) Q ↔ Q (.inl (some (.long (Int64.ofInt (μ 124 (μ 122 5 - 1)))))) (mm_hp w (mm_u μ 122 5 (μ 122 5 - 1)) X n) := by
  rw [en_69, b_69_0 hq]
  simp (disch := omega) only [and_self, true_and, mm_ltx, mm_lex, mm_eqx, mm_wv, mm_gd, ↓reduceIte, Int.reduceAdd, Int.reduceSub, Int.reduceNeg, Int.reduceLE, Int.reduceLT, Int.reduceMul, Int.reduceEq, if_neg, mm_uu, mm_us]
theorem c_73 (hq : mm_P w) (ht : mm_tw μ e) (hm : 0 ≤ m ∧ m < 6) {s : Int} (hs : 0 ≤ s ∧ s < 9) : am_C (d + 3) 73 [.ref 122, .ref (mm_tr e), .int (Int32.ofInt (m)), .int (Int32.ofInt (s))] (mm_hp w μ X n) Q ↔ Q (.inl (some (.int (Int32.ofInt (if s = 6 then (if μ (mm_tr e + 4) m = -1 ∨ μ (mm_tr e + 4) m + -1 < 0 ∨ μ (mm_tr e) 5 ≤ μ (mm_tr e + 4) m + -1 then -1 else μ (mm_tr e + 5) (μ (mm_tr e + 4) m + -1)) else if s = 7 then (if μ (mm_tr e + 4) m = -1 ∨ μ (mm_tr e + 4) m + 1 < 0 ∨ μ (mm_tr e) 5 ≤ μ (mm_tr e + 4) m + 1 then -1 else μ (mm_tr e + 5) (μ (mm_tr e + 4) m + 1)) else if s = 8 then μ (mm_tr e + 1) m else if μ (mm_tr e + 1) s ≠ -2 then s else -1))))) (mm_hp w μ X n) := by
  rw [en_73 (d := d + 2), b_73_0 hq]
  simp (disch := omega) only [mm_wv, mm_gd]
  by_cases s6 : s = 6
  · rw [if_pos s6, if_pos s6, c_154 (d := d) (mm_PT hq) hm.1 (by omega) (Or.inr rfl) ht, bk_v, b_73_34 hq]
  · rw [if_neg s6, if_neg s6]
    by_cases s7 : s = 7
    · rw [if_pos s7, if_pos s7, c_154 (d := d) (mm_PT hq) hm.1 (by omega) (Or.inl rfl) ht, bk_v, b_73_41 hq]
    · rw [if_neg s7, if_neg s7]
      by_cases s8 : s = 8
      · rw [if_pos s8, if_pos s8]
      · rw [if_neg s8, if_neg s8, show d + 2 = (d + 1) + 1 from rfl, c_148 (d := d + 1) (mm_PT hq) (by omega) (by omega) (mm_twp ht), bk_v, b_73_54 hq]
        by_cases g : μ (mm_tr e + 1) s = -2
        · rw [if_neg (show ¬ (0 ≤ s ∧ s < 6 ∧ μ (mm_tr e + 1) s ≠ -2) from fun q => q.2.2 g), if_pos (by decide), if_neg (fun q => q g)]
        · rw [if_pos (show 0 ≤ s ∧ s < 6 ∧ μ (mm_tr e + 1) s ≠ -2 from ⟨hs.1, by omega, g⟩), if_neg (by decide), if_pos g]
theorem c_111 (hq : mm_P w) (h : 0 ≤ m ∧ m < 1000) : am_C (d + 1) 111 [.int (Int32.ofInt (m))] (mm_hp w μ X n) Q ↔ Q (.inl (some (.int (Int32.ofInt (m / 10))))) (mm_hp w μ X n) := by
  rw [en_111, b_111_0 hq, mm_dvp (by omega) (by omega) (by decide) (by decide)]
theorem c_117 (hq : mm_P w) (h : 0 ≤ m ∧ m < 1000) : am_C (d + 1) 117 [.int (Int32.ofInt (m))] (mm_hp w μ X n) Q ↔ Q (.inl (some (.int (Int32.ofInt (m % 10))))) (mm_hp w μ X n) := by
  rw [en_117, b_117_0 hq, mm_dvp (by omega) (by omega) (by decide) (by decide), mm_remx]
/-- a reference -/
theorem c_71 (hq : mm_P w) (hN : ev_en N G) {f : Nat} (hf : f ≤ 19) (hW : ce_W d w X n N G f) {P : List Int} (hc : G c) (hd : 4 ≤ d)
    (hm : ce_m μ N G P t) (hb : μ 122 5 + 9 * f ≤ 180) {S : List (Int × Int)} {p : Int} (hp : 0 ≤ p ∧ p + S.length < 24) (hS : ∀ s ∈ S, (0 ≤ s.1 ∧ s.1 < 3) ∧ (0 ≤ s.2 ∧ s.2 < 10)) (hl : μ (mm_rl v + 4) p = S.length) (hs : ∀ (j : Nat) (s : Int × Int), S[j]? = some s → μ (mm_rl v + 4) (p + 1 + j) = s.1 * 10 + s.2)
    (q1 : ∀ x t', ev_ref N (ev N f P) (ev_tgt N S c) t = some (x, t') → ∀ μ', ce_a μ μ' t' → Q (.inl (some (.long (Int64.ofInt (sp_en x.1 x.2))))) (mm_hp w (μ') X n))
    (q2 : ev_ref N (ev N f P) (ev_tgt N S c) t = none → ∀ μ', ce_x μ μ' → Q (.inr (2, n.1)) (mm_hp w μ' X (mm_th n))) : am_C (d + 3) 71 [.ref 122, .ref (mm_rl v), .int (Int32.ofInt (p)), .int (Int32.ofInt (cc c)), .int (Int32.ofInt (20 - (f : Int)))] (mm_hp w μ X n) Q := by
  have h0 := hm.1 μ ce_s_r rfl
  have loop : ∀ (S' : List (Int × Int)) (D : List (Int × Int)) (c' : Int) (e7 e8 e9 e10 : Option Value), am_n2 e7 = true → am_n2 e8 = true → am_n2 e9 = true → am_n2 e10 = true → S = D ++ S' → G c' →
      (∀ x t', ev_ref N (ev N f P) (ev_tgt N S' c') t = some (x, t') → ∀ μ', ce_a μ μ' t' → Q (.inl (some (.long (Int64.ofInt (sp_en x.1 x.2))))) (mm_hp w (μ') X n)) →
      (ev_ref N (ev N f P) (ev_tgt N S' c') t = none → ∀ μ', ce_x μ μ' → Q (.inr (2, n.1)) (mm_hp w μ' X (mm_th n))) →
      am_E (d + 2) 71 Q (6, [some (.ref 122), some (.ref (mm_rl v)), some (.int (Int32.ofInt (p))), some (.int (Int32.ofInt (cc c))), some (.int (Int32.ofInt (20 - (f : Int)))), some (.int (Int32.ofInt (cc c'))), some (.int (Int32.ofInt ((D.length : Int) + 1))), e7, e8, e9, e10], [], mm_hp w μ X n) := by
    intro S'
    induction S' with
    | nil =>
      intro D c' e7 e8 e9 e10 h7 h8 h9 h10 hSD hc' p1 p2
      rw [List.append_nil] at hSD
      subst hSD
      have up : ce_W (d + 2) w X n N G f := fun c' P' t' μ' Q' g1 g2 g3 g4 g5 => am_C_le (by omega) _ _ _ _ (hW c' P' t' μ' Q' g1 g2 g3 g4 g5)
      rw [b_71_6 hq h7 h8 h9 h10]
      simp (disch := omega) only [and_self, true_and, mm_ltx, mm_lex, mm_eqx, mm_wv, mm_gd, ↓reduceIte, Int.reduceAdd, Int.reduceSub, Int.reduceNeg, Int.reduceLE, Int.reduceLT, Int.reduceMul, Int.reduceEq, if_pos, if_neg]
      rw [show 20 - (f : Int) + 1 = 21 - (f : Int) by omega]
      refine up c' P t μ _ hc' hm hb ?_ ?_
      · intro x t' hx μ' ha
        rw [bk_v, b_71_122 hq h7 h8 h9 h10]
        exact p1 x t' hx μ' ha
      · intro hx μ' h2
        rw [bk_e h_71]
        exact p2 hx μ' h2
    | cons s S' ih =>
      intro D c' e7 e8 e9 e10 h7 h8 h9 h10 hSD hc' p1 p2
      have hc0 := hN.1 c' hc'
      have hcb := cc_b hc0.1 hc0.2
      have hsm : s ∈ S := by rw [hSD]; exact List.mem_append_right _ List.mem_cons_self
      have hsb := hS s hsm
      have hsd := hs D.length s (by rw [hSD, List.getElem?_append_right (Nat.le_refl _), Nat.sub_self]; rfl)
      have hpb := rpart_b (e := s.1) hc0.1 hc0.2
      have hlen : S.length = D.length + S'.length + 1 := by rw [hSD, List.length_append, List.length_cons]; omega
      rw [b_71_6 hq h7 h8 h9 h10]
      simp (disch := omega) only [and_self, true_and, mm_ltx, mm_lex, mm_eqx, mm_wv, mm_gd, ↓reduceIte, Int.reduceAdd, Int.reduceSub, Int.reduceNeg, Int.reduceLE, Int.reduceLT, Int.reduceMul, Int.reduceEq, if_pos, if_neg]
      rw [show p + ((D.length : Int) + 1) = p + 1 + (D.length : Int) by omega, hsd, show d + 2 = (d + 1) + 1 from rfl, c_111 (d := d + 1) hq (by omega), bk_v, b_71_33 hq h8 h9 h10, c_117 (d := d + 1) hq (by omega), bk_v, b_71_40 hq h9 h10, show (s.1 * 10 + s.2) / 10 = s.1 by omega, show (s.1 * 10 + s.2) % 10 = s.2 by omega]
      unfold ev_tgt at p1 p2
      by_cases w9 : s.2 = 9
      · rw [if_pos w9] at p1 p2
        rw [if_pos (by rw [w9]), show d + 1 + 1 = d + 2 from rfl]
        unfold ev_ref at p1 p2
        rw [if_neg (show ¬ (2 : Int) = 0 by decide), if_neg (show ¬ (2 : Int) = 1 by decide)] at p1 p2
        refine c_74 hq hN hf hW hsb.1 hc' hd hm hb ?_ ?_
        · intro x t' hx μ' ha
          rw [bk_v, b_71_59 hq h10]
          exact p1 x t' hx μ' ha
        · intro hx μ' h2
          rw [bk_e h_71]
          exact p2 hx μ' h2
      · rw [if_neg w9] at p1 p2
        rw [if_neg (by rw [mm_eqx, mm_wv (by omega) (by omega), mm_wv (by decide) (by decide)]; exact w9)]
        have htg := h0.2.2.2.2.2.2.2.2.2.2.2 c' s.1 s.2 hc' hsb.1.1 hsb.1.2 hsb.2.1 (by omega)
        have htb := hN.2.2.2.2.2.2.2.2.2 c' s.1 s.2 hc' hsb.1.1 hsb.1.2 hsb.2.1 (by omega)
        have h73 := c_73 (d := d - 1) (X := X) (n := n) hq (h0.1 s.1 hsb.1.1 hsb.1.2) hpb (s := s.2) ⟨hsb.2.1, by omega⟩ (Q := am_bk 71 80 [some (.ref 122), some (.ref (mm_rl v)), some (.int (Int32.ofInt (p))), some (.int (Int32.ofInt (cc c))), some (.int (Int32.ofInt (20 - (f : Int)))), some (.int (Int32.ofInt (cc c'))), some (.int (Int32.ofInt ((D.length : Int) + 1))), some (.int (Int32.ofInt (s.1 * 10 + s.2))), some (.int (Int32.ofInt (s.1))), some (.int (Int32.ofInt (s.2))), e10] [] (am_E (d + 2) 71 Q) Q)
        rw [← htg, show d - 1 + 3 = d + 2 by omega] at h73
        simp (disch := omega) only [mm_wv, mm_gd]
        rw [c_131 (d := d + 1) hq hcb.1 hcb.2 hsb.1, bk_v, b_71_78 hq h10, cc_p hc0.1 hc0.2, show d + 1 + 1 = d + 2 from rfl, h73, bk_v, b_71_83 hq h10]
        by_cases g : nv_tg N s.1 s.2 (rpart c' s.1) < 0
        · rw [if_pos g] at p1 p2
          have hlt : -1 ≤ nv_tg N s.1 s.2 (rpart c' s.1) ∨ nv_tg N s.1 s.2 (rpart c' s.1) = -2 := by
            have ht := h0.1 s.1 hsb.1.1 hsb.1.2
            have := (ht.1 (rpart c' s.1) hpb.1 hpb.2)
            have h4 := this.2.2.2.1
            rw [htg]
            by_cases k6 : s.2 = 6
            · rw [if_pos k6]
              split
              · exact Or.inl (Int.le_refl _)
              · have := (ht.1 (μ (mm_tr s.1 + 4) (rpart c' s.1) + -1) (by omega) (by have := ht.2.1; omega)).2.2.2.2
                exact Or.inl (by omega)
            · rw [if_neg k6]
              by_cases k7 : s.2 = 7
              · rw [if_pos k7]
                split
                · exact Or.inl (Int.le_refl _)
                · have := (ht.1 (μ (mm_tr s.1 + 4) (rpart c' s.1) + 1) (by omega) (by have := ht.2.1; omega)).2.2.2.2
                  exact Or.inl (by omega)
              · rw [if_neg k7]
                by_cases k8 : s.2 = 8
                · rw [if_pos k8]; omega
                · rw [if_neg k8]
                  split <;> omega
          rw [if_neg (by rw [mm_lex, mm_wv (by decide) (by decide), mm_wv (by omega) (by omega)]; omega), c_56 (d := d + 1) hq (by decide), bk_v, b_71_94 hq]
          exact p1 (1, 0) t rfl μ (ce_a_r hm.2.2.1)
        · rw [if_neg g] at p1 p2
          have htb : (0 ≤ nv_tg N s.1 s.2 (rpart c' s.1) ∧ nv_tg N s.1 s.2 (rpart c' s.1) < 6) ∧ G (ev_mv c' s.1 (nv_tg N s.1 s.2 (rpart c' s.1))) := by
            rcases htb with q | q
            · exact absurd q g
            · exact q
          generalize nv_tg N s.1 s.2 (rpart c' s.1) = m3 at *
          rw [if_pos (by rw [mm_lex, mm_wv (by decide) (by decide), mm_wv (by omega) (by omega)]; omega), c_132 (d := d) hq hcb.1 hcb.2 hsb.1 htb.1, bk_v, b_71_104 hq, show cc c' + (m3 - cpart (cc c') s.1) * mm_span s.1 = cc (ev_mv c' s.1 m3) from (rmv_cc hc0.1 hc0.2 hsb.1 htb.1).symm]
          have := ih (D ++ [s]) (ev_mv c' s.1 m3) (some (.int (Int32.ofInt (s.1 * 10 + s.2)))) (some (.int (Int32.ofInt (s.1)))) (some (.int (Int32.ofInt (s.2)))) (some (.int (Int32.ofInt (m3)))) rfl rfl rfl rfl (by rw [List.append_assoc]; exact hSD) htb.2 p1 p2
          rw [List.length_append, List.length_singleton, show ((D.length + 1 : Nat) : Int) = (D.length : Int) + 1 by omega] at this
          exact this
  rw [en_71 (d := d + 2), b_71_0 hq]
  exact loop S [] c none none none none rfl rfl rfl rfl rfl hc q1 q2
end CK
