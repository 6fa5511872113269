/-! The reference's reader: shifts, and what follows a unit. -/
section RR
variable {d : Nat} {Q : am_Ou → am_G → Prop} {w : mm_Z} {μ μ' μ0 : mm_M} {X : mm_X} {n : mm_N} {C C' : rd_C} {S S' : rd_S} {a b c o e z R base least : Int} {L : List rd_X} {l : List Int} {x : rd_X} {q : rd_Q} {k : Nat} {σ : rd_T}
theorem rd_sgd (h : ¬ rd_way c < 0) : sgd (rd_way c) = c := by
  unfold rd_way at h ⊢
  unfold sgd
  by_cases a1 : c = 60
  · subst a1; rfl
  · by_cases a2 : c = 62
    · subst a2; rfl
    · by_cases a3 : c = 94
      · subst a3; rfl
      · by_cases a4 : c = 36
        · subst a4; rfl
        · rw [if_neg a1, if_neg a2, if_neg a3, if_neg a4] at h ⊢
          by_cases a5 : 48 ≤ c ∧ c ≤ 53
          · rw [if_pos a5, if_neg (by omega), if_neg (by omega), if_neg (by omega), if_neg (by omega)]; omega
          · rw [if_neg a5] at h; exact absurd (by decide) h
theorem rd_way_n : rd_way c < 0 ↔ ¬ (c = 60 ∨ c = 62 ∨ c = 94 ∨ c = 36 ∨ (48 ≤ c ∧ c ≤ 53)) := by
  unfold rd_way
  constructor
  · intro h q
    rcases q with rfl | rfl | rfl | rfl | q
    · exact absurd h (by decide)
    · exact absurd h (by decide)
    · exact absurd h (by decide)
    · exact absurd h (by decide)
    · rw [if_neg (by omega), if_neg (by omega), if_neg (by omega), if_neg (by omega), if_pos q] at h; omega
  · intro h
    rw [if_neg (by omega), if_neg (by omega), if_neg (by omega), if_neg (by omega), if_neg (by omega)]; decide
theorem c_226 (hq : mm_P w) (h0 : 0 ≤ R ∧ R < 8) (hR : μ 129 11 = R) (hc : 0 ≤ c ∧ c ≤ 65535) (hM : rd_RM R μ (q, L, l, C, S)) (hq2 : q.1 = 2) (hI : rd_RI k (q, L, l, C, S)) (hk : k ≤ 23)
    (hQ0 : rd_shf q L l C S c = none → ∀ μ', rd_F2 R μ μ' → Q (.inl (some (.int (Int32.ofInt (0))))) (mm_hp w (μ') X n)) (hQ1 : ∀ σ', rd_shf q L l C S c = some σ' → ∀ μ', rd_F2 R μ μ' → rd_RM R μ' σ' → Q (.inl (some (.int (Int32.ofInt (1))))) (mm_hp w (μ') X n)) : am_C (d + 3) 226 [.ref 129, .int (Int32.ofInt (c))] (mm_hp w μ X n) Q := by
  obtain ⟨m1, m2, m3, m4, m5, m6⟩ := hM
  dsimp only at m1 m2 m3 m4 m5 m6
  obtain ⟨i1, i2, i3, i4, i5, i6⟩ := hI
  dsimp only at i1 i2 i3 i4 i5 i6
  have hp1 : rd_p1 q = 1 := if_pos (Or.inr (Or.inl hq2))
  have hp2 : rd_p2 q = 1 := if_pos hq2
  rw [hp1] at i4
  rw [hp2] at i5
  have h45 : μ 145 R = S.1 := m5.1
  have m6 := m6 hq2
  unfold rd_shf at hQ0 hQ1
  rw [en_226 (d := d + 2), b_226_0 hq]
  by_cases g : rd_way c < 0
  · rw [rd_if1 g] at hQ0
    have hn := rd_way_n.mp g
    have e40 : am_E (d + 2) 226 Q (40, [some (.ref 129), some (.int (Int32.ofInt (c))), none], [], mm_hp w μ X n) := by
      rw [b_226_40 hq, b_226_41 hq, if_pos rfl, b_226_97 hq, if_pos (by decide)]
      exact hQ0 rfl μ rd_F2_r
    rw [if_neg (by rw [mm_eqx, mm_wv (by omega) (by omega), mm_wv (by omega) (by omega)]; omega), if_neg (by rw [mm_eqx, mm_wv (by omega) (by omega), mm_wv (by omega) (by omega)]; omega), if_neg (by rw [mm_eqx, mm_wv (by omega) (by omega), mm_wv (by omega) (by omega)]; omega), if_neg (by rw [mm_eqx, mm_wv (by omega) (by omega), mm_wv (by omega) (by omega)]; omega)]
    by_cases g1 : c < 48
    · rw [if_pos (by rw [mm_ltx, mm_wv (by omega) (by omega), mm_wv (by omega) (by omega)]; exact g1)]; exact e40
    · rw [if_neg (by rw [mm_ltx, mm_wv (by omega) (by omega), mm_wv (by omega) (by omega)]; exact g1), if_pos (by rw [mm_ltx, mm_wv (by omega) (by omega), mm_wv (by omega) (by omega)]; omega)]; exact e40
  · rw [rd_if0 g] at hQ1
    have hy : c = 60 ∨ c = 62 ∨ c = 94 ∨ c = 36 ∨ (48 ≤ c ∧ c ≤ 53) := Decidable.byContradiction fun z => g (rd_way_n.mpr z)
    -- the sign is put
    have hS' : ∀ v, rd_RS R (mm_u (mm_u (mm_u μ 147 (24 * R + S.1) c) 145 R ((S.1 : Int) + 1)) 129 33 v) (rd_push S (q.2.2.2.2, rd_way c)) := fun v => by
      refine ⟨by rw [mm_uu (by decide), mm_us]; rfl, fun j hj => ?_⟩
      have hj : j < S.1 + 1 := hj
      rw [mm_uu (by decide), mm_uu (by decide), mm_uu (by decide), mm_uu (by decide), mm_uu (by decide)]
      have hps : (rd_push S (q.2.2.2.2, rd_way c)).2 j = if j = S.1 then (q.2.2.2.2, rd_way c) else S.2 j := rfl
      rw [hps]
      by_cases f : j = S.1
      · subst f
        rw [if_pos rfl, mm_us, m6]
        exact ⟨rfl, (rd_sgd g).symm⟩
      · rw [if_neg f, mm_un (by omega)]
        exact m5.2 j (by omega)
    have hF : ∀ v, rd_F2 R μ (mm_u (mm_u (mm_u μ 147 (24 * R + S.1) c) 145 R ((S.1 : Int) + 1)) 129 33 v) := fun v => rd_F2_u (rd_F2_u (rd_F2_u rd_F2_r (by omega)) (by omega)) (by omega)
    generalize hMM : mm_u (mm_u (mm_u μ 147 (24 * R + S.1) c) 145 R ((S.1 : Int) + 1)) 129 33 3 = M
    have hFM := hF 3
    rw [hMM] at hFM
    have hSM := hS' 3
    rw [hMM] at hSM
    have e9 : ∀ j, j ≠ 33 → M 129 j = μ 129 j := fun j hj => by rw [← hMM, mm_un hj, mm_uu (by decide), mm_uu (by decide)]
    have eo : ∀ a, a ≠ 129 → a ≠ 145 → a ≠ 147 → M a = μ a := fun a h1 h2 h3 => by rw [← hMM, mm_uu h1, mm_uu h2, mm_uu h3]
    have hXM : rd_RX M L := ⟨by rw [e9 25 (by decide)]; exact m2.1, rd_cx_f (fun a j a1 a2 _ _ => by rw [eo a (by omega) (by omega) (by omega)]) m2.2⟩
    have hLM : rd_RL M l := ⟨by rw [e9 31 (by decide)]; exact m3.1, rd_os_f (fun j _ _ => by rw [eo 156 (by decide) (by decide) (by decide)]) m3.2⟩
    have hCM : rd_RC R M C := by
      unfold rd_RC
      rw [eo 141 (by decide) (by decide) (by decide), eo 142 (by decide) (by decide) (by decide), eo 143 (by decide) (by decide) (by decide), eo 144 (by decide) (by decide) (by decide)]
      exact m4
    have h33 : M 129 33 = 3 := by rw [← hMM, mm_us]
    have h36 : M 129 36 = q.2.2.2.1 := by rw [e9 36 (by decide)]; exact m1.2.2.2 (Or.inl hq2)
    have hRQ : rd_RQ M (3, 0, 0, q.2.2.2.1, 0) := ⟨h33, ⟨show (0 : Int) ≤ 3 by decide, show (3 : Int) ≤ 4 by decide⟩, fun z => absurd z (show ¬ (3 : Int) = 1 by decide), fun _ => h36⟩
    have e36 : am_E (d + 2) 226 Q (36, [some (.ref 129), some (.int (Int32.ofInt (c))), none], [], mm_hp w μ X n) := by
      rw [b_226_36 hq, b_226_41 hq, if_neg (by decide)]
      simp (disch := omega) only [and_self, true_and, mm_ltx, mm_lex, mm_eqx, mm_wv, mm_gd, ↓reduceIte, Int.reduceAdd, Int.reduceSub, Int.reduceNeg, Int.reduceLE, Int.reduceLT, Int.reduceMul, Int.reduceEq, mm_uu (show (129 : Nat) ≠ 147 by decide), mm_uu (show (145 : Nat) ≠ 147 by decide), hR, h45, hMM]
      by_cases f : c = 36
      · rw [rd_if1 f] at hQ1
        rw [if_pos f]
        refine c_175 (R := R) (C := C) (S := rd_push S (q.2.2.2.2, rd_way c)) (q := (3, 0, 0, q.2.2.2.1, 0)) (d := d) hq h0 (by rw [e9 11 (by decide)]; exact hR) hCM hSM.1 hRQ (by omega) fun μ1 f1 f2 f3 f4 f5 => ?_
        rw [bk_n, b_226_97 hq, if_pos (by decide)]
        refine hQ1 _ rfl μ1 (rd_F2_t hFM (rd_F2_1 f1)) ⟨⟨f5, ⟨show (0 : Int) ≤ 4 by decide, show (4 : Int) ≤ 4 by decide⟩, fun z => absurd z (show ¬ (4 : Int) = 1 by decide), fun z => ?_⟩, ⟨by rw [f3]; exact hXM.1, rd_F1_cx f1 hXM.2⟩, ⟨by rw [f4]; exact hLM.1, rd_F1_os f1 hLM.2⟩, f2, rd_F1_RS f1 hSM, fun z => absurd z (show ¬ (4 : Int) = 2 by decide)⟩
        rcases z with z | z
        · exact absurd z (show ¬ (4 : Int) = 2 by decide)
        · exact absurd z (show ¬ (4 : Int) = 3 by decide)
      · rw [rd_if0 f] at hQ1
        rw [if_neg f, b_226_97 hq, if_pos (by decide)]
        exact hQ1 _ rfl M hFM ⟨hRQ, hXM, hLM, hCM, hSM, fun z => absurd z (show ¬ (3 : Int) = 2 by decide)⟩
    by_cases a1 : c = 60
    · rw [if_pos (by rw [a1])]; exact e36
    · rw [if_neg (by rw [mm_eqx, mm_wv (by omega) (by omega), mm_wv (by omega) (by omega)]; exact a1)]
      by_cases a2 : c = 62
      · rw [if_pos (by rw [a2])]; exact e36
      · rw [if_neg (by rw [mm_eqx, mm_wv (by omega) (by omega), mm_wv (by omega) (by omega)]; exact a2)]
        by_cases a3 : c = 94
        · rw [if_pos (by rw [a3])]; exact e36
        · rw [if_neg (by rw [mm_eqx, mm_wv (by omega) (by omega), mm_wv (by omega) (by omega)]; exact a3)]
          by_cases a4 : c = 36
          · rw [if_pos (by rw [a4])]; exact e36
          · rw [if_neg (by rw [mm_eqx, mm_wv (by omega) (by omega), mm_wv (by omega) (by omega)]; exact a4), if_neg (by rw [mm_ltx, mm_wv (by omega) (by omega), mm_wv (by omega) (by omega)]; omega), if_neg (by rw [mm_ltx, mm_wv (by omega) (by omega), mm_wv (by omega) (by omega)]; omega)]; exact e36
theorem c_181 (hq : mm_P w) (h0 : 0 ≤ R ∧ R < 8) (hR : μ 129 11 = R) (hc : 0 ≤ c ∧ c ≤ 65535) (hM : rd_RM R μ (q, L, l, C, S)) (hI : rd_RI k (q, L, l, C, S)) (hk : k ≤ 23)
    (hQ0 : rd_fol L l (rd_unit q C S) S c = none → ∀ μ', rd_F2 R μ μ' → Q (.inl (some (.int (Int32.ofInt (0))))) (mm_hp w (μ') X n)) (hQ1 : ∀ σ', rd_fol L l (rd_unit q C S) S c = some σ' → ∀ μ', rd_F2 R μ μ' → rd_RM R μ' σ' → Q (.inl (some (.int (Int32.ofInt (1))))) (mm_hp w (μ') X n)) : am_C (d + 4) 181 [.ref 129, .int (Int32.ofInt (c))] (mm_hp w μ X n) Q := by
  obtain ⟨m1, m2, m3, m4, m5, m6⟩ := hM
  dsimp only at m1 m2 m3 m4 m5 m6
  obtain ⟨i1, i2, i3, i4, i5, i6⟩ := hI
  dsimp only at i1 i2 i3 i4 i5 i6
  obtain ⟨x, Y, rfl, t25, t51, t52, t53, t54, t55⟩ := rd_top_X m2 i1
  have hY : Y.length + 1 ≤ 24 := by rw [List.length_cons] at i3; omega
  have hx0 := i2 x List.mem_cons_self
  have hu := rd_unit_b (q := q) (C := C) (S := S)
  have hkinds : ∀ y, y ∈ x :: Y → 0 ≤ y.1 ∧ y.1 ≤ 3 := fun y hy => (i2 y hy).1
  -- the end of the unit
  have hend : ∀ (pc : Nat) (Lo : am_Lo), (∀ μ1, rd_F1 R μ μ1 → rd_RC R μ1 (rd_unit q C S) → rd_RX μ1 (x :: Y) → rd_RL μ1 l → rd_RS R μ1 S → μ1 129 33 = 4 → am_E (d + 3) 181 Q (pc + 3, Lo, [], mm_hp w μ1 X n)) → am_C (d + 3) 175 [.ref 129] (mm_hp w μ X n) (am_bk 181 pc Lo [] (am_E (d + 3) 181 Q) Q) := by
    intro pc Lo h
    refine c_175 (R := R) (C := C) (S := S) (q := q) (d := d + 1) hq h0 hR m4 m5.1 m1 (by omega) fun μ1 f1 f2 f3 f4 f5 => ?_
    rw [bk_n]
    exact h μ1 f1 f2 ⟨by rw [f3]; exact m2.1, rd_F1_cx f1 m2.2⟩ ⟨by rw [f4]; exact m3.1, rd_F1_os f1 m3.2⟩ (rd_F1_RS f1 m5) f5
  rw [en_181 (d := d + 3), b_181_0 hq, c_198 (d := d + 2) hq hc, bk_v, b_181_4 hq]
  unfold rd_fol at hQ0 hQ1
  by_cases g1 : rd_op c
  · rw [rd_if1 g1] at hQ1
    rw [if_pos (show c = 43 ∨ c = 45 ∨ c = 42 ∨ c = 47 from g1), if_neg (by decide)]
    refine hend 8 _ fun μ1 f1 fC fX fL fS f33 => ?_
    rw [b_181_11 hq]
    have hob := @rd_opc_b c
    have go : am_E (d + 3) 181 Q (42, [some (.ref 129), some (.int (Int32.ofInt (c))), none, none], [.int (Int32.ofInt (rd_opc c))], mm_hp w μ1 X n) := by
      rw [b_181_42 hq, c_219 (d := d + 2) hq hob, bk_v, b_181_48 hq]
      have e25 : μ1 129 25 = (Y.length : Int) + 1 := by rw [fX.1]; simp
      have hrk := @rd_rk_b (rd_opc c)
      refine c_216 (R := R) (C := rd_unit q C S) (l := l) (base := x.2.2.1) (d := d + 1) hq h0 (by omega) (by rw [f1 129 11 (by omega)]; exact hR) fC fL (by omega) (by omega) (by rw [e25, show (Y.length : Int) + 1 - 1 = Y.length by omega]; exact fX.2.1.2.2.1) hx0.2.2.1 i6 fun μ2 k1 k2 k3 k4 k5 => ?_
      have hpb := rd_pour_b (least := rd_rk (rd_opc c)) (base := x.2.2.1) l (rd_unit q C S)
      have hQ1 := hQ1 _ rfl
      rw [show (rd_top (x :: Y)).2.2.1 = x.2.2.1 from rfl] at hQ1
      revert k2 k3 hpb hQ1
      generalize rd_pour (rd_rk (rd_opc c)) x.2.2.1 l (rd_unit q C S) = pr
      intro k2 k3 hpb hQ1
      have e31 : μ2 129 31 = pr.1.length := k3.1
      rw [bk_n, b_181_51 hq, e31, mm_wv (z := (pr.1.length : Int)) (by omega) (by omega), mm_gd (by omega), mm_uu (show (129 : Nat) ≠ 156 by decide), e31]
      have hF2 : rd_F2 R μ μ2 := rd_F2_t (rd_F2_1 f1) (rd_F2_1 k1)
      refine hQ1 _ (rd_F2_u (rd_F2_u (rd_F2_u hF2 (by omega)) (by omega)) (by omega)) ⟨⟨mm_us, ⟨show (0 : Int) ≤ 0 by decide, show (0 : Int) ≤ 4 by decide⟩, fun z => absurd z (show ¬ (0 : Int) = 1 by decide), fun z => ?_⟩, ⟨?_, ?_⟩, ⟨?_, ?_, ?_⟩, ?_, ?_, fun z => absurd z (show ¬ (0 : Int) = 2 by decide)⟩
      · rcases z with z | z
        · exact absurd z (show ¬ (0 : Int) = 2 by decide)
        · exact absurd z (show ¬ (0 : Int) = 3 by decide)
      · rw [mm_un (by decide), mm_un (by decide), mm_uu (by decide), k4]; exact fX.1
      · exact rd_cx_f (fun a j a1 a2 _ _ => by rw [mm_uu (by omega), mm_uu (by omega), mm_uu (by omega), k1 a j (by omega)]) fX.2
      · rw [mm_un (by decide), mm_us, List.length_cons]; omega
      · rw [mm_uu (by decide), mm_uu (by decide), mm_us]
      · exact rd_os_f (fun j j1 j2 => by rw [mm_uu (by decide), mm_uu (by decide), mm_un (by omega)]) k3.2
      · have r1 : rd_RC R (mm_u μ2 156 pr.1.length (rd_opc c)) pr.2 := by
          unfold rd_RC
          rw [mm_uu (by decide), mm_uu (by decide), mm_uu (by decide), mm_uu (by decide)]
          exact k2
        exact rd_RC_9 (rd_RC_9 r1)
      · have r1 := rd_F1_RS k1 fS
        unfold rd_RS at r1 ⊢
        rw [mm_uu (by decide), mm_uu (by decide), mm_uu (by decide), mm_uu (by decide), mm_uu (by decide), mm_uu (by decide), mm_uu (by decide), mm_uu (by decide), mm_uu (by decide)]
        exact r1
    unfold rd_op at g1
    unfold rd_opc at go
    by_cases a1 : c = 43
    · rw [if_pos a1] at go; rw [if_pos (by rw [a1])]; exact go
    · rw [if_neg a1] at go; rw [if_neg (by rw [mm_eqx, mm_wv (by omega) (by omega), mm_wv (by omega) (by omega)]; exact a1)]
      by_cases a2 : c = 45
      · rw [if_pos a2] at go; rw [if_pos (by rw [a2])]; exact go
      · rw [if_neg a2] at go; rw [if_neg (by rw [mm_eqx, mm_wv (by omega) (by omega), mm_wv (by omega) (by omega)]; exact a2)]
        by_cases a3 : c = 42
        · rw [if_pos a3] at go; rw [if_pos (by rw [a3])]; exact go
        · rw [if_neg a3] at go; rw [if_neg (by rw [mm_eqx, mm_wv (by omega) (by omega), mm_wv (by omega) (by omega)]; exact a3)]
          exact go
  · rw [rd_if0 g1] at hQ0 hQ1
    rw [if_neg (show ¬ (c = 43 ∨ c = 45 ∨ c = 42 ∨ c = 47) from g1), if_pos rfl]
    have nop : ∀ (v : Int) (z : v = 2 ∨ v = 3) (h : v = 0 ∨ v = 4), False := fun v z h => by omega
    -- the ends of the elses, and the waiting operators, behind a unit
    have hclo : ∀ (μ1 : mm_M) (pc pc' : Nat) (Lo : am_Lo), (∀ μ', am_E (d + 3) 181 Q (pc + 3, Lo, [], mm_hp w μ' X n) ↔ am_C (d + 3) 216 [.ref 129, .int (Int32.ofInt (1))] (mm_hp w μ' X n) (am_bk 181 pc' Lo [] (am_E (d + 3) 181 Q) Q)) → rd_F1 R μ μ1 → rd_RC R μ1 (rd_unit q C S) → rd_RX μ1 (x :: Y) → rd_RL μ1 l → rd_RS R μ1 S →
        (∀ μ2 y Z, (rd_ends (x :: Y) l (rd_unit q C S)).1 = y :: Z → y.1 = rd_enc (x :: Y) → rd_xb (rd_clo (x :: Y) l (rd_unit q C S)).2.1 y → (y :: Z).length ≤ 24 → (rd_clo (x :: Y) l (rd_unit q C S)).2.1 + (rd_clo (x :: Y) l (rd_unit q C S)).1.length ≤ 23 → rd_F1 R μ μ2 → rd_RC R μ2 (rd_clo (x :: Y) l (rd_unit q C S)).2 → rd_RX μ2 (y :: Z) → rd_RL μ2 (rd_clo (x :: Y) l (rd_unit q C S)).1 → rd_RS R μ2 S → am_E (d + 3) 181 Q (pc' + 3, Lo, [], mm_hp w μ2 X n)) →
        am_C (d + 3) 174 [.ref 129] (mm_hp w μ1 X n) (am_bk 181 pc Lo [] (am_E (d + 3) 181 Q) Q) := by
      intro μ1 pc pc' Lo hpc f1 fC fX fL fS h
      have hxu : ∀ y, y ∈ x :: Y → rd_xb (rd_unit q C S).1 y := fun y hy => rd_xb_m (i2 y hy) hu.2
      refine c_174 (R := R) (C := rd_unit q C S) (L := x :: Y) (l := l) (d := d) hq h0 (by rw [f1 129 11 (by omega)]; exact hR) fC fL fX i1 hxu (by omega) (by rw [List.length_cons]; omega) i6 fun μ2 k1 k2 k3 k4 k5 => ?_
      obtain ⟨y, Z, e1, e2, e3, e4, e5, e6, e7, e8, e9⟩ := rd_ends_t (x :: Y) l (rd_unit q C S) i1
      have hcb := rd_clo_b (l := l) (C := rd_unit q C S) i1
      rw [e1] at k4
      rw [bk_n, hpc]
      have e25 : μ2 129 25 = (Z.length : Int) + 1 := by rw [k4.1]; simp
      have hlen : (y :: Z).length ≤ 24 := by rw [List.length_cons (as := Y)] at e6; omega
      have hZ : Z.length + 1 ≤ 24 := by rw [List.length_cons] at hlen; omega
      have hy0 := hxu y (e5 y List.mem_cons_self)
      refine c_216 (R := R) (C := (rd_ends (x :: Y) l (rd_unit q C S)).2.2) (l := (rd_ends (x :: Y) l (rd_unit q C S)).2.1) (base := y.2.2.1) (d := d + 1) hq h0 (Or.inl rfl) (by rw [k1 129 11 (by omega), f1 129 11 (by omega)]; exact hR) k2 k3 (by omega) (by omega) (by rw [e25, show (Z.length : Int) + 1 - 1 = Z.length by omega]; exact k4.2.1.2.2.1) hy0.2.2.1 (fun o ho => i6 o (e9 o ho)) fun μ3 j1 j2 j3 j4 j5 => ?_
      have ecl : rd_clo (x :: Y) l (rd_unit q C S) = rd_pour 1 y.2.2.1 (rd_ends (x :: Y) l (rd_unit q C S)).2.1 (rd_ends (x :: Y) l (rd_unit q C S)).2.2 := by
        unfold rd_clo
        rw [e1]
        rfl
      rw [← ecl] at j2 j3
      rw [bk_n]
      exact h μ3 y Z e1 e3 (rd_xb_m hy0 hcb.1) hlen (by omega) (rd_F1_t f1 (rd_F1_t k1 j1)) j2 ⟨by rw [j4]; exact k4.1, rd_F1_cx j1 k4.2⟩ j3 (rd_F1_RS j1 (rd_F1_RS k1 fS))
    have e257 : ¬ (c = 63 ∧ (rd_top (x :: Y)).2.1 < 3) → ¬ (c = 58 ∧ rd_enc (x :: Y) = 2) → am_E (d + 3) 181 Q (257, [some (.ref 129), some (.int (Int32.ofInt (c))), none, none], [], mm_hp w μ X n) := by
      intro n2 n3
      rw [rd_if0 n2, rd_if0 n3] at hQ0
      have hQ1' : ∀ σ', (rd_if (c = 41 ∧ rd_enc (x :: Y) = 1) (some (rd_q4, (rd_ends (x :: Y) l (rd_unit q C S)).1.tail, (rd_clo (x :: Y) l (rd_unit q C S)).1, (rd_clo (x :: Y) l (rd_unit q C S)).2, S)) none : Option rd_T) = some σ' → ∀ μ', rd_F2 R μ μ' → rd_RM R μ' σ' → Q (.inl (some (.int (Int32.ofInt (1))))) (mm_hp w (μ') X n) := fun σ' h => hQ1 σ' (by rw [rd_if0 n2, rd_if0 n3]; exact h)
      rw [b_181_257 hq]
      by_cases b : c = 41
      · rw [if_pos (by rw [b]), c_173 (d := d + 2) hq m2 i1 (by rw [List.length_cons]; omega) hkinds, bk_v, b_181_267 hq]
        have heb := rd_enc_b hkinds
        by_cases f : rd_enc (x :: Y) = 1
        · rw [if_pos (by rw [f])]
          refine hend 272 _ fun μ1 f1 fC fX fL fS f33 => ?_
          rw [b_181_275 hq]
          refine hclo μ1 276 281 _ (fun _ => b_181_279 hq) f1 fC fX fL fS fun μ2 y Z e1 e3 hyb hlen hcl k1 kC kX kL kS => ?_
          rw [b_181_284 hq]
          have hQ1 := hQ1' _ (rd_if1 ⟨b, f⟩)
          rw [e1] at hQ1
          refine hQ1 _ (rd_F2_u (rd_F2_u (rd_F2_1 k1) (by omega)) (by omega)) ⟨⟨mm_us, ⟨show (0 : Int) ≤ 4 by decide, show (4 : Int) ≤ 4 by decide⟩, fun z => absurd z (show ¬ (4 : Int) = 1 by decide), fun z => (nop 4 z (Or.inr rfl)).elim⟩, ⟨?_, ?_⟩, ⟨?_, ?_⟩, rd_RC_9 (rd_RC_9 kC), ?_, fun z => absurd z (show ¬ (4 : Int) = 2 by decide)⟩
          · rw [mm_un (by decide), mm_us, kX.1, List.length_cons]; show ((Z.length + 1 : Nat) : Int) - 1 = Z.length; omega
          · exact rd_cx_f (fun a j a1 a2 _ _ => by rw [mm_uu (by omega), mm_uu (by omega)]) kX.2.2
          · rw [mm_un (by decide), mm_un (by decide)]; exact kL.1
          · exact rd_os_f (fun j _ _ => by rw [mm_uu (by decide), mm_uu (by decide)]) kL.2
          · unfold rd_RS at kS ⊢
            rw [mm_uu (by decide), mm_uu (by decide), mm_uu (by decide), mm_uu (by decide), mm_uu (by decide), mm_uu (by decide)]
            exact kS
        · rw [if_neg (by rw [mm_eqx, mm_wv (by omega) (by omega), mm_wv (by omega) (by omega)]; exact f)]
          exact hQ0 (rd_if0 (fun z => f z.2)) μ rd_F2_r
      · rw [if_neg (by rw [mm_eqx, mm_wv (by omega) (by omega), mm_wv (by omega) (by omega)]; exact b)]
        exact hQ0 (rd_if0 (fun z => b z.1)) μ rd_F2_r
    have e143 : ¬ (c = 63 ∧ (rd_top (x :: Y)).2.1 < 3) → am_E (d + 3) 181 Q (143, [some (.ref 129), some (.int (Int32.ofInt (c))), none, none], [], mm_hp w μ X n) := by
      intro n2
      rw [b_181_143 hq]
      by_cases b : c = 58
      · rw [if_pos (by rw [b]), c_173 (d := d + 2) hq m2 i1 (by rw [List.length_cons]; omega) hkinds, bk_v, b_181_153 hq]
        have heb := rd_enc_b hkinds
        by_cases f : rd_enc (x :: Y) = 2
        · rw [if_pos (by rw [f])]
          rw [rd_if0 n2, rd_if1 (c := c = 58 ∧ rd_enc (x :: Y) = 2) ⟨b, f⟩] at hQ1
          refine hend 158 _ fun μ1 f1 fC fX fL fS f33 => ?_
          rw [b_181_161 hq]
          refine hclo μ1 162 167 _ (fun _ => b_181_165 hq) f1 fC fX fL fS fun μ2 y Z e1 e3 hyb hlen hcl k1 kC kX kL kS => ?_
          have hQ1 := hQ1 _ rfl
          rw [e1, show (rd_top (y :: Z)).2.1 = y.2.1 from rfl, show (rd_top (y :: Z)).2.2.1 = y.2.2.1 from rfl, show (rd_top (y :: Z)).2.2.2.1 = y.2.2.2.1 from rfl, show (y :: Z).tail = Z from rfl] at hQ1
          have hy2 := hyb.2.2.2.2 (by rw [e3]; exact f)
          revert hQ1 hyb hcl kC kL hy2
          generalize rd_clo (x :: Y) l (rd_unit q C S) = cl
          intro hyb hcl kC kL hQ1 hy2
          have hZ : Z.length + 1 ≤ 24 := by rw [List.length_cons] at hlen; omega
          have e25 : μ2 129 25 = (Z.length : Int) + 1 := by rw [kX.1]; simp
          obtain ⟨⟨t1, t2, t3, t4, t5⟩, kX2⟩ := kX.2
          have k11 : μ2 129 11 = R := by rw [k1 129 11 (by omega)]; exact hR
          have k41 := kC.1
          rw [b_181_170 hq, e25, show (Z.length : Int) + 1 - 1 = Z.length by omega, mm_wv (z := (Z.length : Int)) (by omega) (by omega), mm_gd (by omega), t4, c_172 (R := R) (d := d + 2) hq k11 h0 (by rw [k41]; omega), bk_v, b_181_190 hq, k41]
          have hF := rd_em_F (R := R) (μ := μ) (o := 7) (a := 0) (b := 0) k1 (by rw [k41]; omega)
          have hC7 := rd_em_C (o := 7) (a := 0) (b := 0) kC
          have n11 : rd_em R μ2 7 0 0 129 11 = R := by rw [rd_em_25]; exact k11
          have n25 : rd_em R μ2 7 0 0 129 25 = (Z.length : Int) + 1 := by rw [rd_em_25]; exact e25
          have n41 : rd_em R μ2 7 0 0 141 R = (cl.2.1 : Int) + 1 := hC7.1
          have nX : rd_cx (rd_em R μ2 7 0 0) Z := rd_cx_f (fun a j a1 a2 _ _ => by unfold rd_em; rw [mm_uu (by omega), mm_uu (by omega), mm_uu (by omega), mm_uu (by omega)]) kX2
          have n52 : rd_em R μ2 7 0 0 152 Z.length = y.2.1 := by unfold rd_em; rw [mm_uu (by decide), mm_uu (by decide), mm_uu (by decide), mm_uu (by decide)]; exact t2
          have n53 : rd_em R μ2 7 0 0 153 Z.length = y.2.2.1 := by unfold rd_em; rw [mm_uu (by decide), mm_uu (by decide), mm_uu (by decide), mm_uu (by decide)]; exact t3
          have nL : rd_RL (rd_em R μ2 7 0 0) cl.1 := ⟨by rw [rd_em_25]; exact kL.1, rd_os_f (fun j _ _ => by unfold rd_em; rw [mm_uu (by decide), mm_uu (by decide), mm_uu (by decide), mm_uu (by decide)]) kL.2⟩
          have nS : rd_RS R (rd_em R μ2 7 0 0) S := by
            unfold rd_RS rd_em at *
            rw [mm_uu (by decide), mm_uu (by decide), mm_uu (by decide), mm_uu (by decide), mm_uu (by decide), mm_uu (by decide), mm_uu (by decide), mm_uu (by decide), mm_uu (by decide), mm_uu (by decide), mm_uu (by decide), mm_uu (by decide)]
            exact kS
          generalize rd_em R μ2 7 0 0 = M at hF hC7 n11 n25 n41 nX n52 n53 nL nS ⊢
          simp (disch := omega) only [and_self, true_and, mm_ltx, mm_lex, mm_eqx, mm_wv, mm_gd, ↓reduceIte, Int.reduceAdd, Int.reduceSub, Int.reduceNeg, Int.reduceLE, Int.reduceLT, Int.reduceMul, Int.reduceEq, mm_uu (show (129 : Nat) ≠ 143 by decide), mm_uu (show (129 : Nat) ≠ 151 by decide), mm_uu (show (129 : Nat) ≠ 154 by decide), n11, n25, n41, show (Z.length : Int) + 1 - 1 = Z.length from by omega]
          have r1 := rd_RC_a (i := y.2.2.2.1) (v := (cl.2.1 : Int) + 1) hC7 (by omega)
          refine hQ1 _ (rd_F2_u (rd_F2_u (rd_F2_u (rd_F2_u (rd_F2_u (rd_F2_1 hF) (by omega)) (by omega)) (by omega)) (by omega)) (by omega)) ⟨⟨mm_us, ⟨show (0 : Int) ≤ 0 by decide, show (0 : Int) ≤ 4 by decide⟩, fun z => absurd z (show ¬ (0 : Int) = 1 by decide), fun z => (nop 0 z (Or.inl rfl)).elim⟩, ⟨?_, ⟨?_, ?_, ?_, ?_, ?_⟩, ?_⟩, ⟨?_, ?_⟩, ?_, ?_, fun z => absurd z (show ¬ (0 : Int) = 2 by decide)⟩
          · rw [mm_un (by decide), mm_uu (by decide), mm_uu (by decide), mm_uu (by decide), mm_uu (by decide), n25, List.length_cons]; omega
          · rw [mm_uu (by decide), mm_uu (by decide), mm_uu (by decide), mm_us]
          · rw [mm_uu (by decide), mm_uu (by decide), mm_uu (by decide), mm_uu (by decide), mm_uu (by decide)]; exact n52
          · rw [mm_uu (by decide), mm_uu (by decide), mm_uu (by decide), mm_uu (by decide), mm_uu (by decide)]; exact n53
          · rw [mm_uu (by decide), mm_uu (by decide), mm_us]
          · rw [mm_uu (by decide), mm_us]
          · exact rd_cx_f (fun a j a1 a2 j1 j2 => by rw [mm_uu (by omega), mm_ux, if_neg (by omega), mm_ux, if_neg (by omega), mm_ux, if_neg (by omega), mm_uu (by omega)]) nX
          · rw [mm_un (by decide), mm_uu (by decide), mm_uu (by decide), mm_uu (by decide), mm_uu (by decide)]; exact nL.1
          · exact rd_os_f (fun j _ _ => by rw [mm_uu (by decide), mm_uu (by decide), mm_uu (by decide), mm_uu (by decide), mm_uu (by decide)]) nL.2
          · unfold rd_RC at r1 ⊢
            rw [mm_uu (show (141 : Nat) ≠ 129 by decide), mm_uu (show (141 : Nat) ≠ 155 by decide), mm_uu (show (141 : Nat) ≠ 154 by decide), mm_uu (show (141 : Nat) ≠ 151 by decide), mm_uu (show (142 : Nat) ≠ 129 by decide), mm_uu (show (142 : Nat) ≠ 155 by decide), mm_uu (show (142 : Nat) ≠ 154 by decide), mm_uu (show (142 : Nat) ≠ 151 by decide), mm_uu (show (143 : Nat) ≠ 129 by decide), mm_uu (show (143 : Nat) ≠ 155 by decide), mm_uu (show (143 : Nat) ≠ 154 by decide), mm_uu (show (143 : Nat) ≠ 151 by decide), mm_uu (show (144 : Nat) ≠ 129 by decide), mm_uu (show (144 : Nat) ≠ 155 by decide), mm_uu (show (144 : Nat) ≠ 154 by decide), mm_uu (show (144 : Nat) ≠ 151 by decide)]
            exact r1
          · unfold rd_RS at nS ⊢
            simp (disch := decide) only [mm_uu (show (145 : Nat) ≠ 129 by decide), mm_uu (show (145 : Nat) ≠ 155 by decide), mm_uu (show (145 : Nat) ≠ 154 by decide), mm_uu (show (145 : Nat) ≠ 151 by decide), mm_uu (show (145 : Nat) ≠ 143 by decide), mm_uu (show (146 : Nat) ≠ 129 by decide), mm_uu (show (146 : Nat) ≠ 155 by decide), mm_uu (show (146 : Nat) ≠ 154 by decide), mm_uu (show (146 : Nat) ≠ 151 by decide), mm_uu (show (146 : Nat) ≠ 143 by decide), mm_uu (show (147 : Nat) ≠ 129 by decide), mm_uu (show (147 : Nat) ≠ 155 by decide), mm_uu (show (147 : Nat) ≠ 154 by decide), mm_uu (show (147 : Nat) ≠ 151 by decide), mm_uu (show (147 : Nat) ≠ 143 by decide)]
            exact nS
        · rw [if_neg (by rw [mm_eqx, mm_wv (by omega) (by omega), mm_wv (by omega) (by omega)]; exact f)]
          exact e257 n2 (fun z => f z.2)
      · rw [if_neg (by rw [mm_eqx, mm_wv (by omega) (by omega), mm_wv (by omega) (by omega)]; exact b)]
        exact e257 n2 (fun z => b z.1)
    by_cases b : c = 63
    · rw [if_pos (by rw [b]), t25, show (Y.length : Int) + 1 - 1 = Y.length by omega, mm_wv (z := (Y.length : Int)) (by omega) (by omega), mm_gd (by omega), t52]
      have hx2 := hx0.2.1
      by_cases f : x.2.1 < 3
      · rw [if_neg (by rw [mm_lex, mm_wv (by omega) (by omega), mm_wv (by omega) (by omega)]; omega)]
        rw [rd_if1 (c := c = 63 ∧ (rd_top (x :: Y)).2.1 < 3) ⟨b, f⟩] at hQ1
        refine hend 100 _ fun μ1 f1 fC fX fL fS f33 => ?_
        have e25 : μ1 129 25 = (Y.length : Int) + 1 := by rw [fX.1]; simp
        rw [b_181_103 hq]
        have hQ1 := hQ1 _ rfl
        have hpb := rd_pour_b (least := 1) (base := x.2.2.1) l (rd_unit q C S)
        refine c_216 (R := R) (C := rd_unit q C S) (l := l) (base := x.2.2.1) (d := d + 1) hq h0 (Or.inl rfl) (by rw [f1 129 11 (by omega)]; exact hR) fC fL (by omega) (by omega) (by rw [e25, show (Y.length : Int) + 1 - 1 = Y.length by omega]; exact fX.2.1.2.2.1) hx0.2.2.1 i6 fun μ2 k1 k2 k3 k4 k5 => ?_
        rw [show (rd_top (x :: Y)).2.2.1 = x.2.2.1 from rfl, show (rd_top (x :: Y)).2.1 = x.2.1 from rfl] at hQ1
        revert k2 k3 hpb hQ1
        generalize rd_pour 1 x.2.2.1 l (rd_unit q C S) = pr
        intro hQ1 hpb k2 k3
        have hF12 := rd_F1_t f1 k1
        have k11 : μ2 129 11 = R := by rw [hF12 129 11 (by omega)]; exact hR
        have k41 := k2.1
        rw [bk_n, b_181_108 hq, c_172 (R := R) (d := d + 2) hq k11 h0 (by rw [k41]; omega), bk_v, b_181_116 hq, k41]
        have hF := rd_em_F (R := R) (μ := μ) (o := 6) (a := 0) (b := 0) hF12 (by rw [k41]; omega)
        have hC6 := rd_em_C (o := 6) (a := 0) (b := 0) k2
        have nX : rd_RX (rd_em R μ2 6 0 0) (x :: Y) := ⟨by rw [rd_em_25, k4]; exact fX.1, rd_cx_f (fun a j a1 a2 _ _ => by rw [hF a j (by omega)]) m2.2⟩
        have nL : rd_RL (rd_em R μ2 6 0 0) pr.1 := ⟨by rw [rd_em_25]; exact k3.1, rd_os_f (fun j _ _ => by unfold rd_em; rw [mm_uu (by decide), mm_uu (by decide), mm_uu (by decide), mm_uu (by decide)]) k3.2⟩
        have nS : rd_RS R (rd_em R μ2 6 0 0) S := rd_F1_RS hF m5
        have n25 : rd_em R μ2 6 0 0 129 25 = (Y.length : Int) + 1 := by rw [nX.1]; simp
        have n52 : rd_em R μ2 6 0 0 152 Y.length = x.2.1 := nX.2.1.2.1
        generalize rd_em R μ2 6 0 0 = M at hF hC6 nX nL nS n25 n52 ⊢
        rw [n25, show (Y.length : Int) + 1 - 1 = Y.length by omega, mm_wv (z := (Y.length : Int)) (by omega) (by omega), mm_gd (by omega), n52, c_211 (d := d + 2) hq (by omega), bk_n, b_181_136 hq]
        have hX := rd_opn_X (k := 2) (e := x.2.1 + 1) (o := (pr.2.1 : Int)) nX
        rw [nL.1] at hX
        refine hQ1 _ (rd_F2_u (rd_opn_F (rd_F2_1 hF)) (by omega)) ⟨⟨mm_us, ⟨show (0 : Int) ≤ 0 by decide, show (0 : Int) ≤ 4 by decide⟩, fun z => absurd z (show ¬ (0 : Int) = 1 by decide), fun z => (nop 0 z (Or.inl rfl)).elim⟩, ⟨by rw [mm_un (by decide)]; exact hX.1, rd_cx_f (fun a j a1 a2 _ _ => by rw [mm_uu (by omega)]) hX.2⟩, ⟨by rw [mm_un (by decide), rd_opn_9 (by decide)]; exact nL.1, rd_os_f (fun j _ _ => by rw [mm_uu (by decide), rd_opn_o (by decide) (by decide)]) nL.2⟩, rd_RC_9 ?_, ?_, fun z => absurd z (show ¬ (0 : Int) = 2 by decide)⟩
        · unfold rd_RC at hC6 ⊢
          rw [rd_opn_o (by decide) (by decide), rd_opn_o (by decide) (by decide), rd_opn_o (by decide) (by decide), rd_opn_o (by decide) (by decide)]
          exact hC6
        · unfold rd_RS at nS ⊢
          rw [mm_uu (by decide), mm_uu (by decide), mm_uu (by decide), rd_opn_o (by decide) (by decide), rd_opn_o (by decide) (by decide), rd_opn_o (by decide) (by decide)]
          exact nS
      · rw [if_pos (by rw [mm_lex, mm_wv (by omega) (by omega), mm_wv (by omega) (by omega)]; omega)]
        exact e143 (fun z => f z.2)
    · rw [if_neg (by rw [mm_eqx, mm_wv (by omega) (by omega), mm_wv (by omega) (by omega)]; exact b)]
      exact e143 (fun z => b z.1)
end RR
