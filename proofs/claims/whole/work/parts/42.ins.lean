/-! Rules of single instructions over the memory. Written by program (wip/gen/genb.py). -/
section AMI
variable {d : Nat} {Q : am_Ou → am_G → Prop} {L : am_Lo} {st : List Value} {g : am_G} {l0 l1 l2 l3 l4 l5 l6 l7 l8 l9 l10 l11 l12 l13 l14 l15 l16 : Option Value} {r : am_Lo}
theorem mm_ocs_2 {w : mm_Z} {μ : mm_M} {X : mm_X} {n : mm_N} : (am_oc (mm_hp w μ X n) 2 = some 13) = True := eq_true rfl
theorem mm_ocs_3 {w : mm_Z} {μ : mm_M} {X : mm_X} {n : mm_N} : (am_oc (mm_hp w μ X n) 3 = some 13) = True := eq_true rfl
theorem mm_ocs_4 {w : mm_Z} {μ : mm_M} {X : mm_X} {n : mm_N} : (am_oc (mm_hp w μ X n) 4 = some 13) = True := eq_true rfl
theorem i_0_44 {x : Int} : am_E d 0 Q (44, L, .int (Int32.ofInt x) :: st, g) ↔ (if mm_w (x) = 0 then am_E d 0 Q (156, L, st, g) else (if mm_w (x) = 1 then am_E d 0 Q (236, L, st, g) else (if mm_w (x) = 2 then am_E d 0 Q (316, L, st, g) else (if mm_w (x) = 3 then am_E d 0 Q (384, L, st, g) else (if mm_w (x) = 4 then am_E d 0 Q (452, L, st, g) else (if mm_w (x) = 5 then am_E d 0 Q (512, L, st, g) else (if mm_w (x) = 6 then am_E d 0 Q (539, L, st, g) else (if mm_w (x) = 7 then am_E d 0 Q (583, L, st, g) else (if mm_w (x) = 8 then am_E d 0 Q (639, L, st, g) else (if mm_w (x) = 9 then am_E d 0 Q (687, L, st, g) else (if mm_w (x) = 10 then am_E d 0 Q (750, L, st, g) else (if mm_w (x) = 11 then am_E d 0 Q (806, L, st, g) else (if mm_w (x) = 12 then am_E d 0 Q (862, L, st, g) else (if mm_w (x) = 13 then am_E d 0 Q (930, L, st, g) else (if mm_w (x) = 14 then am_E d 0 Q (943, L, st, g) else (if mm_w (x) = 15 then am_E d 0 Q (999, L, st, g) else (if mm_w (x) = 16 then am_E d 0 Q (1043, L, st, g) else (if mm_w (x) = 17 then am_E d 0 Q (1087, L, st, g) else (if mm_w (x) = 18 then am_E d 0 Q (1159, L, st, g) else (if mm_w (x) = 19 then am_E d 0 Q (1227, L, st, g) else (if mm_w (x) = 20 then am_E d 0 Q (1271, L, st, g) else (if mm_w (x) = 21 then am_E d 0 Q (1315, L, st, g) else (if mm_w (x) = 22 then am_E d 0 Q (1371, L, st, g) else (if mm_w (x) = 23 then am_E d 0 Q (1451, L, st, g) else am_E d 0 Q (1529, L, st, g))))))))))))))))))))))))) := (x_0_44).trans (by
  unfold am_S
  dsimp only
  unfold mm_w
  generalize (Int32.ofInt x).toInt = t
  by_cases h0 : t = 0
  · rw [if_pos h0, h0]; exact Iff.rfl
  rw [if_neg h0]
  by_cases h1 : t = 1
  · rw [if_pos h1, h1]; exact Iff.rfl
  rw [if_neg h1]
  by_cases h2 : t = 2
  · rw [if_pos h2, h2]; exact Iff.rfl
  rw [if_neg h2]
  by_cases h3 : t = 3
  · rw [if_pos h3, h3]; exact Iff.rfl
  rw [if_neg h3]
  by_cases h4 : t = 4
  · rw [if_pos h4, h4]; exact Iff.rfl
  rw [if_neg h4]
  by_cases h5 : t = 5
  · rw [if_pos h5, h5]; exact Iff.rfl
  rw [if_neg h5]
  by_cases h6 : t = 6
  · rw [if_pos h6, h6]; exact Iff.rfl
  rw [if_neg h6]
  by_cases h7 : t = 7
  · rw [if_pos h7, h7]; exact Iff.rfl
  rw [if_neg h7]
  by_cases h8 : t = 8
  · rw [if_pos h8, h8]; exact Iff.rfl
  rw [if_neg h8]
  by_cases h9 : t = 9
  · rw [if_pos h9, h9]; exact Iff.rfl
  rw [if_neg h9]
  by_cases h10 : t = 10
  · rw [if_pos h10, h10]; exact Iff.rfl
  rw [if_neg h10]
  by_cases h11 : t = 11
  · rw [if_pos h11, h11]; exact Iff.rfl
  rw [if_neg h11]
  by_cases h12 : t = 12
  · rw [if_pos h12, h12]; exact Iff.rfl
  rw [if_neg h12]
  by_cases h13 : t = 13
  · rw [if_pos h13, h13]; exact Iff.rfl
  rw [if_neg h13]
  by_cases h14 : t = 14
  · rw [if_pos h14, h14]; exact Iff.rfl
  rw [if_neg h14]
  by_cases h15 : t = 15
  · rw [if_pos h15, h15]; exact Iff.rfl
  rw [if_neg h15]
  by_cases h16 : t = 16
  · rw [if_pos h16, h16]; exact Iff.rfl
  rw [if_neg h16]
  by_cases h17 : t = 17
  · rw [if_pos h17, h17]; exact Iff.rfl
  rw [if_neg h17]
  by_cases h18 : t = 18
  · rw [if_pos h18, h18]; exact Iff.rfl
  rw [if_neg h18]
  by_cases h19 : t = 19
  · rw [if_pos h19, h19]; exact Iff.rfl
  rw [if_neg h19]
  by_cases h20 : t = 20
  · rw [if_pos h20, h20]; exact Iff.rfl
  rw [if_neg h20]
  by_cases h21 : t = 21
  · rw [if_pos h21, h21]; exact Iff.rfl
  rw [if_neg h21]
  by_cases h22 : t = 22
  · rw [if_pos h22, h22]; exact Iff.rfl
  rw [if_neg h22]
  by_cases h23 : t = 23
  · rw [if_pos h23, h23]; exact Iff.rfl
  rw [if_neg h23]
  rw [if_pos (by omega)]
  exact Iff.rfl)
theorem i_0_1499 {x : UInt32} : am_E d 0 Q (1499, L, .float x :: st, g) ↔ if FP.f2d x &&& 0x7fffffffffffffff ≤ 0x7ff0000000000000 then am_E d 0 Q (1500, L, .double (FP.f2d x) :: st, g) else False := am_E_f2d (by decide +kernel : am_dc 0 1499 = some .f2d) rfl
theorem i_0_1500 {x y : UInt64} : am_E d 0 Q (1500, L, .double y :: .double x :: st, g) ↔ am_E d 0 Q (1501, L, .int (Op.cmpValue (FP.dcmp x y) .l) :: st, g) := am_E_dcmp (by decide +kernel : am_dc 0 1500 = some (.dcmp .l)) rfl
theorem i_0_1512 {x y : UInt64} : am_E d 0 Q (1512, L, .double y :: .double x :: st, g) ↔ am_E d 0 Q (1513, L, .int (Op.cmpValue (FP.dcmp x y) .l) :: st, g) := am_E_dcmp (by decide +kernel : am_dc 0 1512 = some (.dcmp .l)) rfl
theorem i_0_1520 {x y : UInt32} : am_E d 0 Q (1520, L, .float y :: .float x :: st, g) ↔ am_E d 0 Q (1521, L, .int (Op.cmpValue (FP.fcmp x y) .l) :: st, g) := am_E_fcmp (by decide +kernel : am_dc 0 1520 = some (.fcmp .l)) rfl
theorem i_0_1529 {x : Int} (h : am_n2 l4 = true) : am_E d 0 Q (1529, l0 :: l1 :: l2 :: l3 :: l4 :: some (.int (Int32.ofInt x)) :: r, st, g) ↔ am_E d 0 Q (1532, l0 :: l1 :: l2 :: l3 :: l4 :: some (.int (Int32.ofInt (x + 4))) :: r, st, g) := mm_s1x (v' := 4) (x_0_1529 rfl (by simp only [List.length_cons]; omega)) (by decide) (s1_5 h)
theorem i_8_7 {x : UInt32} : am_E d 8 Q (7, L, .float x :: st, g) ↔ if FP.f2d x &&& 0x7fffffffffffffff ≤ 0x7ff0000000000000 then am_E d 8 Q (8, L, .double (FP.f2d x) :: st, g) else False := am_E_f2d (by decide +kernel : am_dc 8 7 = some .f2d) rfl
theorem i_24_32 {x : Int} : am_E d 24 Q (32, L, .int (Int32.ofInt x) :: st, g) ↔ (if mm_w (x) = 0 then am_E d 24 Q (64, L, st, g) else (if mm_w (x) = 1 then am_E d 24 Q (72, L, st, g) else (if mm_w (x) = 2 then am_E d 24 Q (80, L, st, g) else (if mm_w (x) = 3 then am_E d 24 Q (88, L, st, g) else am_E d 24 Q (96, L, st, g))))) := (x_24_32).trans (by
  unfold am_S
  dsimp only
  unfold mm_w
  generalize (Int32.ofInt x).toInt = t
  by_cases h0 : t = 0
  · rw [if_pos h0, h0]; exact Iff.rfl
  rw [if_neg h0]
  by_cases h1 : t = 1
  · rw [if_pos h1, h1]; exact Iff.rfl
  rw [if_neg h1]
  by_cases h2 : t = 2
  · rw [if_pos h2, h2]; exact Iff.rfl
  rw [if_neg h2]
  by_cases h3 : t = 3
  · rw [if_pos h3, h3]; exact Iff.rfl
  rw [if_neg h3]
  rw [if_pos (by omega)]
  exact Iff.rfl)
theorem i_24_96 {w : mm_Z} {μ : mm_M} {X : mm_X} {n : mm_N} (hs : st.length ≤ 4) : am_E d 24 Q (96, L, st, mm_hp w μ X n) ↔ (1 ≤ n.2.1 ∧ 6 ≤ n.2.2) ∧ Q (.inr (1, n.1)) (mm_hp w μ X (mm_th n)) := (x_24_96).trans (by
  unfold am_S
  dsimp only
  rw [w_24_89]
  dsimp only
  rw [e_24_89, Option.bind_some]
  by_cases h : 1 ≤ n.2.1 ∧ 6 ≤ n.2.2
  · refine Iff.trans ?_ (⟨fun q => ⟨h, q⟩, fun q => q.2⟩ : Q (.inr (1, n.1)) (mm_hp w μ X (mm_th n)) ↔ _)
    rw [if_pos ⟨by decide +kernel, by decide +kernel, by decide +kernel, hs, h_24, h.1, h.2⟩]
    exact Iff.rfl
  · rw [if_neg (fun q => h ⟨q.2.2.2.2.2.1, q.2.2.2.2.2.2⟩)]
    exact ⟨fun q => q.elim, fun q => (h q.1).elim⟩)
theorem i_24_12 {w : mm_Z} {μ : mm_M} {X : mm_X} {n : mm_N} (hs : st.length ≤ 4) : am_E d 24 Q (12, L, st, mm_hp w μ X n) ↔ (1 ≤ n.2.1 ∧ 6 ≤ n.2.2) ∧ Q (.inr (0, n.1)) (mm_hp w μ X (mm_th n)) := (x_24_12).trans (by
  unfold am_S
  dsimp only
  rw [w_24_86]
  dsimp only
  rw [e_24_86, Option.bind_some]
  by_cases h : 1 ≤ n.2.1 ∧ 6 ≤ n.2.2
  · refine Iff.trans ?_ (⟨fun q => ⟨h, q⟩, fun q => q.2⟩ : Q (.inr (0, n.1)) (mm_hp w μ X (mm_th n)) ↔ _)
    rw [if_pos ⟨by decide +kernel, by decide +kernel, by decide +kernel, hs, h_24, h.1, h.2⟩]
    exact Iff.rfl
  · rw [if_neg (fun q => h ⟨q.2.2.2.2.2.1, q.2.2.2.2.2.2⟩)]
    exact ⟨fun q => q.elim, fun q => (h q.1).elim⟩)
theorem i_25_9 {w : mm_Z} {μ : mm_M} {X : mm_X} {n : mm_N} (hs : st.length ≤ 4) : am_E d 25 Q (9, L, st, mm_hp w μ X n) ↔ (1 ≤ n.2.1 ∧ 6 ≤ n.2.2) ∧ Q (.inr (0, n.1)) (mm_hp w μ X (mm_th n)) := (x_25_9).trans (by
  unfold am_S
  dsimp only
  rw [w_25_86]
  dsimp only
  rw [e_25_86, Option.bind_some]
  by_cases h : 1 ≤ n.2.1 ∧ 6 ≤ n.2.2
  · refine Iff.trans ?_ (⟨fun q => ⟨h, q⟩, fun q => q.2⟩ : Q (.inr (0, n.1)) (mm_hp w μ X (mm_th n)) ↔ _)
    rw [if_pos ⟨by decide +kernel, by decide +kernel, by decide +kernel, hs, h_25, h.1, h.2⟩]
    exact Iff.rfl
  · rw [if_neg (fun q => h ⟨q.2.2.2.2.2.1, q.2.2.2.2.2.2⟩)]
    exact ⟨fun q => q.elim, fun q => (h q.1).elim⟩)
theorem i_25_27 {w : mm_Z} {μ : mm_M} {X : mm_X} {n : mm_N} (hs : st.length ≤ 4) : am_E d 25 Q (27, L, st, mm_hp w μ X n) ↔ (1 ≤ n.2.1 ∧ 6 ≤ n.2.2) ∧ Q (.inr (1, n.1)) (mm_hp w μ X (mm_th n)) := (x_25_27).trans (by
  unfold am_S
  dsimp only
  rw [w_25_89]
  dsimp only
  rw [e_25_89, Option.bind_some]
  by_cases h : 1 ≤ n.2.1 ∧ 6 ≤ n.2.2
  · refine Iff.trans ?_ (⟨fun q => ⟨h, q⟩, fun q => q.2⟩ : Q (.inr (1, n.1)) (mm_hp w μ X (mm_th n)) ↔ _)
    rw [if_pos ⟨by decide +kernel, by decide +kernel, by decide +kernel, hs, h_25, h.1, h.2⟩]
    exact Iff.rfl
  · rw [if_neg (fun q => h ⟨q.2.2.2.2.2.1, q.2.2.2.2.2.2⟩)]
    exact ⟨fun q => q.elim, fun q => (h q.1).elim⟩)
theorem i_27_1 {x : Int} : am_E d 27 Q (1, L, .int (Int32.ofInt x) :: st, g) ↔ (if mm_w (x) = 0 then am_E d 27 Q (52, L, st, g) else (if mm_w (x) = 1 then am_E d 27 Q (52, L, st, g) else (if mm_w (x) = 2 then am_E d 27 Q (52, L, st, g) else (if mm_w (x) = 3 then am_E d 27 Q (65, L, st, g) else (if mm_w (x) = 4 then am_E d 27 Q (73, L, st, g) else (if mm_w (x) = 5 then am_E d 27 Q (81, L, st, g) else (if mm_w (x) = 6 then am_E d 27 Q (89, L, st, g) else (if mm_w (x) = 7 then am_E d 27 Q (97, L, st, g) else (if mm_w (x) = 8 then am_E d 27 Q (105, L, st, g) else am_E d 27 Q (113, L, st, g)))))))))) := (x_27_1).trans (by
  unfold am_S
  dsimp only
  unfold mm_w
  generalize (Int32.ofInt x).toInt = t
  by_cases h0 : t = 0
  · rw [if_pos h0, h0]; exact Iff.rfl
  rw [if_neg h0]
  by_cases h1 : t = 1
  · rw [if_pos h1, h1]; exact Iff.rfl
  rw [if_neg h1]
  by_cases h2 : t = 2
  · rw [if_pos h2, h2]; exact Iff.rfl
  rw [if_neg h2]
  by_cases h3 : t = 3
  · rw [if_pos h3, h3]; exact Iff.rfl
  rw [if_neg h3]
  by_cases h4 : t = 4
  · rw [if_pos h4, h4]; exact Iff.rfl
  rw [if_neg h4]
  by_cases h5 : t = 5
  · rw [if_pos h5, h5]; exact Iff.rfl
  rw [if_neg h5]
  by_cases h6 : t = 6
  · rw [if_pos h6, h6]; exact Iff.rfl
  rw [if_neg h6]
  by_cases h7 : t = 7
  · rw [if_pos h7, h7]; exact Iff.rfl
  rw [if_neg h7]
  by_cases h8 : t = 8
  · rw [if_pos h8, h8]; exact Iff.rfl
  rw [if_neg h8]
  rw [if_pos (by omega)]
  exact Iff.rfl)
theorem i_27_113 {w : mm_Z} {μ : mm_M} {X : mm_X} {n : mm_N} (hs : st.length ≤ 4) : am_E d 27 Q (113, L, st, mm_hp w μ X n) ↔ (1 ≤ n.2.1 ∧ 6 ≤ n.2.2) ∧ Q (.inr (1, n.1)) (mm_hp w μ X (mm_th n)) := (x_27_113).trans (by
  unfold am_S
  dsimp only
  rw [w_27_89]
  dsimp only
  rw [e_27_89, Option.bind_some]
  by_cases h : 1 ≤ n.2.1 ∧ 6 ≤ n.2.2
  · refine Iff.trans ?_ (⟨fun q => ⟨h, q⟩, fun q => q.2⟩ : Q (.inr (1, n.1)) (mm_hp w μ X (mm_th n)) ↔ _)
    rw [if_pos ⟨by decide +kernel, by decide +kernel, by decide +kernel, hs, h_27, h.1, h.2⟩]
    exact Iff.rfl
  · rw [if_neg (fun q => h ⟨q.2.2.2.2.2.1, q.2.2.2.2.2.2⟩)]
    exact ⟨fun q => q.elim, fun q => (h q.1).elim⟩)
theorem i_28_8 {w : mm_Z} {μ : mm_M} {X : mm_X} {n : mm_N} (hs : st.length ≤ 4) : am_E d 28 Q (8, L, st, mm_hp w μ X n) ↔ (1 ≤ n.2.1 ∧ 6 ≤ n.2.2) ∧ Q (.inr (0, n.1)) (mm_hp w μ X (mm_th n)) := (x_28_8).trans (by
  unfold am_S
  dsimp only
  rw [w_28_86]
  dsimp only
  rw [e_28_86, Option.bind_some]
  by_cases h : 1 ≤ n.2.1 ∧ 6 ≤ n.2.2
  · refine Iff.trans ?_ (⟨fun q => ⟨h, q⟩, fun q => q.2⟩ : Q (.inr (0, n.1)) (mm_hp w μ X (mm_th n)) ↔ _)
    rw [if_pos ⟨by decide +kernel, by decide +kernel, by decide +kernel, hs, h_28, h.1, h.2⟩]
    exact Iff.rfl
  · rw [if_neg (fun q => h ⟨q.2.2.2.2.2.1, q.2.2.2.2.2.2⟩)]
    exact ⟨fun q => q.elim, fun q => (h q.1).elim⟩)
theorem i_29_6 : am_E d 29 Q (6, L, st, g) ↔ am_E d 29 Q (9, L, .ref 1 :: st, g) := (x_29_6).trans (by
  unfold am_S
  dsimp only
  rw [s_29_279]
  exact Iff.rfl)
theorem i_29_18 : am_E d 29 Q (18, L, st, g) ↔ am_E d 29 Q (21, L, .ref 1 :: st, g) := (x_29_18).trans (by
  unfold am_S
  dsimp only
  rw [s_29_279]
  exact Iff.rfl)
theorem i_29_31 : am_E d 29 Q (31, L, st, g) ↔ am_E d 29 Q (34, L, .ref 1 :: st, g) := (x_29_31).trans (by
  unfold am_S
  dsimp only
  rw [s_29_279]
  exact Iff.rfl)
theorem i_30_12 {w : mm_Z} {μ : mm_M} {X : mm_X} {n : mm_N} (hs : st.length ≤ 4) : am_E d 30 Q (12, L, st, mm_hp w μ X n) ↔ (1 ≤ n.2.1 ∧ 6 ≤ n.2.2) ∧ Q (.inr (0, n.1)) (mm_hp w μ X (mm_th n)) := (x_30_12).trans (by
  unfold am_S
  dsimp only
  rw [w_30_86]
  dsimp only
  rw [e_30_86, Option.bind_some]
  by_cases h : 1 ≤ n.2.1 ∧ 6 ≤ n.2.2
  · refine Iff.trans ?_ (⟨fun q => ⟨h, q⟩, fun q => q.2⟩ : Q (.inr (0, n.1)) (mm_hp w μ X (mm_th n)) ↔ _)
    rw [if_pos ⟨by decide +kernel, by decide +kernel, by decide +kernel, hs, h_30, h.1, h.2⟩]
    exact Iff.rfl
  · rw [if_neg (fun q => h ⟨q.2.2.2.2.2.1, q.2.2.2.2.2.2⟩)]
    exact ⟨fun q => q.elim, fun q => (h q.1).elim⟩)
theorem i_30_50 {w : mm_Z} {μ : mm_M} {X : mm_X} {n : mm_N} (hs : st.length ≤ 4) : am_E d 30 Q (50, L, st, mm_hp w μ X n) ↔ (1 ≤ n.2.1 ∧ 6 ≤ n.2.2) ∧ Q (.inr (2, n.1)) (mm_hp w μ X (mm_th n)) := (x_30_50).trans (by
  unfold am_S
  dsimp only
  rw [w_30_102]
  dsimp only
  rw [e_30_102, Option.bind_some]
  by_cases h : 1 ≤ n.2.1 ∧ 6 ≤ n.2.2
  · refine Iff.trans ?_ (⟨fun q => ⟨h, q⟩, fun q => q.2⟩ : Q (.inr (2, n.1)) (mm_hp w μ X (mm_th n)) ↔ _)
    rw [if_pos ⟨by decide +kernel, by decide +kernel, by decide +kernel, hs, h_30, h.1, h.2⟩]
    exact Iff.rfl
  · rw [if_neg (fun q => h ⟨q.2.2.2.2.2.1, q.2.2.2.2.2.2⟩)]
    exact ⟨fun q => q.elim, fun q => (h q.1).elim⟩)
theorem i_31_11 {w : mm_Z} {μ : mm_M} {X : mm_X} {n : mm_N} (hs : st.length ≤ 4) : am_E d 31 Q (11, L, st, mm_hp w μ X n) ↔ (1 ≤ n.2.1 ∧ 6 ≤ n.2.2) ∧ Q (.inr (2, n.1)) (mm_hp w μ X (mm_th n)) := (x_31_11).trans (by
  unfold am_S
  dsimp only
  rw [w_31_102]
  dsimp only
  rw [e_31_102, Option.bind_some]
  by_cases h : 1 ≤ n.2.1 ∧ 6 ≤ n.2.2
  · refine Iff.trans ?_ (⟨fun q => ⟨h, q⟩, fun q => q.2⟩ : Q (.inr (2, n.1)) (mm_hp w μ X (mm_th n)) ↔ _)
    rw [if_pos ⟨by decide +kernel, by decide +kernel, by decide +kernel, hs, h_31, h.1, h.2⟩]
    exact Iff.rfl
  · rw [if_neg (fun q => h ⟨q.2.2.2.2.2.1, q.2.2.2.2.2.2⟩)]
    exact ⟨fun q => q.elim, fun q => (h q.1).elim⟩)
theorem i_32_15 {w : mm_Z} {μ : mm_M} {X : mm_X} {n : mm_N} (hs : st.length ≤ 4) : am_E d 32 Q (15, L, st, mm_hp w μ X n) ↔ (1 ≤ n.2.1 ∧ 6 ≤ n.2.2) ∧ Q (.inr (0, n.1)) (mm_hp w μ X (mm_th n)) := (x_32_15).trans (by
  unfold am_S
  dsimp only
  rw [w_32_86]
  dsimp only
  rw [e_32_86, Option.bind_some]
  by_cases h : 1 ≤ n.2.1 ∧ 6 ≤ n.2.2
  · refine Iff.trans ?_ (⟨fun q => ⟨h, q⟩, fun q => q.2⟩ : Q (.inr (0, n.1)) (mm_hp w μ X (mm_th n)) ↔ _)
    rw [if_pos ⟨by decide +kernel, by decide +kernel, by decide +kernel, hs, h_32, h.1, h.2⟩]
    exact Iff.rfl
  · rw [if_neg (fun q => h ⟨q.2.2.2.2.2.1, q.2.2.2.2.2.2⟩)]
    exact ⟨fun q => q.elim, fun q => (h q.1).elim⟩)
theorem i_33_8 {w : mm_Z} {μ : mm_M} {X : mm_X} {n : mm_N} (hs : st.length ≤ 4) : am_E d 33 Q (8, L, st, mm_hp w μ X n) ↔ (1 ≤ n.2.1 ∧ 6 ≤ n.2.2) ∧ Q (.inr (0, n.1)) (mm_hp w μ X (mm_th n)) := (x_33_8).trans (by
  unfold am_S
  dsimp only
  rw [w_33_86]
  dsimp only
  rw [e_33_86, Option.bind_some]
  by_cases h : 1 ≤ n.2.1 ∧ 6 ≤ n.2.2
  · refine Iff.trans ?_ (⟨fun q => ⟨h, q⟩, fun q => q.2⟩ : Q (.inr (0, n.1)) (mm_hp w μ X (mm_th n)) ↔ _)
    rw [if_pos ⟨by decide +kernel, by decide +kernel, by decide +kernel, hs, h_33, h.1, h.2⟩]
    exact Iff.rfl
  · rw [if_neg (fun q => h ⟨q.2.2.2.2.2.1, q.2.2.2.2.2.2⟩)]
    exact ⟨fun q => q.elim, fun q => (h q.1).elim⟩)
theorem i_33_32 : am_E d 33 Q (32, L, st, g) ↔ am_E d 33 Q (34, L, .int (Int32.ofInt (-2147483648)) :: st, g) := (x_33_32).trans (by
  unfold am_S
  dsimp only
  rw [k_33_190]
  exact Iff.rfl)
theorem i_33_57 : am_E d 33 Q (57, L, st, g) ↔ am_E d 33 Q (59, L, .int (Int32.ofInt (-2147483648)) :: st, g) := (x_33_57).trans (by
  unfold am_S
  dsimp only
  rw [k_33_190]
  exact Iff.rfl)
theorem i_34_11 {w : mm_Z} {μ : mm_M} {X : mm_X} {n : mm_N} (hs : st.length ≤ 4) : am_E d 34 Q (11, L, st, mm_hp w μ X n) ↔ (1 ≤ n.2.1 ∧ 6 ≤ n.2.2) ∧ Q (.inr (0, n.1)) (mm_hp w μ X (mm_th n)) := (x_34_11).trans (by
  unfold am_S
  dsimp only
  rw [w_34_86]
  dsimp only
  rw [e_34_86, Option.bind_some]
  by_cases h : 1 ≤ n.2.1 ∧ 6 ≤ n.2.2
  · refine Iff.trans ?_ (⟨fun q => ⟨h, q⟩, fun q => q.2⟩ : Q (.inr (0, n.1)) (mm_hp w μ X (mm_th n)) ↔ _)
    rw [if_pos ⟨by decide +kernel, by decide +kernel, by decide +kernel, hs, h_34, h.1, h.2⟩]
    exact Iff.rfl
  · rw [if_neg (fun q => h ⟨q.2.2.2.2.2.1, q.2.2.2.2.2.2⟩)]
    exact ⟨fun q => q.elim, fun q => (h q.1).elim⟩)
theorem i_34_90 {x y : UInt32} : am_E d 34 Q (90, L, .float y :: .float x :: st, g) ↔ if FP.fdiv x y &&& 0x7fffffff ≤ 0x7f800000 then am_E d 34 Q (91, L, .float (FP.fdiv x y) :: st, g) else False := am_E_fdiv (by decide +kernel : am_dc 34 90 = some .fdiv) rfl
theorem i_34_46 {x : Int} (h : am_n2 l1 = true) : am_E d 34 Q (46, l0 :: l1 :: some (.int (Int32.ofInt x)) :: r, st, g) ↔ am_E d 34 Q (49, l0 :: l1 :: some (.int (Int32.ofInt (x + 1))) :: r, st, g) := mm_s1x (v' := 1) (x_34_46 rfl (by simp only [List.length_cons]; omega)) (by decide) (s1_2 h)
theorem i_34_60 : am_E d 34 Q (60, L, st, g) ↔ am_E d 34 Q (62, L, .int (Int32.ofInt (-2147483648)) :: st, g) := (x_34_60).trans (by
  unfold am_S
  dsimp only
  rw [k_34_190]
  exact Iff.rfl)
theorem i_34_72 {x : Int} (h : am_n2 l3 = true) : am_E d 34 Q (72, l0 :: l1 :: l2 :: l3 :: some (.int (Int32.ofInt x)) :: r, st, g) ↔ am_E d 34 Q (75, l0 :: l1 :: l2 :: l3 :: some (.int (Int32.ofInt (x + 1))) :: r, st, g) := mm_s1x (v' := 1) (x_34_72 rfl (by simp only [List.length_cons]; omega)) (by decide) (s1_4 h)
theorem i_35_12 {w : mm_Z} {μ : mm_M} {X : mm_X} {n : mm_N} (hs : st.length ≤ 4) : am_E d 35 Q (12, L, st, mm_hp w μ X n) ↔ (1 ≤ n.2.1 ∧ 6 ≤ n.2.2) ∧ Q (.inr (1, n.1)) (mm_hp w μ X (mm_th n)) := (x_35_12).trans (by
  unfold am_S
  dsimp only
  rw [w_35_89]
  dsimp only
  rw [e_35_89, Option.bind_some]
  by_cases h : 1 ≤ n.2.1 ∧ 6 ≤ n.2.2
  · refine Iff.trans ?_ (⟨fun q => ⟨h, q⟩, fun q => q.2⟩ : Q (.inr (1, n.1)) (mm_hp w μ X (mm_th n)) ↔ _)
    rw [if_pos ⟨by decide +kernel, by decide +kernel, by decide +kernel, hs, h_35, h.1, h.2⟩]
    exact Iff.rfl
  · rw [if_neg (fun q => h ⟨q.2.2.2.2.2.1, q.2.2.2.2.2.2⟩)]
    exact ⟨fun q => q.elim, fun q => (h q.1).elim⟩)
theorem i_36_11 {w : mm_Z} {μ : mm_M} {X : mm_X} {n : mm_N} (hs : st.length ≤ 4) : am_E d 36 Q (11, L, st, mm_hp w μ X n) ↔ (1 ≤ n.2.1 ∧ 6 ≤ n.2.2) ∧ Q (.inr (2, n.1)) (mm_hp w μ X (mm_th n)) := (x_36_11).trans (by
  unfold am_S
  dsimp only
  rw [w_36_102]
  dsimp only
  rw [e_36_102, Option.bind_some]
  by_cases h : 1 ≤ n.2.1 ∧ 6 ≤ n.2.2
  · refine Iff.trans ?_ (⟨fun q => ⟨h, q⟩, fun q => q.2⟩ : Q (.inr (2, n.1)) (mm_hp w μ X (mm_th n)) ↔ _)
    rw [if_pos ⟨by decide +kernel, by decide +kernel, by decide +kernel, hs, h_36, h.1, h.2⟩]
    exact Iff.rfl
  · rw [if_neg (fun q => h ⟨q.2.2.2.2.2.1, q.2.2.2.2.2.2⟩)]
    exact ⟨fun q => q.elim, fun q => (h q.1).elim⟩)
theorem i_37_58 {w : mm_Z} {μ : mm_M} {X : mm_X} {n : mm_N} (hs : st.length ≤ 4) : am_E d 37 Q (58, L, st, mm_hp w μ X n) ↔ (1 ≤ n.2.1 ∧ 6 ≤ n.2.2) ∧ Q (.inr (2, n.1)) (mm_hp w μ X (mm_th n)) := (x_37_58).trans (by
  unfold am_S
  dsimp only
  rw [w_37_102]
  dsimp only
  rw [e_37_102, Option.bind_some]
  by_cases h : 1 ≤ n.2.1 ∧ 6 ≤ n.2.2
  · refine Iff.trans ?_ (⟨fun q => ⟨h, q⟩, fun q => q.2⟩ : Q (.inr (2, n.1)) (mm_hp w μ X (mm_th n)) ↔ _)
    rw [if_pos ⟨by decide +kernel, by decide +kernel, by decide +kernel, hs, h_37, h.1, h.2⟩]
    exact Iff.rfl
  · rw [if_neg (fun q => h ⟨q.2.2.2.2.2.1, q.2.2.2.2.2.2⟩)]
    exact ⟨fun q => q.elim, fun q => (h q.1).elim⟩)
theorem i_37_12 {w : mm_Z} {μ : mm_M} {X : mm_X} {n : mm_N} (hs : st.length ≤ 4) : am_E d 37 Q (12, L, st, mm_hp w μ X n) ↔ (1 ≤ n.2.1 ∧ 6 ≤ n.2.2) ∧ Q (.inr (0, n.1)) (mm_hp w μ X (mm_th n)) := (x_37_12).trans (by
  unfold am_S
  dsimp only
  rw [w_37_86]
  dsimp only
  rw [e_37_86, Option.bind_some]
  by_cases h : 1 ≤ n.2.1 ∧ 6 ≤ n.2.2
  · refine Iff.trans ?_ (⟨fun q => ⟨h, q⟩, fun q => q.2⟩ : Q (.inr (0, n.1)) (mm_hp w μ X (mm_th n)) ↔ _)
    rw [if_pos ⟨by decide +kernel, by decide +kernel, by decide +kernel, hs, h_37, h.1, h.2⟩]
    exact Iff.rfl
  · rw [if_neg (fun q => h ⟨q.2.2.2.2.2.1, q.2.2.2.2.2.2⟩)]
    exact ⟨fun q => q.elim, fun q => (h q.1).elim⟩)
theorem i_37_29 {w : mm_Z} {μ : mm_M} {X : mm_X} {n : mm_N} (hs : st.length ≤ 4) : am_E d 37 Q (29, L, st, mm_hp w μ X n) ↔ (1 ≤ n.2.1 ∧ 6 ≤ n.2.2) ∧ Q (.inr (1, n.1)) (mm_hp w μ X (mm_th n)) := (x_37_29).trans (by
  unfold am_S
  dsimp only
  rw [w_37_89]
  dsimp only
  rw [e_37_89, Option.bind_some]
  by_cases h : 1 ≤ n.2.1 ∧ 6 ≤ n.2.2
  · refine Iff.trans ?_ (⟨fun q => ⟨h, q⟩, fun q => q.2⟩ : Q (.inr (1, n.1)) (mm_hp w μ X (mm_th n)) ↔ _)
    rw [if_pos ⟨by decide +kernel, by decide +kernel, by decide +kernel, hs, h_37, h.1, h.2⟩]
    exact Iff.rfl
  · rw [if_neg (fun q => h ⟨q.2.2.2.2.2.1, q.2.2.2.2.2.2⟩)]
    exact ⟨fun q => q.elim, fun q => (h q.1).elim⟩)
theorem i_38_24 {w : mm_Z} {μ : mm_M} {X : mm_X} {n : mm_N} (hs : st.length ≤ 4) : am_E d 38 Q (24, L, st, mm_hp w μ X n) ↔ (1 ≤ n.2.1 ∧ 6 ≤ n.2.2) ∧ Q (.inr (0, n.1)) (mm_hp w μ X (mm_th n)) := (x_38_24).trans (by
  unfold am_S
  dsimp only
  rw [w_38_86]
  dsimp only
  rw [e_38_86, Option.bind_some]
  by_cases h : 1 ≤ n.2.1 ∧ 6 ≤ n.2.2
  · refine Iff.trans ?_ (⟨fun q => ⟨h, q⟩, fun q => q.2⟩ : Q (.inr (0, n.1)) (mm_hp w μ X (mm_th n)) ↔ _)
    rw [if_pos ⟨by decide +kernel, by decide +kernel, by decide +kernel, hs, h_38, h.1, h.2⟩]
    exact Iff.rfl
  · rw [if_neg (fun q => h ⟨q.2.2.2.2.2.1, q.2.2.2.2.2.2⟩)]
    exact ⟨fun q => q.elim, fun q => (h q.1).elim⟩)
theorem i_38_53 {w : mm_Z} {μ : mm_M} {X : mm_X} {n : mm_N} (hs : st.length ≤ 4) : am_E d 38 Q (53, L, st, mm_hp w μ X n) ↔ (1 ≤ n.2.1 ∧ 6 ≤ n.2.2) ∧ Q (.inr (1, n.1)) (mm_hp w μ X (mm_th n)) := (x_38_53).trans (by
  unfold am_S
  dsimp only
  rw [w_38_89]
  dsimp only
  rw [e_38_89, Option.bind_some]
  by_cases h : 1 ≤ n.2.1 ∧ 6 ≤ n.2.2
  · refine Iff.trans ?_ (⟨fun q => ⟨h, q⟩, fun q => q.2⟩ : Q (.inr (1, n.1)) (mm_hp w μ X (mm_th n)) ↔ _)
    rw [if_pos ⟨by decide +kernel, by decide +kernel, by decide +kernel, hs, h_38, h.1, h.2⟩]
    exact Iff.rfl
  · rw [if_neg (fun q => h ⟨q.2.2.2.2.2.1, q.2.2.2.2.2.2⟩)]
    exact ⟨fun q => q.elim, fun q => (h q.1).elim⟩)
theorem i_39_43 {w : mm_Z} {μ : mm_M} {X : mm_X} {n : mm_N} (hs : st.length ≤ 4) : am_E d 39 Q (43, L, st, mm_hp w μ X n) ↔ (1 ≤ n.2.1 ∧ 6 ≤ n.2.2) ∧ Q (.inr (0, n.1)) (mm_hp w μ X (mm_th n)) := (x_39_43).trans (by
  unfold am_S
  dsimp only
  rw [w_39_86]
  dsimp only
  rw [e_39_86, Option.bind_some]
  by_cases h : 1 ≤ n.2.1 ∧ 6 ≤ n.2.2
  · refine Iff.trans ?_ (⟨fun q => ⟨h, q⟩, fun q => q.2⟩ : Q (.inr (0, n.1)) (mm_hp w μ X (mm_th n)) ↔ _)
    rw [if_pos ⟨by decide +kernel, by decide +kernel, by decide +kernel, hs, h_39, h.1, h.2⟩]
    exact Iff.rfl
  · rw [if_neg (fun q => h ⟨q.2.2.2.2.2.1, q.2.2.2.2.2.2⟩)]
    exact ⟨fun q => q.elim, fun q => (h q.1).elim⟩)
theorem i_39_60 {w : mm_Z} {μ : mm_M} {X : mm_X} {n : mm_N} (hs : st.length ≤ 4) : am_E d 39 Q (60, L, st, mm_hp w μ X n) ↔ (1 ≤ n.2.1 ∧ 6 ≤ n.2.2) ∧ Q (.inr (1, n.1)) (mm_hp w μ X (mm_th n)) := (x_39_60).trans (by
  unfold am_S
  dsimp only
  rw [w_39_89]
  dsimp only
  rw [e_39_89, Option.bind_some]
  by_cases h : 1 ≤ n.2.1 ∧ 6 ≤ n.2.2
  · refine Iff.trans ?_ (⟨fun q => ⟨h, q⟩, fun q => q.2⟩ : Q (.inr (1, n.1)) (mm_hp w μ X (mm_th n)) ↔ _)
    rw [if_pos ⟨by decide +kernel, by decide +kernel, by decide +kernel, hs, h_39, h.1, h.2⟩]
    exact Iff.rfl
  · rw [if_neg (fun q => h ⟨q.2.2.2.2.2.1, q.2.2.2.2.2.2⟩)]
    exact ⟨fun q => q.elim, fun q => (h q.1).elim⟩)
theorem i_40_8 {w : mm_Z} {μ : mm_M} {X : mm_X} {n : mm_N} (hs : st.length ≤ 4) : am_E d 40 Q (8, L, st, mm_hp w μ X n) ↔ (1 ≤ n.2.1 ∧ 6 ≤ n.2.2) ∧ Q (.inr (0, n.1)) (mm_hp w μ X (mm_th n)) := (x_40_8).trans (by
  unfold am_S
  dsimp only
  rw [w_40_86]
  dsimp only
  rw [e_40_86, Option.bind_some]
  by_cases h : 1 ≤ n.2.1 ∧ 6 ≤ n.2.2
  · refine Iff.trans ?_ (⟨fun q => ⟨h, q⟩, fun q => q.2⟩ : Q (.inr (0, n.1)) (mm_hp w μ X (mm_th n)) ↔ _)
    rw [if_pos ⟨by decide +kernel, by decide +kernel, by decide +kernel, hs, h_40, h.1, h.2⟩]
    exact Iff.rfl
  · rw [if_neg (fun q => h ⟨q.2.2.2.2.2.1, q.2.2.2.2.2.2⟩)]
    exact ⟨fun q => q.elim, fun q => (h q.1).elim⟩)
theorem i_40_24 {w : mm_Z} {μ : mm_M} {X : mm_X} {n : mm_N} (hs : st.length ≤ 4) : am_E d 40 Q (24, L, st, mm_hp w μ X n) ↔ (1 ≤ n.2.1 ∧ 6 ≤ n.2.2) ∧ Q (.inr (1, n.1)) (mm_hp w μ X (mm_th n)) := (x_40_24).trans (by
  unfold am_S
  dsimp only
  rw [w_40_89]
  dsimp only
  rw [e_40_89, Option.bind_some]
  by_cases h : 1 ≤ n.2.1 ∧ 6 ≤ n.2.2
  · refine Iff.trans ?_ (⟨fun q => ⟨h, q⟩, fun q => q.2⟩ : Q (.inr (1, n.1)) (mm_hp w μ X (mm_th n)) ↔ _)
    rw [if_pos ⟨by decide +kernel, by decide +kernel, by decide +kernel, hs, h_40, h.1, h.2⟩]
    exact Iff.rfl
  · rw [if_neg (fun q => h ⟨q.2.2.2.2.2.1, q.2.2.2.2.2.2⟩)]
    exact ⟨fun q => q.elim, fun q => (h q.1).elim⟩)
theorem i_40_48 {w : mm_Z} {μ : mm_M} {X : mm_X} {n : mm_N} (hs : st.length ≤ 4) : am_E d 40 Q (48, L, st, mm_hp w μ X n) ↔ (1 ≤ n.2.1 ∧ 6 ≤ n.2.2) ∧ Q (.inr (2, n.1)) (mm_hp w μ X (mm_th n)) := (x_40_48).trans (by
  unfold am_S
  dsimp only
  rw [w_40_102]
  dsimp only
  rw [e_40_102, Option.bind_some]
  by_cases h : 1 ≤ n.2.1 ∧ 6 ≤ n.2.2
  · refine Iff.trans ?_ (⟨fun q => ⟨h, q⟩, fun q => q.2⟩ : Q (.inr (2, n.1)) (mm_hp w μ X (mm_th n)) ↔ _)
    rw [if_pos ⟨by decide +kernel, by decide +kernel, by decide +kernel, hs, h_40, h.1, h.2⟩]
    exact Iff.rfl
  · rw [if_neg (fun q => h ⟨q.2.2.2.2.2.1, q.2.2.2.2.2.2⟩)]
    exact ⟨fun q => q.elim, fun q => (h q.1).elim⟩)
theorem i_41_10 {w : mm_Z} {μ : mm_M} {X : mm_X} {n : mm_N} (hs : st.length ≤ 4) : am_E d 41 Q (10, L, st, mm_hp w μ X n) ↔ (1 ≤ n.2.1 ∧ 6 ≤ n.2.2) ∧ Q (.inr (2, n.1)) (mm_hp w μ X (mm_th n)) := (x_41_10).trans (by
  unfold am_S
  dsimp only
  rw [w_41_102]
  dsimp only
  rw [e_41_102, Option.bind_some]
  by_cases h : 1 ≤ n.2.1 ∧ 6 ≤ n.2.2
  · refine Iff.trans ?_ (⟨fun q => ⟨h, q⟩, fun q => q.2⟩ : Q (.inr (2, n.1)) (mm_hp w μ X (mm_th n)) ↔ _)
    rw [if_pos ⟨by decide +kernel, by decide +kernel, by decide +kernel, hs, h_41, h.1, h.2⟩]
    exact Iff.rfl
  · rw [if_neg (fun q => h ⟨q.2.2.2.2.2.1, q.2.2.2.2.2.2⟩)]
    exact ⟨fun q => q.elim, fun q => (h q.1).elim⟩)
theorem i_42_12 {w : mm_Z} {μ : mm_M} {X : mm_X} {n : mm_N} (hs : st.length ≤ 4) : am_E d 42 Q (12, L, st, mm_hp w μ X n) ↔ (1 ≤ n.2.1 ∧ 6 ≤ n.2.2) ∧ Q (.inr (2, n.1)) (mm_hp w μ X (mm_th n)) := (x_42_12).trans (by
  unfold am_S
  dsimp only
  rw [w_42_102]
  dsimp only
  rw [e_42_102, Option.bind_some]
  by_cases h : 1 ≤ n.2.1 ∧ 6 ≤ n.2.2
  · refine Iff.trans ?_ (⟨fun q => ⟨h, q⟩, fun q => q.2⟩ : Q (.inr (2, n.1)) (mm_hp w μ X (mm_th n)) ↔ _)
    rw [if_pos ⟨by decide +kernel, by decide +kernel, by decide +kernel, hs, h_42, h.1, h.2⟩]
    exact Iff.rfl
  · rw [if_neg (fun q => h ⟨q.2.2.2.2.2.1, q.2.2.2.2.2.2⟩)]
    exact ⟨fun q => q.elim, fun q => (h q.1).elim⟩)
theorem i_44_8 {w : mm_Z} {μ : mm_M} {X : mm_X} {n : mm_N} (hs : st.length ≤ 4) : am_E d 44 Q (8, L, st, mm_hp w μ X n) ↔ (1 ≤ n.2.1 ∧ 6 ≤ n.2.2) ∧ Q (.inr (0, n.1)) (mm_hp w μ X (mm_th n)) := (x_44_8).trans (by
  unfold am_S
  dsimp only
  rw [w_44_86]
  dsimp only
  rw [e_44_86, Option.bind_some]
  by_cases h : 1 ≤ n.2.1 ∧ 6 ≤ n.2.2
  · refine Iff.trans ?_ (⟨fun q => ⟨h, q⟩, fun q => q.2⟩ : Q (.inr (0, n.1)) (mm_hp w μ X (mm_th n)) ↔ _)
    rw [if_pos ⟨by decide +kernel, by decide +kernel, by decide +kernel, hs, h_44, h.1, h.2⟩]
    exact Iff.rfl
  · rw [if_neg (fun q => h ⟨q.2.2.2.2.2.1, q.2.2.2.2.2.2⟩)]
    exact ⟨fun q => q.elim, fun q => (h q.1).elim⟩)
theorem i_44_24 {w : mm_Z} {μ : mm_M} {X : mm_X} {n : mm_N} (hs : st.length ≤ 4) : am_E d 44 Q (24, L, st, mm_hp w μ X n) ↔ (1 ≤ n.2.1 ∧ 6 ≤ n.2.2) ∧ Q (.inr (1, n.1)) (mm_hp w μ X (mm_th n)) := (x_44_24).trans (by
  unfold am_S
  dsimp only
  rw [w_44_89]
  dsimp only
  rw [e_44_89, Option.bind_some]
  by_cases h : 1 ≤ n.2.1 ∧ 6 ≤ n.2.2
  · refine Iff.trans ?_ (⟨fun q => ⟨h, q⟩, fun q => q.2⟩ : Q (.inr (1, n.1)) (mm_hp w μ X (mm_th n)) ↔ _)
    rw [if_pos ⟨by decide +kernel, by decide +kernel, by decide +kernel, hs, h_44, h.1, h.2⟩]
    exact Iff.rfl
  · rw [if_neg (fun q => h ⟨q.2.2.2.2.2.1, q.2.2.2.2.2.2⟩)]
    exact ⟨fun q => q.elim, fun q => (h q.1).elim⟩)
theorem i_44_54 {w : mm_Z} {μ : mm_M} {X : mm_X} {n : mm_N} (hs : st.length ≤ 4) : am_E d 44 Q (54, L, st, mm_hp w μ X n) ↔ (1 ≤ n.2.1 ∧ 6 ≤ n.2.2) ∧ Q (.inr (2, n.1)) (mm_hp w μ X (mm_th n)) := (x_44_54).trans (by
  unfold am_S
  dsimp only
  rw [w_44_102]
  dsimp only
  rw [e_44_102, Option.bind_some]
  by_cases h : 1 ≤ n.2.1 ∧ 6 ≤ n.2.2
  · refine Iff.trans ?_ (⟨fun q => ⟨h, q⟩, fun q => q.2⟩ : Q (.inr (2, n.1)) (mm_hp w μ X (mm_th n)) ↔ _)
    rw [if_pos ⟨by decide +kernel, by decide +kernel, by decide +kernel, hs, h_44, h.1, h.2⟩]
    exact Iff.rfl
  · rw [if_neg (fun q => h ⟨q.2.2.2.2.2.1, q.2.2.2.2.2.2⟩)]
    exact ⟨fun q => q.elim, fun q => (h q.1).elim⟩)
theorem i_48_10 {w : mm_Z} {μ : mm_M} {X : mm_X} {n : mm_N} (hs : st.length ≤ 4) : am_E d 48 Q (10, L, st, mm_hp w μ X n) ↔ (1 ≤ n.2.1 ∧ 6 ≤ n.2.2) ∧ Q (.inr (2, n.1)) (mm_hp w μ X (mm_th n)) := (x_48_10).trans (by
  unfold am_S
  dsimp only
  rw [w_48_102]
  dsimp only
  rw [e_48_102, Option.bind_some]
  by_cases h : 1 ≤ n.2.1 ∧ 6 ≤ n.2.2
  · refine Iff.trans ?_ (⟨fun q => ⟨h, q⟩, fun q => q.2⟩ : Q (.inr (2, n.1)) (mm_hp w μ X (mm_th n)) ↔ _)
    rw [if_pos ⟨by decide +kernel, by decide +kernel, by decide +kernel, hs, h_48, h.1, h.2⟩]
    exact Iff.rfl
  · rw [if_neg (fun q => h ⟨q.2.2.2.2.2.1, q.2.2.2.2.2.2⟩)]
    exact ⟨fun q => q.elim, fun q => (h q.1).elim⟩)
theorem i_50_14 {w : mm_Z} {μ : mm_M} {X : mm_X} {n : mm_N} (hs : st.length ≤ 4) : am_E d 50 Q (14, L, st, mm_hp w μ X n) ↔ (1 ≤ n.2.1 ∧ 6 ≤ n.2.2) ∧ Q (.inr (0, n.1)) (mm_hp w μ X (mm_th n)) := (x_50_14).trans (by
  unfold am_S
  dsimp only
  rw [w_50_86]
  dsimp only
  rw [e_50_86, Option.bind_some]
  by_cases h : 1 ≤ n.2.1 ∧ 6 ≤ n.2.2
  · refine Iff.trans ?_ (⟨fun q => ⟨h, q⟩, fun q => q.2⟩ : Q (.inr (0, n.1)) (mm_hp w μ X (mm_th n)) ↔ _)
    rw [if_pos ⟨by decide +kernel, by decide +kernel, by decide +kernel, hs, h_50, h.1, h.2⟩]
    exact Iff.rfl
  · rw [if_neg (fun q => h ⟨q.2.2.2.2.2.1, q.2.2.2.2.2.2⟩)]
    exact ⟨fun q => q.elim, fun q => (h q.1).elim⟩)
theorem i_51_38 {x : Int} : am_E d 51 Q (38, L, .int (Int32.ofInt x) :: st, g) ↔ (if mm_w (x) = 1 then am_E d 51 Q (64, L, st, g) else (if mm_w (x) = 2 then am_E d 51 Q (73, L, st, g) else (if mm_w (x) = 3 then am_E d 51 Q (82, L, st, g) else am_E d 51 Q (97, L, st, g)))) := (x_51_38).trans (by
  unfold am_S
  dsimp only
  unfold mm_w
  generalize (Int32.ofInt x).toInt = t
  by_cases h0 : t = 1
  · rw [if_pos h0, h0]; exact Iff.rfl
  rw [if_neg h0]
  by_cases h1 : t = 2
  · rw [if_pos h1, h1]; exact Iff.rfl
  rw [if_neg h1]
  by_cases h2 : t = 3
  · rw [if_pos h2, h2]; exact Iff.rfl
  rw [if_neg h2]
  rw [if_pos (by omega)]
  exact Iff.rfl)
theorem i_51_113 : am_E d 51 Q (113, L, st, g) ↔ am_E d 51 Q (116, L, .long (Int64.ofInt (1000)) :: st, g) := (x_51_113).trans (by
  unfold am_S
  dsimp only
  rw [k_51_45]
  exact Iff.rfl)
theorem i_51_87 : am_E d 51 Q (87, L, st, g) ↔ am_E d 51 Q (90, L, .long (Int64.ofInt (1000)) :: st, g) := (x_51_87).trans (by
  unfold am_S
  dsimp only
  rw [k_51_45]
  exact Iff.rfl)
theorem i_54_1 : am_E d 54 Q (1, L, st, g) ↔ am_E d 54 Q (4, L, .long (Int64.ofInt (-2000000000)) :: st, g) := (x_54_1).trans (by
  unfold am_S
  dsimp only
  rw [k_54_9]
  exact Iff.rfl)
theorem i_54_9 : am_E d 54 Q (9, L, st, g) ↔ am_E d 54 Q (12, L, .long (Int64.ofInt (2000000000)) :: st, g) := (x_54_9).trans (by
  unfold am_S
  dsimp only
  rw [k_54_11]
  exact Iff.rfl)
theorem i_55_1 : am_E d 55 Q (1, L, st, g) ↔ am_E d 55 Q (4, L, .long (Int64.ofInt (1152921504606846976)) :: st, g) := (x_55_1).trans (by
  unfold am_S
  dsimp only
  rw [k_55_15]
  exact Iff.rfl)
theorem i_55_13 : am_E d 55 Q (13, L, st, g) ↔ am_E d 55 Q (16, L, .long (Int64.ofInt (1152921504606846976)) :: st, g) := (x_55_13).trans (by
  unfold am_S
  dsimp only
  rw [k_55_15]
  exact Iff.rfl)
theorem i_56_0 : am_E d 56 Q (0, L, st, g) ↔ am_E d 56 Q (3, L, .long (Int64.ofInt (1152921504606846976)) :: st, g) := (x_56_0).trans (by
  unfold am_S
  dsimp only
  rw [k_56_15]
  exact Iff.rfl)
theorem i_57_1 : am_E d 57 Q (1, L, st, g) ↔ am_E d 57 Q (4, L, .long (Int64.ofInt (1152921504606846976)) :: st, g) := (x_57_1).trans (by
  unfold am_S
  dsimp only
  rw [k_57_15]
  exact Iff.rfl)
theorem i_58_21 : am_E d 58 Q (21, L, st, g) ↔ am_E d 58 Q (24, L, .long (Int64.ofInt (2)) :: st, g) := (x_58_21).trans (by
  unfold am_S
  dsimp only
  rw [k_58_54]
  exact Iff.rfl)
theorem i_58_30 : am_E d 58 Q (30, L, st, g) ↔ am_E d 58 Q (33, L, .long (Int64.ofInt (2)) :: st, g) := (x_58_30).trans (by
  unfold am_S
  dsimp only
  rw [k_58_54]
  exact Iff.rfl)
theorem i_63_84 {x : Int} (h : am_n2 l8 = true) : am_E d 63 Q (84, l0 :: l1 :: l2 :: l3 :: l4 :: l5 :: l6 :: l7 :: l8 :: some (.int (Int32.ofInt x)) :: r, st, g) ↔ am_E d 63 Q (87, l0 :: l1 :: l2 :: l3 :: l4 :: l5 :: l6 :: l7 :: l8 :: some (.int (Int32.ofInt (x + 1))) :: r, st, g) := mm_s1x (v' := 1) (x_63_84 rfl (by simp only [List.length_cons]; omega)) (by decide) (s1_9 h)
theorem i_66_33 {x : Int} (h : am_n2 l4 = true) : am_E d 66 Q (33, l0 :: l1 :: l2 :: l3 :: l4 :: some (.int (Int32.ofInt x)) :: r, st, g) ↔ am_E d 66 Q (36, l0 :: l1 :: l2 :: l3 :: l4 :: some (.int (Int32.ofInt (x + 1))) :: r, st, g) := mm_s1x (v' := 1) (x_66_33 rfl (by simp only [List.length_cons]; omega)) (by decide) (s1_5 h)
theorem i_67_73 {x : Int} (h : am_n2 l8 = true) : am_E d 67 Q (73, l0 :: l1 :: l2 :: l3 :: l4 :: l5 :: l6 :: l7 :: l8 :: some (.int (Int32.ofInt x)) :: r, st, g) ↔ am_E d 67 Q (76, l0 :: l1 :: l2 :: l3 :: l4 :: l5 :: l6 :: l7 :: l8 :: some (.int (Int32.ofInt (x + 1))) :: r, st, g) := mm_s1x (v' := 1) (x_67_73 rfl (by simp only [List.length_cons]; omega)) (by decide) (s1_9 h)
theorem i_68_14 {x : Int} : am_E d 68 Q (14, L, .int (Int32.ofInt x) :: st, g) ↔ (if mm_w (x) = 5 then am_E d 68 Q (48, L, st, g) else (if mm_w (x) = 6 then am_E d 68 Q (59, L, st, g) else (if mm_w (x) = 7 then am_E d 68 Q (89, L, st, g) else (if mm_w (x) = 8 then am_E d 68 Q (79, L, st, g) else (if mm_w (x) = 9 then am_E d 68 Q (86, L, st, g) else am_E d 68 Q (89, L, st, g)))))) := (x_68_14).trans (by
  unfold am_S
  dsimp only
  unfold mm_w
  generalize (Int32.ofInt x).toInt = t
  by_cases h0 : t = 5
  · rw [if_pos h0, h0]; exact Iff.rfl
  rw [if_neg h0]
  by_cases h1 : t = 6
  · rw [if_pos h1, h1]; exact Iff.rfl
  rw [if_neg h1]
  by_cases h2 : t = 7
  · rw [if_pos h2, h2]; exact Iff.rfl
  rw [if_neg h2]
  by_cases h3 : t = 8
  · rw [if_pos h3, h3]; exact Iff.rfl
  rw [if_neg h3]
  by_cases h4 : t = 9
  · rw [if_pos h4, h4]; exact Iff.rfl
  rw [if_neg h4]
  rw [if_pos (by omega)]
  exact Iff.rfl)
theorem i_71_106 {x : Int} (h : am_n2 l5 = true) : am_E d 71 Q (106, l0 :: l1 :: l2 :: l3 :: l4 :: l5 :: some (.int (Int32.ofInt x)) :: r, st, g) ↔ am_E d 71 Q (109, l0 :: l1 :: l2 :: l3 :: l4 :: l5 :: some (.int (Int32.ofInt (x + 1))) :: r, st, g) := mm_s1x (v' := 1) (x_71_106 rfl (by simp only [List.length_cons]; omega)) (by decide) (s1_6 h)
theorem i_72_26 {x : Int} : am_E d 72 Q (26, L, .int (Int32.ofInt x) :: st, g) ↔ (if mm_w (x) = 1 then am_E d 72 Q (56, L, st, g) else (if mm_w (x) = 2 then am_E d 72 Q (64, L, st, g) else (if mm_w (x) = 3 then am_E d 72 Q (72, L, st, g) else (if mm_w (x) = 4 then am_E d 72 Q (92, L, st, g) else am_E d 72 Q (112, L, st, g))))) := (x_72_26).trans (by
  unfold am_S
  dsimp only
  unfold mm_w
  generalize (Int32.ofInt x).toInt = t
  by_cases h0 : t = 1
  · rw [if_pos h0, h0]; exact Iff.rfl
  rw [if_neg h0]
  by_cases h1 : t = 2
  · rw [if_pos h1, h1]; exact Iff.rfl
  rw [if_neg h1]
  by_cases h2 : t = 3
  · rw [if_pos h2, h2]; exact Iff.rfl
  rw [if_neg h2]
  by_cases h3 : t = 4
  · rw [if_pos h3, h3]; exact Iff.rfl
  rw [if_neg h3]
  rw [if_pos (by omega)]
  exact Iff.rfl)
theorem i_73_1 {x : Int} : am_E d 73 Q (1, L, .int (Int32.ofInt x) :: st, g) ↔ (if mm_w (x) = 6 then am_E d 73 Q (28, L, st, g) else (if mm_w (x) = 7 then am_E d 73 Q (35, L, st, g) else (if mm_w (x) = 8 then am_E d 73 Q (42, L, st, g) else am_E d 73 Q (49, L, st, g)))) := (x_73_1).trans (by
  unfold am_S
  dsimp only
  unfold mm_w
  generalize (Int32.ofInt x).toInt = t
  by_cases h0 : t = 6
  · rw [if_pos h0, h0]; exact Iff.rfl
  rw [if_neg h0]
  by_cases h1 : t = 7
  · rw [if_pos h1, h1]; exact Iff.rfl
  rw [if_neg h1]
  by_cases h2 : t = 8
  · rw [if_pos h2, h2]; exact Iff.rfl
  rw [if_neg h2]
  rw [if_pos (by omega)]
  exact Iff.rfl)
theorem i_75_31 {w : mm_Z} {μ : mm_M} {X : mm_X} {n : mm_N} (hs : st.length ≤ 4) : am_E d 75 Q (31, L, st, mm_hp w μ X n) ↔ (1 ≤ n.2.1 ∧ 6 ≤ n.2.2) ∧ Q (.inr (2, n.1)) (mm_hp w μ X (mm_th n)) := (x_75_31).trans (by
  unfold am_S
  dsimp only
  rw [w_75_63]
  dsimp only
  rw [e_75_63, Option.bind_some]
  by_cases h : 1 ≤ n.2.1 ∧ 6 ≤ n.2.2
  · refine Iff.trans ?_ (⟨fun q => ⟨h, q⟩, fun q => q.2⟩ : Q (.inr (2, n.1)) (mm_hp w μ X (mm_th n)) ↔ _)
    rw [if_pos ⟨by decide +kernel, by decide +kernel, by decide +kernel, hs, h_75, h.1, h.2⟩]
    exact Iff.rfl
  · rw [if_neg (fun q => h ⟨q.2.2.2.2.2.1, q.2.2.2.2.2.2⟩)]
    exact ⟨fun q => q.elim, fun q => (h q.1).elim⟩)
theorem i_76_30 : am_E d 76 Q (30, L, st, g) ↔ am_E d 76 Q (32, L, .int (Int32.ofInt (-2147483648)) :: st, g) := (x_76_30).trans (by
  unfold am_S
  dsimp only
  rw [k_76_81]
  exact Iff.rfl)
theorem i_78_48 {x : Int} (h : am_n2 l1 = true) : am_E d 78 Q (48, l0 :: l1 :: some (.int (Int32.ofInt x)) :: r, st, g) ↔ am_E d 78 Q (51, l0 :: l1 :: some (.int (Int32.ofInt (x + 1))) :: r, st, g) := mm_s1x (v' := 1) (x_78_48 rfl (by simp only [List.length_cons]; omega)) (by decide) (s1_2 h)
theorem i_78_30 : am_E d 78 Q (30, L, st, g) ↔ am_E d 78 Q (32, L, .int (Int32.ofInt (-2147483648)) :: st, g) := (x_78_30).trans (by
  unfold am_S
  dsimp only
  rw [k_78_22]
  exact Iff.rfl)
theorem i_78_42 {x : Int} (h : am_n2 l2 = true) : am_E d 78 Q (42, l0 :: l1 :: l2 :: some (.int (Int32.ofInt x)) :: r, st, g) ↔ am_E d 78 Q (45, l0 :: l1 :: l2 :: some (.int (Int32.ofInt (x + 1))) :: r, st, g) := mm_s1x (v' := 1) (x_78_42 rfl (by simp only [List.length_cons]; omega)) (by decide) (s1_3 h)
theorem i_80_9 : am_E d 80 Q (9, L, st, g) ↔ am_E d 80 Q (11, L, .int (Int32.ofInt (-2147483648)) :: st, g) := (x_80_9).trans (by
  unfold am_S
  dsimp only
  rw [k_80_22]
  exact Iff.rfl)
theorem i_81_36 : am_E d 81 Q (36, L, st, g) ↔ am_E d 81 Q (38, L, .int (Int32.ofInt (-2147483648)) :: st, g) := (x_81_36).trans (by
  unfold am_S
  dsimp only
  rw [k_81_22]
  exact Iff.rfl)
theorem i_81_41 {x : Int} (h : am_n2 l1 = true) : am_E d 81 Q (41, l0 :: l1 :: some (.int (Int32.ofInt x)) :: r, st, g) ↔ am_E d 81 Q (44, l0 :: l1 :: some (.int (Int32.ofInt (x + 1))) :: r, st, g) := mm_s1x (v' := 1) (x_81_41 rfl (by simp only [List.length_cons]; omega)) (by decide) (s1_2 h)
theorem i_81_63 {x : Int} (h : am_n2 l2 = true) : am_E d 81 Q (63, l0 :: l1 :: l2 :: some (.int (Int32.ofInt x)) :: r, st, g) ↔ am_E d 81 Q (66, l0 :: l1 :: l2 :: some (.int (Int32.ofInt (x + 1))) :: r, st, g) := mm_s1x (v' := 1) (x_81_63 rfl (by simp only [List.length_cons]; omega)) (by decide) (s1_3 h)
theorem i_82_34 : am_E d 82 Q (34, L, st, g) ↔ am_E d 82 Q (36, L, .int (Int32.ofInt (-2147483648)) :: st, g) := (x_82_34).trans (by
  unfold am_S
  dsimp only
  rw [k_82_22]
  exact Iff.rfl)
theorem i_82_14 : am_E d 82 Q (14, L, st, g) ↔ am_E d 82 Q (16, L, .int (Int32.ofInt (-2147483648)) :: st, g) := (x_82_14).trans (by
  unfold am_S
  dsimp only
  rw [k_82_22]
  exact Iff.rfl)
theorem i_82_28 {x : Int} (h : am_n2 l2 = true) : am_E d 82 Q (28, l0 :: l1 :: l2 :: some (.int (Int32.ofInt x)) :: r, st, g) ↔ am_E d 82 Q (31, l0 :: l1 :: l2 :: some (.int (Int32.ofInt (x + (-1)))) :: r, st, g) := mm_s1x (v' := (-1)) (x_82_28 rfl (by simp only [List.length_cons]; omega)) (by decide) (s1_3 h)
theorem i_83_83 {x : Int} (h : am_n2 l3 = true) : am_E d 83 Q (83, l0 :: l1 :: l2 :: l3 :: some (.int (Int32.ofInt x)) :: r, st, g) ↔ am_E d 83 Q (86, l0 :: l1 :: l2 :: l3 :: some (.int (Int32.ofInt (x + 1))) :: r, st, g) := mm_s1x (v' := 1) (x_83_83 rfl (by simp only [List.length_cons]; omega)) (by decide) (s1_4 h)
theorem i_83_57 : am_E d 83 Q (57, L, st, g) ↔ am_E d 83 Q (59, L, .int (Int32.ofInt (-2147483648)) :: st, g) := (x_83_57).trans (by
  unfold am_S
  dsimp only
  rw [k_83_22]
  exact Iff.rfl)
theorem i_83_71 : am_E d 83 Q (71, L, st, g) ↔ am_E d 83 Q (73, L, .int (Int32.ofInt (-2147483648)) :: st, g) := (x_83_71).trans (by
  unfold am_S
  dsimp only
  rw [k_83_22]
  exact Iff.rfl)
theorem i_83_74 {x : Int} (h : am_n2 l2 = true) : am_E d 83 Q (74, l0 :: l1 :: l2 :: some (.int (Int32.ofInt x)) :: r, st, g) ↔ am_E d 83 Q (77, l0 :: l1 :: l2 :: some (.int (Int32.ofInt (x + 1))) :: r, st, g) := mm_s1x (v' := 1) (x_83_74 rfl (by simp only [List.length_cons]; omega)) (by decide) (s1_3 h)
theorem i_83_77 {x : Int} (h : am_n2 l4 = true) : am_E d 83 Q (77, l0 :: l1 :: l2 :: l3 :: l4 :: some (.int (Int32.ofInt x)) :: r, st, g) ↔ am_E d 83 Q (80, l0 :: l1 :: l2 :: l3 :: l4 :: some (.int (Int32.ofInt (x + 1))) :: r, st, g) := mm_s1x (v' := 1) (x_83_77 rfl (by simp only [List.length_cons]; omega)) (by decide) (s1_5 h)
theorem i_85_53 {x : Int} (h : am_n2 l3 = true) : am_E d 85 Q (53, l0 :: l1 :: l2 :: l3 :: some (.int (Int32.ofInt x)) :: r, st, g) ↔ am_E d 85 Q (56, l0 :: l1 :: l2 :: l3 :: some (.int (Int32.ofInt (x + 1))) :: r, st, g) := mm_s1x (v' := 1) (x_85_53 rfl (by simp only [List.length_cons]; omega)) (by decide) (s1_4 h)
theorem i_87_65 {w : mm_Z} {μ : mm_M} {X : mm_X} {n : mm_N} {zz yy : Int} (hq : mm_P w) (hs : st.length ≤ 4) : am_E d 87 Q (65, L, .int (Int32.ofInt 216) :: .int (Int32.ofInt 0) :: .ref (mm_row zz) :: .int (Int32.ofInt 0) :: .ref (mm_inr yy) :: st, mm_hp w μ X n) ↔ am_E d 87 Q (68, L, st, mm_hp w (mm_cp μ (mm_inr yy) (mm_row zz) 216) X n) := (x_87_65).trans (by
  unfold am_S
  dsimp only
  rw [v_87_39]
  show am_K d 87 Q (if st.length ≤ 4 then (match am_cp .int (mm_hp w μ X n) (mm_inr yy) (mm_row zz) (Int32.ofInt 0) (Int32.ofInt 0) (Int32.ofInt 216) with | some g_ => am_go 68 L st g_ | none => _) else none) ↔ _
  rw [if_pos hs, mm_cpy (by have := mm_row_b (z := zz); omega) (hq _ (by have := mm_row_b (z := zz); omega) (by have := mm_row_b (z := zz); omega)) (N := 216) mm_row_sh (by have := mm_inr_b (z := yy); omega) (hq _ (by have := mm_inr_b (z := yy); omega) (by have := mm_inr_b (z := yy); omega)) (N0 := 216) mm_inr_sh (by decide) (by decide) (by decide) (by decide)]
  exact Iff.rfl)
theorem i_91_0 : am_E d 91 Q (0, L, st, g) ↔ am_E d 91 Q (2, L, .ref 2 :: st, g) := (x_91_0).trans (by
  unfold am_S
  dsimp only
  rw [k_91_13]
  dsimp only
  rw [t_91_13]
  exact Iff.rfl)
theorem i_102_42 {x : Int} (h : am_n2 l1 = true) : am_E d 102 Q (42, l0 :: l1 :: some (.int (Int32.ofInt x)) :: r, st, g) ↔ am_E d 102 Q (45, l0 :: l1 :: some (.int (Int32.ofInt (x + 1))) :: r, st, g) := mm_s1x (v' := 1) (x_102_42 rfl (by simp only [List.length_cons]; omega)) (by decide) (s1_2 h)
theorem i_103_71 {x : Int} (h : am_n2 l2 = true) : am_E d 103 Q (71, l0 :: l1 :: l2 :: some (.int (Int32.ofInt x)) :: r, st, g) ↔ am_E d 103 Q (74, l0 :: l1 :: l2 :: some (.int (Int32.ofInt (x + 1))) :: r, st, g) := mm_s1x (v' := 1) (x_103_71 rfl (by simp only [List.length_cons]; omega)) (by decide) (s1_3 h)
theorem i_104_25 : am_E d 104 Q (25, L, st, g) ↔ am_E d 104 Q (27, L, .ref 3 :: st, g) := (x_104_25).trans (by
  unfold am_S
  dsimp only
  rw [k_104_78]
  dsimp only
  rw [t_104_78]
  exact Iff.rfl)
theorem i_104_46 : am_E d 104 Q (46, L, st, g) ↔ am_E d 104 Q (48, L, .ref 4 :: st, g) := (x_104_46).trans (by
  unfold am_S
  dsimp only
  rw [k_104_90]
  dsimp only
  rw [t_104_90]
  exact Iff.rfl)
theorem i_104_111 : am_E d 104 Q (111, L, st, g) ↔ am_E d 104 Q (113, L, .ref 3 :: st, g) := (x_104_111).trans (by
  unfold am_S
  dsimp only
  rw [k_104_78]
  dsimp only
  rw [t_104_78]
  exact Iff.rfl)
theorem i_104_129 {x : Int} (h : am_n2 l2 = true) : am_E d 104 Q (129, l0 :: l1 :: l2 :: some (.int (Int32.ofInt x)) :: r, st, g) ↔ am_E d 104 Q (132, l0 :: l1 :: l2 :: some (.int (Int32.ofInt (x + 1))) :: r, st, g) := mm_s1x (v' := 1) (x_104_129 rfl (by simp only [List.length_cons]; omega)) (by decide) (s1_3 h)
theorem i_105_71 {x : Int} (h : am_n2 l2 = true) : am_E d 105 Q (71, l0 :: l1 :: l2 :: some (.int (Int32.ofInt x)) :: r, st, g) ↔ am_E d 105 Q (74, l0 :: l1 :: l2 :: some (.int (Int32.ofInt (x + 1))) :: r, st, g) := mm_s1x (v' := 1) (x_105_71 rfl (by simp only [List.length_cons]; omega)) (by decide) (s1_3 h)
theorem i_106_30 : am_E d 106 Q (30, L, st, g) ↔ am_E d 106 Q (32, L, .ref 3 :: st, g) := (x_106_30).trans (by
  unfold am_S
  dsimp only
  rw [k_106_78]
  dsimp only
  rw [t_106_78]
  exact Iff.rfl)
theorem i_110_11 {w : mm_Z} {μ : mm_M} {X : mm_X} {n : mm_N} {zz : Int} (hq : mm_P w) (hs : st.length ≤ 4) : am_E d 110 Q (11, L, .int (Int32.ofInt 3) :: .int (Int32.ofInt 0) :: .ref (mm_rl zz + 1) :: .int (Int32.ofInt 0) :: .ref (103) :: st, mm_hp w μ X n) ↔ am_E d 110 Q (14, L, st, mm_hp w (mm_cp μ (103) (mm_rl zz + 1) 3) X n) := (x_110_11).trans (by
  unfold am_S
  dsimp only
  rw [v_110_34]
  show am_K d 110 Q (if st.length ≤ 4 then (match am_cp .int (mm_hp w μ X n) (103) (mm_rl zz + 1) (Int32.ofInt 0) (Int32.ofInt 0) (Int32.ofInt 3) with | some g_ => am_go 14 L st g_ | none => _) else none) ↔ _
  rw [if_pos hs, mm_cpy (by have := mm_rl_b (z := zz); omega) (hq _ (by have := mm_rl_b (z := zz); omega) (by have := mm_rl_b (z := zz); omega)) (N := 3) mm_rl_sh.2.1 (by decide) (hq _ (by decide) (by decide)) (N0 := 3) (by decide) (by decide) (by decide) (by decide) (by decide)]
  exact Iff.rfl)
theorem i_110_25 {w : mm_Z} {μ : mm_M} {X : mm_X} {n : mm_N} {zz : Int} (hq : mm_P w) (hs : st.length ≤ 4) : am_E d 110 Q (25, L, .int (Int32.ofInt 3) :: .int (Int32.ofInt 0) :: .ref (mm_rl zz + 2) :: .int (Int32.ofInt 0) :: .ref (104) :: st, mm_hp w μ X n) ↔ am_E d 110 Q (28, L, st, mm_hp w (mm_cp μ (104) (mm_rl zz + 2) 3) X n) := (x_110_25).trans (by
  unfold am_S
  dsimp only
  rw [v_110_34]
  show am_K d 110 Q (if st.length ≤ 4 then (match am_cp .int (mm_hp w μ X n) (104) (mm_rl zz + 2) (Int32.ofInt 0) (Int32.ofInt 0) (Int32.ofInt 3) with | some g_ => am_go 28 L st g_ | none => _) else none) ↔ _
  rw [if_pos hs, mm_cpy (by have := mm_rl_b (z := zz); omega) (hq _ (by have := mm_rl_b (z := zz); omega) (by have := mm_rl_b (z := zz); omega)) (N := 3) mm_rl_sh.2.2.1 (by decide) (hq _ (by decide) (by decide)) (N0 := 3) (by decide) (by decide) (by decide) (by decide) (by decide)]
  exact Iff.rfl)
theorem i_110_40 {w : mm_Z} {μ : mm_M} {X : mm_X} {n : mm_N} {zz : Int} (hq : mm_P w) (hs : st.length ≤ 4) : am_E d 110 Q (40, L, .int (Int32.ofInt 24) :: .int (Int32.ofInt 0) :: .ref (mm_rl zz + 3) :: .int (Int32.ofInt 0) :: .ref (105) :: st, mm_hp w μ X n) ↔ am_E d 110 Q (43, L, st, mm_hp w (mm_cp μ (105) (mm_rl zz + 3) 24) X n) := (x_110_40).trans (by
  unfold am_S
  dsimp only
  rw [v_110_34]
  show am_K d 110 Q (if st.length ≤ 4 then (match am_cp .int (mm_hp w μ X n) (105) (mm_rl zz + 3) (Int32.ofInt 0) (Int32.ofInt 0) (Int32.ofInt 24) with | some g_ => am_go 43 L st g_ | none => _) else none) ↔ _
  rw [if_pos hs, mm_cpy (by have := mm_rl_b (z := zz); omega) (hq _ (by have := mm_rl_b (z := zz); omega) (by have := mm_rl_b (z := zz); omega)) (N := 24) mm_rl_sh.2.2.2.1 (by decide) (hq _ (by decide) (by decide)) (N0 := 24) (by decide) (by decide) (by decide) (by decide) (by decide)]
  exact Iff.rfl)
theorem i_110_55 {w : mm_Z} {μ : mm_M} {X : mm_X} {n : mm_N} {zz : Int} (hq : mm_P w) (hs : st.length ≤ 4) : am_E d 110 Q (55, L, .int (Int32.ofInt 24) :: .int (Int32.ofInt 0) :: .ref (mm_rl zz + 4) :: .int (Int32.ofInt 0) :: .ref (106) :: st, mm_hp w μ X n) ↔ am_E d 110 Q (58, L, st, mm_hp w (mm_cp μ (106) (mm_rl zz + 4) 24) X n) := (x_110_55).trans (by
  unfold am_S
  dsimp only
  rw [v_110_34]
  show am_K d 110 Q (if st.length ≤ 4 then (match am_cp .int (mm_hp w μ X n) (106) (mm_rl zz + 4) (Int32.ofInt 0) (Int32.ofInt 0) (Int32.ofInt 24) with | some g_ => am_go 58 L st g_ | none => _) else none) ↔ _
  rw [if_pos hs, mm_cpy (by have := mm_rl_b (z := zz); omega) (hq _ (by have := mm_rl_b (z := zz); omega) (by have := mm_rl_b (z := zz); omega)) (N := 24) mm_rl_sh.2.2.2.2.1 (by decide) (hq _ (by decide) (by decide)) (N0 := 24) (by decide) (by decide) (by decide) (by decide) (by decide)]
  exact Iff.rfl)
theorem i_112_83 {x : Int} (h : am_n2 l2 = true) : am_E d 112 Q (83, l0 :: l1 :: l2 :: some (.int (Int32.ofInt x)) :: r, st, g) ↔ am_E d 112 Q (86, l0 :: l1 :: l2 :: some (.int (Int32.ofInt (x + 1))) :: r, st, g) := mm_s1x (v' := 1) (x_112_83 rfl (by simp only [List.length_cons]; omega)) (by decide) (s1_3 h)
theorem i_114_58 {x : Int} (h : am_n2 l2 = true) : am_E d 114 Q (58, l0 :: l1 :: l2 :: some (.int (Int32.ofInt x)) :: r, st, g) ↔ am_E d 114 Q (61, l0 :: l1 :: l2 :: some (.int (Int32.ofInt (x + 1))) :: r, st, g) := mm_s1x (v' := 1) (x_114_58 rfl (by simp only [List.length_cons]; omega)) (by decide) (s1_3 h)
theorem i_115_23 {x : Int} (h : am_n2 l1 = true) : am_E d 115 Q (23, l0 :: l1 :: some (.int (Int32.ofInt x)) :: r, st, g) ↔ am_E d 115 Q (26, l0 :: l1 :: some (.int (Int32.ofInt (x + 1))) :: r, st, g) := mm_s1x (v' := 1) (x_115_23 rfl (by simp only [List.length_cons]; omega)) (by decide) (s1_2 h)
theorem i_115_47 {x : Int} (h : am_n2 l3 = true) : am_E d 115 Q (47, l0 :: l1 :: l2 :: l3 :: some (.int (Int32.ofInt x)) :: r, st, g) ↔ am_E d 115 Q (50, l0 :: l1 :: l2 :: l3 :: some (.int (Int32.ofInt (x + 1))) :: r, st, g) := mm_s1x (v' := 1) (x_115_47 rfl (by simp only [List.length_cons]; omega)) (by decide) (s1_4 h)
theorem i_120_59 {x : Int} (h : am_n2 l4 = true) : am_E d 120 Q (59, l0 :: l1 :: l2 :: l3 :: l4 :: some (.int (Int32.ofInt x)) :: r, st, g) ↔ am_E d 120 Q (62, l0 :: l1 :: l2 :: l3 :: l4 :: some (.int (Int32.ofInt (x + 1))) :: r, st, g) := mm_s1x (v' := 1) (x_120_59 rfl (by simp only [List.length_cons]; omega)) (by decide) (s1_5 h)
theorem i_122_26 {x : Int} (h : am_n2 l2 = true) : am_E d 122 Q (26, l0 :: l1 :: l2 :: some (.int (Int32.ofInt x)) :: r, st, g) ↔ am_E d 122 Q (29, l0 :: l1 :: l2 :: some (.int (Int32.ofInt (x + 1))) :: r, st, g) := mm_s1x (v' := 1) (x_122_26 rfl (by simp only [List.length_cons]; omega)) (by decide) (s1_3 h)
theorem i_123_29 {x : Int} (h : am_n2 l2 = true) : am_E d 123 Q (29, l0 :: l1 :: l2 :: some (.int (Int32.ofInt x)) :: r, st, g) ↔ am_E d 123 Q (32, l0 :: l1 :: l2 :: some (.int (Int32.ofInt (x + 1))) :: r, st, g) := mm_s1x (v' := 1) (x_123_29 rfl (by simp only [List.length_cons]; omega)) (by decide) (s1_3 h)
theorem i_128_24 {x : Int} (h : am_n2 l1 = true) : am_E d 128 Q (24, l0 :: l1 :: some (.int (Int32.ofInt x)) :: r, st, g) ↔ am_E d 128 Q (27, l0 :: l1 :: some (.int (Int32.ofInt (x + 1))) :: r, st, g) := mm_s1x (v' := 1) (x_128_24 rfl (by simp only [List.length_cons]; omega)) (by decide) (s1_2 h)
theorem i_131_1 : am_E d 131 Q (1, L, st, g) ↔ am_E d 131 Q (4, L, .ref 1 :: st, g) := (x_131_1).trans (by
  unfold am_S
  dsimp only
  rw [s_131_18]
  exact Iff.rfl)
theorem i_132_8 : am_E d 132 Q (8, L, st, g) ↔ am_E d 132 Q (11, L, .ref 1 :: st, g) := (x_132_8).trans (by
  unfold am_S
  dsimp only
  rw [s_132_18]
  exact Iff.rfl)
theorem i_135_45 {x : Int} (h : am_n2 l1 = true) : am_E d 135 Q (45, l0 :: l1 :: some (.int (Int32.ofInt x)) :: r, st, g) ↔ am_E d 135 Q (48, l0 :: l1 :: some (.int (Int32.ofInt (x + 1))) :: r, st, g) := mm_s1x (v' := 1) (x_135_45 rfl (by simp only [List.length_cons]; omega)) (by decide) (s1_2 h)
theorem i_136_56 {x : Int} (h : am_n2 l1 = true) : am_E d 136 Q (56, l0 :: l1 :: some (.int (Int32.ofInt x)) :: r, st, g) ↔ am_E d 136 Q (59, l0 :: l1 :: some (.int (Int32.ofInt (x + 1))) :: r, st, g) := mm_s1x (v' := 1) (x_136_56 rfl (by simp only [List.length_cons]; omega)) (by decide) (s1_2 h)
theorem i_137_38 {x : Int} (h : am_n2 l1 = true) : am_E d 137 Q (38, l0 :: l1 :: some (.int (Int32.ofInt x)) :: r, st, g) ↔ am_E d 137 Q (41, l0 :: l1 :: some (.int (Int32.ofInt (x + 1))) :: r, st, g) := mm_s1x (v' := 1) (x_137_38 rfl (by simp only [List.length_cons]; omega)) (by decide) (s1_2 h)
theorem i_138_79 {x : Int} (h : am_n2 l1 = true) : am_E d 138 Q (79, l0 :: l1 :: some (.int (Int32.ofInt x)) :: r, st, g) ↔ am_E d 138 Q (82, l0 :: l1 :: some (.int (Int32.ofInt (x + 1))) :: r, st, g) := mm_s1x (v' := 1) (x_138_79 rfl (by simp only [List.length_cons]; omega)) (by decide) (s1_2 h)
theorem i_138_73 {x : Int} (h : am_n2 l3 = true) : am_E d 138 Q (73, l0 :: l1 :: l2 :: l3 :: some (.int (Int32.ofInt x)) :: r, st, g) ↔ am_E d 138 Q (76, l0 :: l1 :: l2 :: l3 :: some (.int (Int32.ofInt (x + 1))) :: r, st, g) := mm_s1x (v' := 1) (x_138_73 rfl (by simp only [List.length_cons]; omega)) (by decide) (s1_4 h)
theorem i_139_38 : am_E d 139 Q (38, L, st, g) ↔ am_E d 139 Q (41, L, .ref 1 :: st, g) := (x_139_38).trans (by
  unfold am_S
  dsimp only
  rw [s_139_83]
  exact Iff.rfl)
theorem i_139_46 {x : Int} (h : am_n2 l2 = true) : am_E d 139 Q (46, l0 :: l1 :: l2 :: some (.int (Int32.ofInt x)) :: r, st, g) ↔ am_E d 139 Q (49, l0 :: l1 :: l2 :: some (.int (Int32.ofInt (x + 1))) :: r, st, g) := mm_s1x (v' := 1) (x_139_46 rfl (by simp only [List.length_cons]; omega)) (by decide) (s1_3 h)
theorem i_140_96 {x : Int} (h : am_n2 l6 = true) : am_E d 140 Q (96, l0 :: l1 :: l2 :: l3 :: l4 :: l5 :: l6 :: some (.int (Int32.ofInt x)) :: r, st, g) ↔ am_E d 140 Q (99, l0 :: l1 :: l2 :: l3 :: l4 :: l5 :: l6 :: some (.int (Int32.ofInt (x + 1))) :: r, st, g) := mm_s1x (v' := 1) (x_140_96 rfl (by simp only [List.length_cons]; omega)) (by decide) (s1_7 h)
theorem i_141_11 : am_E d 141 Q (11, L, st, g) ↔ am_E d 141 Q (13, L, .int (Int32.ofInt (-2147483648)) :: st, g) := (x_141_11).trans (by
  unfold am_S
  dsimp only
  rw [k_141_110]
  exact Iff.rfl)
theorem i_145_18 {x : Int} (h : am_n2 l1 = true) : am_E d 145 Q (18, l0 :: l1 :: some (.int (Int32.ofInt x)) :: r, st, g) ↔ am_E d 145 Q (21, l0 :: l1 :: some (.int (Int32.ofInt (x + 1))) :: r, st, g) := mm_s1x (v' := 1) (x_145_18 rfl (by simp only [List.length_cons]; omega)) (by decide) (s1_2 h)
theorem i_146_18 {x : Int} (h : am_n2 l2 = true) : am_E d 146 Q (18, l0 :: l1 :: l2 :: some (.int (Int32.ofInt x)) :: r, st, g) ↔ am_E d 146 Q (21, l0 :: l1 :: l2 :: some (.int (Int32.ofInt (x + 1))) :: r, st, g) := mm_s1x (v' := 1) (x_146_18 rfl (by simp only [List.length_cons]; omega)) (by decide) (s1_3 h)
theorem i_151_30 {x : Int} (h : am_n2 l3 = true) : am_E d 151 Q (30, l0 :: l1 :: l2 :: l3 :: some (.int (Int32.ofInt x)) :: r, st, g) ↔ am_E d 151 Q (33, l0 :: l1 :: l2 :: l3 :: some (.int (Int32.ofInt (x + 1))) :: r, st, g) := mm_s1x (v' := 1) (x_151_30 rfl (by simp only [List.length_cons]; omega)) (by decide) (s1_4 h)
theorem i_152_16 {x : Int} (h : am_n2 l1 = true) : am_E d 152 Q (16, l0 :: l1 :: some (.int (Int32.ofInt x)) :: r, st, g) ↔ am_E d 152 Q (19, l0 :: l1 :: some (.int (Int32.ofInt (x + (-1)))) :: r, st, g) := mm_s1x (v' := (-1)) (x_152_16 rfl (by simp only [List.length_cons]; omega)) (by decide) (s1_2 h)
theorem i_155_82 {x : Int} (h : am_n2 l2 = true) : am_E d 155 Q (82, l0 :: l1 :: l2 :: some (.int (Int32.ofInt x)) :: r, st, g) ↔ am_E d 155 Q (85, l0 :: l1 :: l2 :: some (.int (Int32.ofInt (x + 1))) :: r, st, g) := mm_s1x (v' := 1) (x_155_82 rfl (by simp only [List.length_cons]; omega)) (by decide) (s1_3 h)
theorem i_158_62 {x : Int} (h : am_n2 l3 = true) : am_E d 158 Q (62, l0 :: l1 :: l2 :: l3 :: some (.int (Int32.ofInt x)) :: r, st, g) ↔ am_E d 158 Q (65, l0 :: l1 :: l2 :: l3 :: some (.int (Int32.ofInt (x + 1))) :: r, st, g) := mm_s1x (v' := 1) (x_158_62 rfl (by simp only [List.length_cons]; omega)) (by decide) (s1_4 h)
theorem i_164_63 {x : Int} (h : am_n2 l4 = true) : am_E d 164 Q (63, l0 :: l1 :: l2 :: l3 :: l4 :: some (.int (Int32.ofInt x)) :: r, st, g) ↔ am_E d 164 Q (66, l0 :: l1 :: l2 :: l3 :: l4 :: some (.int (Int32.ofInt (x + 1))) :: r, st, g) := mm_s1x (v' := 1) (x_164_63 rfl (by simp only [List.length_cons]; omega)) (by decide) (s1_5 h)
theorem i_165_180 : am_E d 165 Q (180, L, st, g) ↔ am_E d 165 Q (183, L, .long (Int64.ofInt (1000)) :: st, g) := (x_165_180).trans (by
  unfold am_S
  dsimp only
  rw [k_165_382]
  exact Iff.rfl)
theorem i_165_150 : am_E d 165 Q (150, L, st, g) ↔ am_E d 165 Q (153, L, .long (Int64.ofInt (1000)) :: st, g) := (x_165_150).trans (by
  unfold am_S
  dsimp only
  rw [k_165_382]
  exact Iff.rfl)
theorem i_166_27 {x : Int} : am_E d 166 Q (27, L, .int (Int32.ofInt x) :: st, g) ↔ (if mm_w (x) = 3 then am_E d 166 Q (64, L, st, g) else (if mm_w (x) = 4 then am_E d 166 Q (69, L, st, g) else (if mm_w (x) = 5 then am_E d 166 Q (74, L, st, g) else (if mm_w (x) = 6 then am_E d 166 Q (79, L, st, g) else (if mm_w (x) = 7 then am_E d 166 Q (84, L, st, g) else (if mm_w (x) = 8 then am_E d 166 Q (94, L, st, g) else am_E d 166 Q (99, L, st, g))))))) := (x_166_27).trans (by
  unfold am_S
  dsimp only
  unfold mm_w
  generalize (Int32.ofInt x).toInt = t
  by_cases h0 : t = 3
  · rw [if_pos h0, h0]; exact Iff.rfl
  rw [if_neg h0]
  by_cases h1 : t = 4
  · rw [if_pos h1, h1]; exact Iff.rfl
  rw [if_neg h1]
  by_cases h2 : t = 5
  · rw [if_pos h2, h2]; exact Iff.rfl
  rw [if_neg h2]
  by_cases h3 : t = 6
  · rw [if_pos h3, h3]; exact Iff.rfl
  rw [if_neg h3]
  by_cases h4 : t = 7
  · rw [if_pos h4, h4]; exact Iff.rfl
  rw [if_neg h4]
  by_cases h5 : t = 8
  · rw [if_pos h5, h5]; exact Iff.rfl
  rw [if_neg h5]
  rw [if_pos (by omega)]
  exact Iff.rfl)
theorem i_168_44 {x : Int} (h : am_n2 l2 = true) : am_E d 168 Q (44, l0 :: l1 :: l2 :: some (.int (Int32.ofInt x)) :: r, st, g) ↔ am_E d 168 Q (47, l0 :: l1 :: l2 :: some (.int (Int32.ofInt (x + 1))) :: r, st, g) := mm_s1x (v' := 1) (x_168_44 rfl (by simp only [List.length_cons]; omega)) (by decide) (s1_3 h)
theorem i_168_47 {x : Int} (h : am_n2 l4 = true) : am_E d 168 Q (47, l0 :: l1 :: l2 :: l3 :: l4 :: some (.int (Int32.ofInt x)) :: r, st, g) ↔ am_E d 168 Q (50, l0 :: l1 :: l2 :: l3 :: l4 :: some (.int (Int32.ofInt (x + 1))) :: r, st, g) := mm_s1x (v' := 1) (x_168_47 rfl (by simp only [List.length_cons]; omega)) (by decide) (s1_5 h)
theorem i_169_91 {x : Int} (h : am_n2 l3 = true) : am_E d 169 Q (91, l0 :: l1 :: l2 :: l3 :: some (.int (Int32.ofInt x)) :: r, st, g) ↔ am_E d 169 Q (94, l0 :: l1 :: l2 :: l3 :: some (.int (Int32.ofInt (x + 1))) :: r, st, g) := mm_s1x (v' := 1) (x_169_91 rfl (by simp only [List.length_cons]; omega)) (by decide) (s1_4 h)
theorem i_169_94 {x : Int} (h : am_n2 l4 = true) : am_E d 169 Q (94, l0 :: l1 :: l2 :: l3 :: l4 :: some (.int (Int32.ofInt x)) :: r, st, g) ↔ am_E d 169 Q (97, l0 :: l1 :: l2 :: l3 :: l4 :: some (.int (Int32.ofInt (x + 1))) :: r, st, g) := mm_s1x (v' := 1) (x_169_94 rfl (by simp only [List.length_cons]; omega)) (by decide) (s1_5 h)
theorem i_170_67 {x : Int} (h : am_n2 l1 = true) : am_E d 170 Q (67, l0 :: l1 :: some (.int (Int32.ofInt x)) :: r, st, g) ↔ am_E d 170 Q (70, l0 :: l1 :: some (.int (Int32.ofInt (x + 1))) :: r, st, g) := mm_s1x (v' := 1) (x_170_67 rfl (by simp only [List.length_cons]; omega)) (by decide) (s1_2 h)
theorem i_170_112 {x : Int} (h : am_n2 l2 = true) : am_E d 170 Q (112, l0 :: l1 :: l2 :: some (.int (Int32.ofInt x)) :: r, st, g) ↔ am_E d 170 Q (115, l0 :: l1 :: l2 :: some (.int (Int32.ofInt (x + 1))) :: r, st, g) := mm_s1x (v' := 1) (x_170_112 rfl (by simp only [List.length_cons]; omega)) (by decide) (s1_3 h)
theorem i_171_91 {x : Int} (h : am_n2 l2 = true) : am_E d 171 Q (91, l0 :: l1 :: l2 :: some (.int (Int32.ofInt x)) :: r, st, g) ↔ am_E d 171 Q (94, l0 :: l1 :: l2 :: some (.int (Int32.ofInt (x + 1))) :: r, st, g) := mm_s1x (v' := 1) (x_171_91 rfl (by simp only [List.length_cons]; omega)) (by decide) (s1_3 h)
theorem i_171_208 {x : Int} (h : am_n2 l2 = true) : am_E d 171 Q (208, l0 :: l1 :: l2 :: some (.int (Int32.ofInt x)) :: r, st, g) ↔ am_E d 171 Q (211, l0 :: l1 :: l2 :: some (.int (Int32.ofInt (x + 1))) :: r, st, g) := mm_s1x (v' := 1) (x_171_208 rfl (by simp only [List.length_cons]; omega)) (by decide) (s1_3 h)
theorem i_171_278 {x : Int} (h : am_n2 l1 = true) : am_E d 171 Q (278, l0 :: l1 :: some (.int (Int32.ofInt x)) :: r, st, g) ↔ am_E d 171 Q (281, l0 :: l1 :: some (.int (Int32.ofInt (x + 1))) :: r, st, g) := mm_s1x (v' := 1) (x_171_278 rfl (by simp only [List.length_cons]; omega)) (by decide) (s1_2 h)
theorem i_171_272 {x : Int} (h : am_n2 l2 = true) : am_E d 171 Q (272, l0 :: l1 :: l2 :: some (.int (Int32.ofInt x)) :: r, st, g) ↔ am_E d 171 Q (275, l0 :: l1 :: l2 :: some (.int (Int32.ofInt (x + 1))) :: r, st, g) := mm_s1x (v' := 1) (x_171_272 rfl (by simp only [List.length_cons]; omega)) (by decide) (s1_3 h)
theorem i_173_17 {x : Int} (h : am_n2 l0 = true) : am_E d 173 Q (17, l0 :: some (.int (Int32.ofInt x)) :: r, st, g) ↔ am_E d 173 Q (20, l0 :: some (.int (Int32.ofInt (x + (-1)))) :: r, st, g) := mm_s1x (v' := (-1)) (x_173_17 rfl (by simp only [List.length_cons]; omega)) (by decide) (s1_1 h)
theorem i_178_153 {x y : UInt32} : am_E d 178 Q (153, L, .float y :: .float x :: st, g) ↔ if FP.fdiv x y &&& 0x7fffffff ≤ 0x7f800000 then am_E d 178 Q (154, L, .float (FP.fdiv x y) :: st, g) else False := am_E_fdiv (by decide +kernel : am_dc 178 153 = some .fdiv) rfl
theorem i_178_131 {x : Int} (h : am_n2 l3 = true) : am_E d 178 Q (131, l0 :: l1 :: l2 :: l3 :: some (.int (Int32.ofInt x)) :: r, st, g) ↔ am_E d 178 Q (134, l0 :: l1 :: l2 :: l3 :: some (.int (Int32.ofInt (x + 1))) :: r, st, g) := mm_s1x (v' := 1) (x_178_131 rfl (by simp only [List.length_cons]; omega)) (by decide) (s1_4 h)
theorem i_179_27 {x : Int} (h : am_n2 l3 = true) : am_E d 179 Q (27, l0 :: l1 :: l2 :: l3 :: some (.int (Int32.ofInt x)) :: r, st, g) ↔ am_E d 179 Q (30, l0 :: l1 :: l2 :: l3 :: some (.int (Int32.ofInt (x + 1))) :: r, st, g) := mm_s1x (v' := 1) (x_179_27 rfl (by simp only [List.length_cons]; omega)) (by decide) (s1_4 h)
theorem i_179_79 {x : Int} (h : am_n2 l2 = true) : am_E d 179 Q (79, l0 :: l1 :: l2 :: some (.int (Int32.ofInt x)) :: r, st, g) ↔ am_E d 179 Q (82, l0 :: l1 :: l2 :: some (.int (Int32.ofInt (x + 1))) :: r, st, g) := mm_s1x (v' := 1) (x_179_79 rfl (by simp only [List.length_cons]; omega)) (by decide) (s1_3 h)
theorem i_179_82 {x : Int} (h : am_n2 l3 = true) : am_E d 179 Q (82, l0 :: l1 :: l2 :: l3 :: some (.int (Int32.ofInt x)) :: r, st, g) ↔ am_E d 179 Q (85, l0 :: l1 :: l2 :: l3 :: some (.int (Int32.ofInt (x + (-1)))) :: r, st, g) := mm_s1x (v' := (-1)) (x_179_82 rfl (by simp only [List.length_cons]; omega)) (by decide) (s1_4 h)
theorem i_179_92 {x : Int} (h : am_n2 l2 = true) : am_E d 179 Q (92, l0 :: l1 :: l2 :: some (.int (Int32.ofInt x)) :: r, st, g) ↔ am_E d 179 Q (95, l0 :: l1 :: l2 :: some (.int (Int32.ofInt (x + (-1)))) :: r, st, g) := mm_s1x (v' := (-1)) (x_179_92 rfl (by simp only [List.length_cons]; omega)) (by decide) (s1_3 h)
theorem i_179_126 {x : Int} (h : am_n2 l1 = true) : am_E d 179 Q (126, l0 :: l1 :: some (.int (Int32.ofInt x)) :: r, st, g) ↔ am_E d 179 Q (129, l0 :: l1 :: some (.int (Int32.ofInt (x + 1))) :: r, st, g) := mm_s1x (v' := 1) (x_179_126 rfl (by simp only [List.length_cons]; omega)) (by decide) (s1_2 h)
theorem i_179_177 {x : Int} (h : am_n2 l2 = true) : am_E d 179 Q (177, l0 :: l1 :: l2 :: some (.int (Int32.ofInt x)) :: r, st, g) ↔ am_E d 179 Q (180, l0 :: l1 :: l2 :: some (.int (Int32.ofInt (x + 1))) :: r, st, g) := mm_s1x (v' := 1) (x_179_177 rfl (by simp only [List.length_cons]; omega)) (by decide) (s1_3 h)
theorem i_179_180 {x : Int} (h : am_n2 l4 = true) : am_E d 179 Q (180, l0 :: l1 :: l2 :: l3 :: l4 :: some (.int (Int32.ofInt x)) :: r, st, g) ↔ am_E d 179 Q (183, l0 :: l1 :: l2 :: l3 :: l4 :: some (.int (Int32.ofInt (x + (-1)))) :: r, st, g) := mm_s1x (v' := (-1)) (x_179_180 rfl (by simp only [List.length_cons]; omega)) (by decide) (s1_5 h)
theorem i_186_28 {x : Int} (h : am_n2 l0 = true) : am_E d 186 Q (28, l0 :: some (.int (Int32.ofInt x)) :: r, st, g) ↔ am_E d 186 Q (31, l0 :: some (.int (Int32.ofInt (x + 1))) :: r, st, g) := mm_s1x (v' := 1) (x_186_28 rfl (by simp only [List.length_cons]; omega)) (by decide) (s1_1 h)
theorem i_187_121 {x : Int} (h : am_n2 l3 = true) : am_E d 187 Q (121, l0 :: l1 :: l2 :: l3 :: some (.int (Int32.ofInt x)) :: r, st, g) ↔ am_E d 187 Q (124, l0 :: l1 :: l2 :: l3 :: some (.int (Int32.ofInt (x + 1))) :: r, st, g) := mm_s1x (v' := 1) (x_187_121 rfl (by simp only [List.length_cons]; omega)) (by decide) (s1_4 h)
theorem i_187_115 {x : Int} (h : am_n2 l4 = true) : am_E d 187 Q (115, l0 :: l1 :: l2 :: l3 :: l4 :: some (.int (Int32.ofInt x)) :: r, st, g) ↔ am_E d 187 Q (118, l0 :: l1 :: l2 :: l3 :: l4 :: some (.int (Int32.ofInt (x + 1))) :: r, st, g) := mm_s1x (v' := 1) (x_187_115 rfl (by simp only [List.length_cons]; omega)) (by decide) (s1_5 h)
theorem i_188_22 {x : Int} (h : am_n2 l1 = true) : am_E d 188 Q (22, l0 :: l1 :: some (.int (Int32.ofInt x)) :: r, st, g) ↔ am_E d 188 Q (25, l0 :: l1 :: some (.int (Int32.ofInt (x + 1))) :: r, st, g) := mm_s1x (v' := 1) (x_188_22 rfl (by simp only [List.length_cons]; omega)) (by decide) (s1_2 h)
theorem i_189_21 {x : Int} (h : am_n2 l2 = true) : am_E d 189 Q (21, l0 :: l1 :: l2 :: some (.int (Int32.ofInt x)) :: r, st, g) ↔ am_E d 189 Q (24, l0 :: l1 :: l2 :: some (.int (Int32.ofInt (x + (-1)))) :: r, st, g) := mm_s1x (v' := (-1)) (x_189_21 rfl (by simp only [List.length_cons]; omega)) (by decide) (s1_3 h)
theorem i_190_33 {x : Int} (h : am_n2 l1 = true) : am_E d 190 Q (33, l0 :: l1 :: some (.int (Int32.ofInt x)) :: r, st, g) ↔ am_E d 190 Q (36, l0 :: l1 :: some (.int (Int32.ofInt (x + 1))) :: r, st, g) := mm_s1x (v' := 1) (x_190_33 rfl (by simp only [List.length_cons]; omega)) (by decide) (s1_2 h)
theorem i_197_1 : am_E d 197 Q (1, L, st, g) ↔ am_E d 197 Q (4, L, .long (Int64.ofInt (-2000000000)) :: st, g) := (x_197_1).trans (by
  unfold am_S
  dsimp only
  rw [k_197_295]
  exact Iff.rfl)
theorem i_197_9 : am_E d 197 Q (9, L, st, g) ↔ am_E d 197 Q (12, L, .long (Int64.ofInt (2000000000)) :: st, g) := (x_197_9).trans (by
  unfold am_S
  dsimp only
  rw [k_197_297]
  exact Iff.rfl)
theorem i_199_49 {x : Int} (h : am_n2 l0 = true) : am_E d 199 Q (49, l0 :: some (.int (Int32.ofInt x)) :: r, st, g) ↔ am_E d 199 Q (52, l0 :: some (.int (Int32.ofInt (x + 1))) :: r, st, g) := mm_s1x (v' := 1) (x_199_49 rfl (by simp only [List.length_cons]; omega)) (by decide) (s1_1 h)
theorem i_201_29 {x : Int} (h : am_n2 l2 = true) : am_E d 201 Q (29, l0 :: l1 :: l2 :: some (.int (Int32.ofInt x)) :: r, st, g) ↔ am_E d 201 Q (32, l0 :: l1 :: l2 :: some (.int (Int32.ofInt (x + 1))) :: r, st, g) := mm_s1x (v' := 1) (x_201_29 rfl (by simp only [List.length_cons]; omega)) (by decide) (s1_3 h)
theorem i_203_1 {x : Int} : am_E d 203 Q (1, L, .int (Int32.ofInt x) :: st, g) ↔ (if mm_w (x) = 1 then am_E d 203 Q (28, L, st, g) else (if mm_w (x) = 2 then am_E d 203 Q (79, L, st, g) else (if mm_w (x) = 3 then am_E d 203 Q (120, L, st, g) else am_E d 203 Q (161, L, st, g)))) := (x_203_1).trans (by
  unfold am_S
  dsimp only
  unfold mm_w
  generalize (Int32.ofInt x).toInt = t
  by_cases h0 : t = 1
  · rw [if_pos h0, h0]; exact Iff.rfl
  rw [if_neg h0]
  by_cases h1 : t = 2
  · rw [if_pos h1, h1]; exact Iff.rfl
  rw [if_neg h1]
  by_cases h2 : t = 3
  · rw [if_pos h2, h2]; exact Iff.rfl
  rw [if_neg h2]
  rw [if_pos (by omega)]
  exact Iff.rfl)
theorem i_204_32 {x : Int} (h : am_n2 l2 = true) : am_E d 204 Q (32, l0 :: l1 :: l2 :: some (.int (Int32.ofInt x)) :: r, st, g) ↔ am_E d 204 Q (35, l0 :: l1 :: l2 :: some (.int (Int32.ofInt (x + 1))) :: r, st, g) := mm_s1x (v' := 1) (x_204_32 rfl (by simp only [List.length_cons]; omega)) (by decide) (s1_3 h)
theorem i_205_91 {x : Int} (h : am_n2 l4 = true) : am_E d 205 Q (91, l0 :: l1 :: l2 :: l3 :: l4 :: some (.int (Int32.ofInt x)) :: r, st, g) ↔ am_E d 205 Q (94, l0 :: l1 :: l2 :: l3 :: l4 :: some (.int (Int32.ofInt (x + 1))) :: r, st, g) := mm_s1x (v' := 1) (x_205_91 rfl (by simp only [List.length_cons]; omega)) (by decide) (s1_5 h)
theorem i_209_150 {x : Int} (h : am_n2 l1 = true) : am_E d 209 Q (150, l0 :: l1 :: some (.int (Int32.ofInt x)) :: r, st, g) ↔ am_E d 209 Q (153, l0 :: l1 :: some (.int (Int32.ofInt (x + 1))) :: r, st, g) := mm_s1x (v' := 1) (x_209_150 rfl (by simp only [List.length_cons]; omega)) (by decide) (s1_2 h)
theorem i_209_144 {x : Int} (h : am_n2 l2 = true) : am_E d 209 Q (144, l0 :: l1 :: l2 :: some (.int (Int32.ofInt x)) :: r, st, g) ↔ am_E d 209 Q (147, l0 :: l1 :: l2 :: some (.int (Int32.ofInt (x + 1))) :: r, st, g) := mm_s1x (v' := 1) (x_209_144 rfl (by simp only [List.length_cons]; omega)) (by decide) (s1_3 h)
theorem i_212_130 : am_E d 212 Q (130, L, st, g) ↔ am_E d 212 Q (133, L, .long (Int64.ofInt (1000)) :: st, g) := (x_212_130).trans (by
  unfold am_S
  dsimp only
  rw [k_212_382]
  exact Iff.rfl)
theorem i_215_38 {x : Int} (h : am_n2 l2 = true) : am_E d 215 Q (38, l0 :: l1 :: l2 :: some (.int (Int32.ofInt x)) :: r, st, g) ↔ am_E d 215 Q (41, l0 :: l1 :: l2 :: some (.int (Int32.ofInt (x + 1))) :: r, st, g) := mm_s1x (v' := 1) (x_215_38 rfl (by simp only [List.length_cons]; omega)) (by decide) (s1_3 h)
theorem i_215_133 {x : Int} (h : am_n2 l2 = true) : am_E d 215 Q (133, l0 :: l1 :: l2 :: some (.int (Int32.ofInt x)) :: r, st, g) ↔ am_E d 215 Q (136, l0 :: l1 :: l2 :: some (.int (Int32.ofInt (x + 1))) :: r, st, g) := mm_s1x (v' := 1) (x_215_133 rfl (by simp only [List.length_cons]; omega)) (by decide) (s1_3 h)
theorem i_215_127 {x : Int} (h : am_n2 l3 = true) : am_E d 215 Q (127, l0 :: l1 :: l2 :: l3 :: some (.int (Int32.ofInt x)) :: r, st, g) ↔ am_E d 215 Q (130, l0 :: l1 :: l2 :: l3 :: some (.int (Int32.ofInt (x + 1))) :: r, st, g) := mm_s1x (v' := 1) (x_215_127 rfl (by simp only [List.length_cons]; omega)) (by decide) (s1_4 h)
theorem i_220_67 {x : Int} (h : am_n2 l0 = true) : am_E d 220 Q (67, l0 :: some (.int (Int32.ofInt x)) :: r, st, g) ↔ am_E d 220 Q (70, l0 :: some (.int (Int32.ofInt (x + 1))) :: r, st, g) := mm_s1x (v' := 1) (x_220_67 rfl (by simp only [List.length_cons]; omega)) (by decide) (s1_1 h)
theorem i_221_103 {x : Int} (h : am_n2 l0 = true) : am_E d 221 Q (103, l0 :: some (.int (Int32.ofInt x)) :: r, st, g) ↔ am_E d 221 Q (106, l0 :: some (.int (Int32.ofInt (x + 1))) :: r, st, g) := mm_s1x (v' := 1) (x_221_103 rfl (by simp only [List.length_cons]; omega)) (by decide) (s1_1 h)
theorem i_224_30 : am_E d 224 Q (30, L, st, g) ↔ am_E d 224 Q (33, L, .long (Int64.ofInt (2)) :: st, g) := (x_224_30).trans (by
  unfold am_S
  dsimp only
  rw [k_224_299]
  exact Iff.rfl)
theorem i_224_39 : am_E d 224 Q (39, L, st, g) ↔ am_E d 224 Q (42, L, .long (Int64.ofInt (2)) :: st, g) := (x_224_39).trans (by
  unfold am_S
  dsimp only
  rw [k_224_299]
  exact Iff.rfl)
theorem i_225_82 {x : Int} (h : am_n2 l1 = true) : am_E d 225 Q (82, l0 :: l1 :: some (.int (Int32.ofInt x)) :: r, st, g) ↔ am_E d 225 Q (85, l0 :: l1 :: some (.int (Int32.ofInt (x + 1))) :: r, st, g) := mm_s1x (v' := 1) (x_225_82 rfl (by simp only [List.length_cons]; omega)) (by decide) (s1_2 h)
theorem i_227_70 {x : Int} (h : am_n2 l4 = true) : am_E d 227 Q (70, l0 :: l1 :: l2 :: l3 :: l4 :: some (.int (Int32.ofInt x)) :: r, st, g) ↔ am_E d 227 Q (73, l0 :: l1 :: l2 :: l3 :: l4 :: some (.int (Int32.ofInt (x + 1))) :: r, st, g) := mm_s1x (v' := 1) (x_227_70 rfl (by simp only [List.length_cons]; omega)) (by decide) (s1_5 h)
theorem i_227_73 : am_E d 227 Q (73, L, st, g) ↔ am_E d 227 Q (76, L, .long (Int64.ofInt (1000)) :: st, g) := (x_227_73).trans (by
  unfold am_S
  dsimp only
  rw [k_227_382]
  exact Iff.rfl)
theorem i_227_82 : am_E d 227 Q (82, L, st, g) ↔ am_E d 227 Q (85, L, .long (Int64.ofInt (9)) :: st, g) := (x_227_82).trans (by
  unfold am_S
  dsimp only
  rw [k_227_424]
  exact Iff.rfl)
theorem i_227_91 : am_E d 227 Q (91, L, st, g) ↔ am_E d 227 Q (94, L, .long (Int64.ofInt (10)) :: st, g) := (x_227_91).trans (by
  unfold am_S
  dsimp only
  rw [k_227_426]
  exact Iff.rfl)
theorem i_227_102 : am_E d 227 Q (102, L, st, g) ↔ am_E d 227 Q (105, L, .long (Int64.ofInt (1000)) :: st, g) := (x_227_102).trans (by
  unfold am_S
  dsimp only
  rw [k_227_382]
  exact Iff.rfl)
theorem i_227_144 : am_E d 227 Q (144, L, st, g) ↔ am_E d 227 Q (147, L, .long (Int64.ofInt (1000)) :: st, g) := (x_227_144).trans (by
  unfold am_S
  dsimp only
  rw [k_227_382]
  exact Iff.rfl)
theorem i_227_166 {x : Int} (h : am_n2 l4 = true) : am_E d 227 Q (166, l0 :: l1 :: l2 :: l3 :: l4 :: some (.int (Int32.ofInt x)) :: r, st, g) ↔ am_E d 227 Q (169, l0 :: l1 :: l2 :: l3 :: l4 :: some (.int (Int32.ofInt (x + 1))) :: r, st, g) := mm_s1x (v' := 1) (x_227_166 rfl (by simp only [List.length_cons]; omega)) (by decide) (s1_5 h)
theorem i_227_121 : am_E d 227 Q (121, L, st, g) ↔ am_E d 227 Q (124, L, .long (Int64.ofInt (10)) :: st, g) := (x_227_121).trans (by
  unfold am_S
  dsimp only
  rw [k_227_426]
  exact Iff.rfl)
theorem i_227_129 {x : Int} (h : am_n2 l4 = true) : am_E d 227 Q (129, l0 :: l1 :: l2 :: l3 :: l4 :: some (.int (Int32.ofInt x)) :: r, st, g) ↔ am_E d 227 Q (132, l0 :: l1 :: l2 :: l3 :: l4 :: some (.int (Int32.ofInt (x + 1))) :: r, st, g) := mm_s1x (v' := 1) (x_227_129 rfl (by simp only [List.length_cons]; omega)) (by decide) (s1_5 h)
theorem i_227_134 : am_E d 227 Q (134, L, st, g) ↔ am_E d 227 Q (137, L, .long (Int64.ofInt (10)) :: st, g) := (x_227_134).trans (by
  unfold am_S
  dsimp only
  rw [k_227_426]
  exact Iff.rfl)
theorem i_227_169 : am_E d 227 Q (169, L, st, g) ↔ am_E d 227 Q (172, L, .long (Int64.ofInt (100)) :: st, g) := (x_227_169).trans (by
  unfold am_S
  dsimp only
  rw [k_227_428]
  exact Iff.rfl)
theorem i_227_198 {x : Int} (h : am_n2 l4 = true) : am_E d 227 Q (198, l0 :: l1 :: l2 :: l3 :: l4 :: some (.int (Int32.ofInt x)) :: r, st, g) ↔ am_E d 227 Q (201, l0 :: l1 :: l2 :: l3 :: l4 :: some (.int (Int32.ofInt (x + 1))) :: r, st, g) := mm_s1x (v' := 1) (x_227_198 rfl (by simp only [List.length_cons]; omega)) (by decide) (s1_5 h)
theorem i_227_210 : am_E d 227 Q (210, L, st, g) ↔ am_E d 227 Q (213, L, .long (Int64.ofInt (10)) :: st, g) := (x_227_210).trans (by
  unfold am_S
  dsimp only
  rw [k_227_426]
  exact Iff.rfl)
theorem i_228_47 {x : Int} (h : am_n2 l2 = true) : am_E d 228 Q (47, l0 :: l1 :: l2 :: some (.int (Int32.ofInt x)) :: r, st, g) ↔ am_E d 228 Q (50, l0 :: l1 :: l2 :: some (.int (Int32.ofInt (x + 1))) :: r, st, g) := mm_s1x (v' := 1) (x_228_47 rfl (by simp only [List.length_cons]; omega)) (by decide) (s1_3 h)
theorem i_229_122 {x : Int} (h : am_n2 l8 = true) : am_E d 229 Q (122, l0 :: l1 :: l2 :: l3 :: l4 :: l5 :: l6 :: l7 :: l8 :: some (.int (Int32.ofInt x)) :: r, st, g) ↔ am_E d 229 Q (125, l0 :: l1 :: l2 :: l3 :: l4 :: l5 :: l6 :: l7 :: l8 :: some (.int (Int32.ofInt (x + 1))) :: r, st, g) := mm_s1x (v' := 1) (x_229_122 rfl (by simp only [List.length_cons]; omega)) (by decide) (s1_9 h)
theorem i_229_266 {x : Int} (h : am_n2 l12 = true) : am_E d 229 Q (266, l0 :: l1 :: l2 :: l3 :: l4 :: l5 :: l6 :: l7 :: l8 :: l9 :: l10 :: l11 :: l12 :: some (.int (Int32.ofInt x)) :: r, st, g) ↔ am_E d 229 Q (269, l0 :: l1 :: l2 :: l3 :: l4 :: l5 :: l6 :: l7 :: l8 :: l9 :: l10 :: l11 :: l12 :: some (.int (Int32.ofInt (x + 1))) :: r, st, g) := mm_s1x (v' := 1) (x_229_266 rfl (by simp only [List.length_cons]; omega)) (by decide) (s1_13 h)
theorem i_230_111 {x : Int} (h : am_n2 l2 = true) : am_E d 230 Q (111, l0 :: l1 :: l2 :: some (.int (Int32.ofInt x)) :: r, st, g) ↔ am_E d 230 Q (114, l0 :: l1 :: l2 :: some (.int (Int32.ofInt (x + 1))) :: r, st, g) := mm_s1x (v' := 1) (x_230_111 rfl (by simp only [List.length_cons]; omega)) (by decide) (s1_3 h)
theorem i_230_105 {x : Int} (h : am_n2 l3 = true) : am_E d 230 Q (105, l0 :: l1 :: l2 :: l3 :: some (.int (Int32.ofInt x)) :: r, st, g) ↔ am_E d 230 Q (108, l0 :: l1 :: l2 :: l3 :: some (.int (Int32.ofInt (x + 1))) :: r, st, g) := mm_s1x (v' := 1) (x_230_105 rfl (by simp only [List.length_cons]; omega)) (by decide) (s1_4 h)
theorem i_230_96 {x : Int} (h : am_n2 l1 = true) : am_E d 230 Q (96, l0 :: l1 :: some (.int (Int32.ofInt x)) :: r, st, g) ↔ am_E d 230 Q (99, l0 :: l1 :: some (.int (Int32.ofInt (x + 1))) :: r, st, g) := mm_s1x (v' := 1) (x_230_96 rfl (by simp only [List.length_cons]; omega)) (by decide) (s1_2 h)
theorem i_230_99 {x : Int} (h : am_n2 l4 = true) : am_E d 230 Q (99, l0 :: l1 :: l2 :: l3 :: l4 :: some (.int (Int32.ofInt x)) :: r, st, g) ↔ am_E d 230 Q (102, l0 :: l1 :: l2 :: l3 :: l4 :: some (.int (Int32.ofInt (x + 1))) :: r, st, g) := mm_s1x (v' := 1) (x_230_99 rfl (by simp only [List.length_cons]; omega)) (by decide) (s1_5 h)
theorem i_233_71 {x : Int} (h : am_n2 l4 = true) : am_E d 233 Q (71, l0 :: l1 :: l2 :: l3 :: l4 :: some (.int (Int32.ofInt x)) :: r, st, g) ↔ am_E d 233 Q (74, l0 :: l1 :: l2 :: l3 :: l4 :: some (.int (Int32.ofInt (x + 1))) :: r, st, g) := mm_s1x (v' := 1) (x_233_71 rfl (by simp only [List.length_cons]; omega)) (by decide) (s1_5 h)
theorem i_235_240 {x : Int} (h : am_n2 l5 = true) : am_E d 235 Q (240, l0 :: l1 :: l2 :: l3 :: l4 :: l5 :: some (.int (Int32.ofInt x)) :: r, st, g) ↔ am_E d 235 Q (243, l0 :: l1 :: l2 :: l3 :: l4 :: l5 :: some (.int (Int32.ofInt (x + 1))) :: r, st, g) := mm_s1x (v' := 1) (x_235_240 rfl (by simp only [List.length_cons]; omega)) (by decide) (s1_6 h)
theorem i_238_38 {x : Int} (h : am_n2 l4 = true) : am_E d 238 Q (38, l0 :: l1 :: l2 :: l3 :: l4 :: some (.int (Int32.ofInt x)) :: r, st, g) ↔ am_E d 238 Q (41, l0 :: l1 :: l2 :: l3 :: l4 :: some (.int (Int32.ofInt (x + 1))) :: r, st, g) := mm_s1x (v' := 1) (x_238_38 rfl (by simp only [List.length_cons]; omega)) (by decide) (s1_5 h)
theorem i_239_109 {x : Int} (h : am_n2 l0 = true) : am_E d 239 Q (109, l0 :: some (.int (Int32.ofInt x)) :: r, st, g) ↔ am_E d 239 Q (112, l0 :: some (.int (Int32.ofInt (x + 1))) :: r, st, g) := mm_s1x (v' := 1) (x_239_109 rfl (by simp only [List.length_cons]; omega)) (by decide) (s1_1 h)
theorem i_243_89 {x : Int} (h : am_n2 l2 = true) : am_E d 243 Q (89, l0 :: l1 :: l2 :: some (.int (Int32.ofInt x)) :: r, st, g) ↔ am_E d 243 Q (92, l0 :: l1 :: l2 :: some (.int (Int32.ofInt (x + 1))) :: r, st, g) := mm_s1x (v' := 1) (x_243_89 rfl (by simp only [List.length_cons]; omega)) (by decide) (s1_3 h)
theorem i_245_32 {x : Int} (h : am_n2 l2 = true) : am_E d 245 Q (32, l0 :: l1 :: l2 :: some (.int (Int32.ofInt x)) :: r, st, g) ↔ am_E d 245 Q (35, l0 :: l1 :: l2 :: some (.int (Int32.ofInt (x + 1))) :: r, st, g) := mm_s1x (v' := 1) (x_245_32 rfl (by simp only [List.length_cons]; omega)) (by decide) (s1_3 h)
end AMI
