/-! Locals by place; arithmetic of the machine as integers. Written by program (wip/gen/gen41.py). -/
section MA
variable {a b : Int} {x y : Int32} {u v : Int64} {A B : Nat}
theorem mm_ad : Int32.ofInt a + Int32.ofInt b = Int32.ofInt (a + b) := (Int32.ofInt_add a b).symm
theorem mm_sb : Int32.ofInt a - Int32.ofInt b = Int32.ofInt (a - b) := (Int32.ofInt_sub a b).symm
theorem mm_ml : Int32.ofInt a * Int32.ofInt b = Int32.ofInt (a * b) := (Int32.ofInt_mul a b).symm
theorem mm_ng : - Int32.ofInt a = Int32.ofInt (-a) := (Int32.ofInt_neg a).symm
theorem mm_ad8 : Int64.ofInt a + Int64.ofInt b = Int64.ofInt (a + b) := (Int64.ofInt_add a b).symm
theorem mm_sb8 : Int64.ofInt a - Int64.ofInt b = Int64.ofInt (a - b) := (Int64.ofInt_sub a b).symm
theorem mm_ml8 : Int64.ofInt a * Int64.ofInt b = Int64.ofInt (a * b) := (Int64.ofInt_mul a b).symm
theorem mm_ng8 : - Int64.ofInt a = Int64.ofInt (-a) := (Int64.ofInt_neg a).symm
theorem mm_dvx : Int32.ofInt a / Int32.ofInt b = Int32.ofInt (mm_dv a b) := (Int32.ofInt_toInt _).symm
theorem mm_d8x : Int64.ofInt a / Int64.ofInt b = Int64.ofInt (mm_d8 a b) := (Int64.ofInt_toInt _).symm
theorem mm_anx : Int32.ofInt a &&& Int32.ofInt b = Int32.ofInt (mm_an a b) := (Int32.ofInt_toInt _).symm
theorem mm_chx : ((Int32.ofInt a).toUInt32 % 65536).toInt32 = Int32.ofInt (mm_ch a) := (Int32.ofInt_toInt _).symm
theorem mm_il : (Int32.ofInt a).toInt64 = Int64.ofInt (mm_w a) := rfl
theorem mm_li : (Int64.ofInt a).toInt32 = Int32.ofInt a := Int64.toInt32_ofInt
theorem mm_no : Int32.ofNat A = Int32.ofInt (A : Int) := Int32.ofInt_eq_ofNat.symm
theorem mm_lt8 : (lg_cmp u v < Int32.ofInt 0) = (u < v) := propext (lg_cmp_lt u v)
theorem mm_gt8 : (Int32.ofInt 0 < lg_cmp u v) = (v < u) := propext (lg_cmp_gt u v)
theorem mm_le8 : (lg_cmp u v ≤ Int32.ofInt 0) = (u ≤ v) := propext (lg_cmp_le u v)
theorem mm_ge8 : (Int32.ofInt 0 ≤ lg_cmp u v) = (v ≤ u) := propext (lg_cmp_ge u v)
theorem mm_eq8 : (lg_cmp u v = Int32.ofInt 0) = (u = v) := propext (lg_cmp_eq u v)
theorem mm_ne8 : (lg_cmp u v = Int32.ofInt 0) = (u = v) := propext (lg_cmp_eq u v)
theorem mm_okb0 : (am_ok .boolean (.int (Int32.ofInt 0)) = true) = True := eq_true rfl
theorem mm_okb1 : (am_ok .boolean (.int (Int32.ofInt 1)) = true) = True := eq_true rfl
theorem mm_oki : (am_ok .int (.int x) = true) = True := eq_true rfl
theorem mm_oko {s : String} {a : Nat} : (am_ok (.object s) (.ref a) = true) = True := eq_true rfl
theorem mm_n2i : (am_n2 (some (.int x)) = true) = True := eq_true rfl
theorem mm_n2r {a : Nat} : (am_n2 (some (.ref a)) = true) = True := eq_true rfl
theorem mm_n2n : (am_n2 none = true) = True := eq_true rfl
theorem mm_n2f {e : UInt32} : (am_n2 (some (.float e)) = true) = True := eq_true rfl
theorem mm_cai : (Value.category (.int x) = 1) = True := eq_true rfl
theorem mm_car {a : Nat} : (Value.category (.ref a) = 1) = True := eq_true rfl
theorem mm_L0 : (0 : Int32) = Int32.ofInt 0 := by decide
theorem mm_L1 : (1 : Int32) = Int32.ofInt 1 := by decide
theorem mm_L2 : (2 : Int32) = Int32.ofInt 2 := by decide
theorem mm_L3 : (3 : Int32) = Int32.ofInt 3 := by decide
theorem mm_L4 : (4 : Int32) = Int32.ofInt 4 := by decide
theorem mm_L5 : (5 : Int32) = Int32.ofInt 5 := by decide
theorem mm_L6 : (6 : Int32) = Int32.ofInt 6 := by decide
theorem mm_L7 : (7 : Int32) = Int32.ofInt 7 := by decide
theorem mm_L8 : (8 : Int32) = Int32.ofInt 8 := by decide
theorem mm_L9 : (9 : Int32) = Int32.ofInt 9 := by decide
theorem mm_L10 : (10 : Int32) = Int32.ofInt 10 := by decide
theorem mm_L11 : (11 : Int32) = Int32.ofInt 11 := by decide
theorem mm_L12 : (12 : Int32) = Int32.ofInt 12 := by decide
theorem mm_L15 : (15 : Int32) = Int32.ofInt 15 := by decide
theorem mm_L16 : (16 : Int32) = Int32.ofInt 16 := by decide
theorem mm_L18 : (18 : Int32) = Int32.ofInt 18 := by decide
theorem mm_L20 : (20 : Int32) = Int32.ofInt 20 := by decide
theorem mm_L23 : (23 : Int32) = Int32.ofInt 23 := by decide
theorem mm_L24 : (24 : Int32) = Int32.ofInt 24 := by decide
theorem mm_L31 : (31 : Int32) = Int32.ofInt 31 := by decide
theorem mm_L32 : (32 : Int32) = Int32.ofInt 32 := by decide
theorem mm_L36 : (36 : Int32) = Int32.ofInt 36 := by decide
theorem mm_L40 : (40 : Int32) = Int32.ofInt 40 := by decide
theorem mm_L41 : (41 : Int32) = Int32.ofInt 41 := by decide
theorem mm_L42 : (42 : Int32) = Int32.ofInt 42 := by decide
theorem mm_L43 : (43 : Int32) = Int32.ofInt 43 := by decide
theorem mm_L45 : (45 : Int32) = Int32.ofInt 45 := by decide
theorem mm_L46 : (46 : Int32) = Int32.ofInt 46 := by decide
theorem mm_L47 : (47 : Int32) = Int32.ofInt 47 := by decide
theorem mm_L48 : (48 : Int32) = Int32.ofInt 48 := by decide
theorem mm_L50 : (50 : Int32) = Int32.ofInt 50 := by decide
theorem mm_L53 : (53 : Int32) = Int32.ofInt 53 := by decide
theorem mm_L57 : (57 : Int32) = Int32.ofInt 57 := by decide
theorem mm_L58 : (58 : Int32) = Int32.ofInt 58 := by decide
theorem mm_L60 : (60 : Int32) = Int32.ofInt 60 := by decide
theorem mm_L62 : (62 : Int32) = Int32.ofInt 62 := by decide
theorem mm_L63 : (63 : Int32) = Int32.ofInt 63 := by decide
theorem mm_L64 : (64 : Int32) = Int32.ofInt 64 := by decide
theorem mm_L65 : (65 : Int32) = Int32.ofInt 65 := by decide
theorem mm_L94 : (94 : Int32) = Int32.ofInt 94 := by decide
theorem mm_L97 : (97 : Int32) = Int32.ofInt 97 := by decide
theorem mm_L99 : (99 : Int32) = Int32.ofInt 99 := by decide
theorem mm_L100 : (100 : Int32) = Int32.ofInt 100 := by decide
theorem mm_L101 : (101 : Int32) = Int32.ofInt 101 := by decide
theorem mm_L103 : (103 : Int32) = Int32.ofInt 103 := by decide
theorem mm_L105 : (105 : Int32) = Int32.ofInt 105 := by decide
theorem mm_L109 : (109 : Int32) = Int32.ofInt 109 := by decide
theorem mm_L110 : (110 : Int32) = Int32.ofInt 110 := by decide
theorem mm_L111 : (111 : Int32) = Int32.ofInt 111 := by decide
theorem mm_L112 : (112 : Int32) = Int32.ofInt 112 := by decide
theorem mm_L114 : (114 : Int32) = Int32.ofInt 114 := by decide
theorem mm_L116 : (116 : Int32) = Int32.ofInt 116 := by decide
theorem mm_L118 : (118 : Int32) = Int32.ofInt 118 := by decide
theorem mm_L120 : (120 : Int32) = Int32.ofInt 120 := by decide
theorem mm_L121 : (121 : Int32) = Int32.ofInt 121 := by decide
theorem mm_L122 : (122 : Int32) = Int32.ofInt 122 := by decide
theorem mm_L128 : (128 : Int32) = Int32.ofInt 128 := by decide
theorem mm_L200 : (200 : Int32) = Int32.ofInt 200 := by decide
theorem mm_L216 : (216 : Int32) = Int32.ofInt 216 := by decide
theorem mm_L255 : (255 : Int32) = Int32.ofInt 255 := by decide
theorem mm_L256 : (256 : Int32) = Int32.ofInt 256 := by decide
theorem mm_L300 : (300 : Int32) = Int32.ofInt 300 := by decide
theorem mm_L512 : (512 : Int32) = Int32.ofInt 512 := by decide
theorem mm_L640 : (640 : Int32) = Int32.ofInt 640 := by decide
theorem mm_L648 : (648 : Int32) = Int32.ofInt 648 := by decide
theorem mm_L999 : (999 : Int32) = Int32.ofInt 999 := by decide
theorem mm_L1000 : (1000 : Int32) = Int32.ofInt 1000 := by decide
theorem mm_L2000 : (2000 : Int32) = Int32.ofInt 2000 := by decide
theorem mm_L2592 : (2592 : Int32) = Int32.ofInt 2592 := by decide
theorem mm_L65535 : (65535 : Int32) = Int32.ofInt 65535 := by decide
theorem mm_L65536 : (65536 : Int32) = Int32.ofInt 65536 := by decide
theorem mm_J0 : (0 : Int64) = Int64.ofInt 0 := by decide
theorem mm_J1 : (1 : Int64) = Int64.ofInt 1 := by decide
theorem mm_J2 : (2 : Int64) = Int64.ofInt 2 := by decide
theorem mm_J9 : (9 : Int64) = Int64.ofInt 9 := by decide
theorem mm_J10 : (10 : Int64) = Int64.ofInt 10 := by decide
theorem mm_J100 : (100 : Int64) = Int64.ofInt 100 := by decide
theorem mm_J1000 : (1000 : Int64) = Int64.ofInt 1000 := by decide
theorem mm_N2 : (Int32.ofInt 2 = Int32.ofInt 0) = False := eq_false (by decide)
theorem mm_N3 : (Int32.ofInt 3 = Int32.ofInt 0) = False := eq_false (by decide)
theorem mm_N5 : (Int32.ofInt 5 = Int32.ofInt 0) = False := eq_false (by decide)
theorem mm_N6 : (Int32.ofInt 6 = Int32.ofInt 0) = False := eq_false (by decide)
theorem mm_N10 : (Int32.ofInt 10 = Int32.ofInt 0) = False := eq_false (by decide)
theorem mm_N12 : (Int32.ofInt 12 = Int32.ofInt 0) = False := eq_false (by decide)
theorem mm_N36 : (Int32.ofInt 36 = Int32.ofInt 0) = False := eq_false (by decide)
theorem mm_N100 : (Int32.ofInt 100 = Int32.ofInt 0) = False := eq_false (by decide)
theorem mm_N216 : (Int32.ofInt 216 = Int32.ofInt 0) = False := eq_false (by decide)
theorem mm_N1000 : (Int32.ofInt 1000 = Int32.ofInt 0) = False := eq_false (by decide)
theorem mm_O2 : (Int64.ofInt 2 = Int64.ofInt 0) = False := eq_false (by decide)
theorem mm_O10 : (Int64.ofInt 10 = Int64.ofInt 0) = False := eq_false (by decide)
theorem mm_O100 : (Int64.ofInt 100 = Int64.ofInt 0) = False := eq_false (by decide)
theorem mm_O1000 : (Int64.ofInt 1000 = Int64.ofInt 0) = False := eq_false (by decide)
end MA
section ML
variable {d P T k N : Nat} {Q : am_Ou → am_G → Prop} {st : List Value} {g : am_G} {x : Int32} {u : Int64} {t : UInt32} {a : Nat} {v : Value} {l0 l1 l2 l3 l4 l5 l6 l7 l8 l9 l10 l11 l12 l13 l14 l15 l16 l17 : Option Value} {r L : am_Lo}
theorem mm_kv {c : Prop} {_ : Decidable c} : am_kv d P Q T L st g (if c then some v else none) ↔ c ∧ am_E d P Q (T, L, v :: st, g) := by
  by_cases h : c
  · rw [if_pos h]; exact ⟨fun q => ⟨h, q⟩, fun q => q.2⟩
  · rw [if_neg h]; exact ⟨fun q => q.elim, fun q => h q.1⟩
theorem mm_kg {c : Prop} {_ : Decidable c} {g' : am_G} : am_kg d P Q T L st (if c then some g' else none) ↔ c ∧ am_E d P Q (T, L, st, g') := by
  by_cases h : c
  · rw [if_pos h]; exact ⟨fun q => ⟨h, q⟩, fun q => q.2⟩
  · rw [if_neg h]; exact ⟨fun q => q.elim, fun q => h q.1⟩
theorem mm_clr {j : Nat} (h : am_n2 (L.getD j none) = true) : am_clr L (j + 1) = L := by
  unfold am_clr
  dsimp only
  split <;> rename_i e
  · rw [e] at h
    rw [if_neg (by intro q; unfold am_n2 at h; dsimp only at h; rw [q] at h; exact absurd h (by decide))]
  · rfl
theorem mm_clr0 : am_clr L 0 = L := rfl
theorem mm_s1x {x' v' : Int} {L' : am_Lo} {P pc : Nat} {iv : Int32} (h : am_E d P Q (pc, L, st, g) ↔ am_E d P Q (T, am_s1 L k (.int (Int32.ofInt x' + iv)), st, g)) (hv : iv = Int32.ofInt v') (hs : am_s1 L k (.int (Int32.ofInt (x' + v'))) = L') : am_E d P Q (pc, L, st, g) ↔ am_E d P Q (T, L', st, g) := by
  rw [h, hv, ← Int32.ofInt_add, hs]
theorem lc_I_0 : am_K d P Q (am_ldI T (some (.int x) :: r) st g 0) ↔ am_E d P Q (T, some (.int x) :: r, .int x :: st, g) := Iff.rfl
theorem lc_L_0 : am_K d P Q (am_ldL T (some (.long u) :: r) st g 0) ↔ am_E d P Q (T, some (.long u) :: r, .long u :: st, g) := Iff.rfl
theorem lc_F_0 : am_K d P Q (am_ldF T (some (.float t) :: r) st g 0) ↔ am_E d P Q (T, some (.float t) :: r, .float t :: st, g) := Iff.rfl
theorem lc_A_0 : am_K d P Q (am_ldA T (some (.ref a) :: r) st g 0) ↔ am_E d P Q (T, some (.ref a) :: r, .ref a :: st, g) := Iff.rfl
theorem s1_0 : am_s1 (l0 :: r) 0 v = some v :: r := by
  unfold am_s1
  rw [mm_clr0]
  rfl
theorem sc_I_0 : am_K d P Q (am_stI T (l0 :: r) (.int x :: st) g 0) ↔ am_E d P Q (T, some (.int x) :: r, st, g) := by
  unfold am_stI
  dsimp only
  rw [if_pos (by simp only [List.length_cons]; omega), s1_0]
  exact Iff.rfl
theorem sc_F_0 : am_K d P Q (am_stF T (l0 :: r) (.float t :: st) g 0) ↔ am_E d P Q (T, some (.float t) :: r, st, g) := by
  unfold am_stF
  dsimp only
  rw [if_pos (by simp only [List.length_cons]; omega), s1_0]
  exact Iff.rfl
theorem sc_A_0 : am_K d P Q (am_stA T (l0 :: r) (.ref a :: st) g 0) ↔ am_E d P Q (T, some (.ref a) :: r, st, g) := by
  unfold am_stA
  dsimp only
  rw [if_pos (by simp only [List.length_cons]; omega), s1_0]
  exact Iff.rfl
theorem sc_L_0 : am_K d P Q (am_stL T (l0 :: l1 :: r) (.long u :: st) g 0) ↔ am_E d P Q (T, some (.long u) :: none :: r, st, g) := by
  unfold am_stL
  dsimp only
  rw [if_pos (by simp only [List.length_cons]; omega)]
  unfold am_s2
  rw [mm_clr0]
  exact Iff.rfl
theorem lc_I_1 : am_K d P Q (am_ldI T (l0 :: some (.int x) :: r) st g 1) ↔ am_E d P Q (T, l0 :: some (.int x) :: r, .int x :: st, g) := Iff.rfl
theorem lc_L_1 : am_K d P Q (am_ldL T (l0 :: some (.long u) :: r) st g 1) ↔ am_E d P Q (T, l0 :: some (.long u) :: r, .long u :: st, g) := Iff.rfl
theorem lc_F_1 : am_K d P Q (am_ldF T (l0 :: some (.float t) :: r) st g 1) ↔ am_E d P Q (T, l0 :: some (.float t) :: r, .float t :: st, g) := Iff.rfl
theorem lc_A_1 : am_K d P Q (am_ldA T (l0 :: some (.ref a) :: r) st g 1) ↔ am_E d P Q (T, l0 :: some (.ref a) :: r, .ref a :: st, g) := Iff.rfl
theorem s1_1 (h : am_n2 l0 = true) : am_s1 (l0 :: l1 :: r) 1 v = l0 :: some v :: r := by
  unfold am_s1
  rw [mm_clr (L := l0 :: l1 :: r) (j := 0) h]
  rfl
theorem sc_I_1 (h : am_n2 l0 = true) : am_K d P Q (am_stI T (l0 :: l1 :: r) (.int x :: st) g 1) ↔ am_E d P Q (T, l0 :: some (.int x) :: r, st, g) := by
  unfold am_stI
  dsimp only
  rw [if_pos (by simp only [List.length_cons]; omega), s1_1 h]
  exact Iff.rfl
theorem sc_F_1 (h : am_n2 l0 = true) : am_K d P Q (am_stF T (l0 :: l1 :: r) (.float t :: st) g 1) ↔ am_E d P Q (T, l0 :: some (.float t) :: r, st, g) := by
  unfold am_stF
  dsimp only
  rw [if_pos (by simp only [List.length_cons]; omega), s1_1 h]
  exact Iff.rfl
theorem sc_A_1 (h : am_n2 l0 = true) : am_K d P Q (am_stA T (l0 :: l1 :: r) (.ref a :: st) g 1) ↔ am_E d P Q (T, l0 :: some (.ref a) :: r, st, g) := by
  unfold am_stA
  dsimp only
  rw [if_pos (by simp only [List.length_cons]; omega), s1_1 h]
  exact Iff.rfl
theorem sc_L_1 (h : am_n2 l0 = true) : am_K d P Q (am_stL T (l0 :: l1 :: l2 :: r) (.long u :: st) g 1) ↔ am_E d P Q (T, l0 :: some (.long u) :: none :: r, st, g) := by
  unfold am_stL
  dsimp only
  rw [if_pos (by simp only [List.length_cons]; omega)]
  unfold am_s2
  rw [mm_clr (L := l0 :: l1 :: l2 :: r) (j := 0) h]
  exact Iff.rfl
theorem lc_I_2 : am_K d P Q (am_ldI T (l0 :: l1 :: some (.int x) :: r) st g 2) ↔ am_E d P Q (T, l0 :: l1 :: some (.int x) :: r, .int x :: st, g) := Iff.rfl
theorem lc_L_2 : am_K d P Q (am_ldL T (l0 :: l1 :: some (.long u) :: r) st g 2) ↔ am_E d P Q (T, l0 :: l1 :: some (.long u) :: r, .long u :: st, g) := Iff.rfl
theorem lc_F_2 : am_K d P Q (am_ldF T (l0 :: l1 :: some (.float t) :: r) st g 2) ↔ am_E d P Q (T, l0 :: l1 :: some (.float t) :: r, .float t :: st, g) := Iff.rfl
theorem lc_A_2 : am_K d P Q (am_ldA T (l0 :: l1 :: some (.ref a) :: r) st g 2) ↔ am_E d P Q (T, l0 :: l1 :: some (.ref a) :: r, .ref a :: st, g) := Iff.rfl
theorem s1_2 (h : am_n2 l1 = true) : am_s1 (l0 :: l1 :: l2 :: r) 2 v = l0 :: l1 :: some v :: r := by
  unfold am_s1
  rw [mm_clr (L := l0 :: l1 :: l2 :: r) (j := 1) h]
  rfl
theorem sc_I_2 (h : am_n2 l1 = true) : am_K d P Q (am_stI T (l0 :: l1 :: l2 :: r) (.int x :: st) g 2) ↔ am_E d P Q (T, l0 :: l1 :: some (.int x) :: r, st, g) := by
  unfold am_stI
  dsimp only
  rw [if_pos (by simp only [List.length_cons]; omega), s1_2 h]
  exact Iff.rfl
theorem sc_F_2 (h : am_n2 l1 = true) : am_K d P Q (am_stF T (l0 :: l1 :: l2 :: r) (.float t :: st) g 2) ↔ am_E d P Q (T, l0 :: l1 :: some (.float t) :: r, st, g) := by
  unfold am_stF
  dsimp only
  rw [if_pos (by simp only [List.length_cons]; omega), s1_2 h]
  exact Iff.rfl
theorem sc_A_2 (h : am_n2 l1 = true) : am_K d P Q (am_stA T (l0 :: l1 :: l2 :: r) (.ref a :: st) g 2) ↔ am_E d P Q (T, l0 :: l1 :: some (.ref a) :: r, st, g) := by
  unfold am_stA
  dsimp only
  rw [if_pos (by simp only [List.length_cons]; omega), s1_2 h]
  exact Iff.rfl
theorem sc_L_2 (h : am_n2 l1 = true) : am_K d P Q (am_stL T (l0 :: l1 :: l2 :: l3 :: r) (.long u :: st) g 2) ↔ am_E d P Q (T, l0 :: l1 :: some (.long u) :: none :: r, st, g) := by
  unfold am_stL
  dsimp only
  rw [if_pos (by simp only [List.length_cons]; omega)]
  unfold am_s2
  rw [mm_clr (L := l0 :: l1 :: l2 :: l3 :: r) (j := 1) h]
  exact Iff.rfl
theorem lc_I_3 : am_K d P Q (am_ldI T (l0 :: l1 :: l2 :: some (.int x) :: r) st g 3) ↔ am_E d P Q (T, l0 :: l1 :: l2 :: some (.int x) :: r, .int x :: st, g) := Iff.rfl
theorem lc_L_3 : am_K d P Q (am_ldL T (l0 :: l1 :: l2 :: some (.long u) :: r) st g 3) ↔ am_E d P Q (T, l0 :: l1 :: l2 :: some (.long u) :: r, .long u :: st, g) := Iff.rfl
theorem lc_F_3 : am_K d P Q (am_ldF T (l0 :: l1 :: l2 :: some (.float t) :: r) st g 3) ↔ am_E d P Q (T, l0 :: l1 :: l2 :: some (.float t) :: r, .float t :: st, g) := Iff.rfl
theorem lc_A_3 : am_K d P Q (am_ldA T (l0 :: l1 :: l2 :: some (.ref a) :: r) st g 3) ↔ am_E d P Q (T, l0 :: l1 :: l2 :: some (.ref a) :: r, .ref a :: st, g) := Iff.rfl
theorem s1_3 (h : am_n2 l2 = true) : am_s1 (l0 :: l1 :: l2 :: l3 :: r) 3 v = l0 :: l1 :: l2 :: some v :: r := by
  unfold am_s1
  rw [mm_clr (L := l0 :: l1 :: l2 :: l3 :: r) (j := 2) h]
  rfl
theorem sc_I_3 (h : am_n2 l2 = true) : am_K d P Q (am_stI T (l0 :: l1 :: l2 :: l3 :: r) (.int x :: st) g 3) ↔ am_E d P Q (T, l0 :: l1 :: l2 :: some (.int x) :: r, st, g) := by
  unfold am_stI
  dsimp only
  rw [if_pos (by simp only [List.length_cons]; omega), s1_3 h]
  exact Iff.rfl
theorem sc_F_3 (h : am_n2 l2 = true) : am_K d P Q (am_stF T (l0 :: l1 :: l2 :: l3 :: r) (.float t :: st) g 3) ↔ am_E d P Q (T, l0 :: l1 :: l2 :: some (.float t) :: r, st, g) := by
  unfold am_stF
  dsimp only
  rw [if_pos (by simp only [List.length_cons]; omega), s1_3 h]
  exact Iff.rfl
theorem sc_A_3 (h : am_n2 l2 = true) : am_K d P Q (am_stA T (l0 :: l1 :: l2 :: l3 :: r) (.ref a :: st) g 3) ↔ am_E d P Q (T, l0 :: l1 :: l2 :: some (.ref a) :: r, st, g) := by
  unfold am_stA
  dsimp only
  rw [if_pos (by simp only [List.length_cons]; omega), s1_3 h]
  exact Iff.rfl
theorem sc_L_3 (h : am_n2 l2 = true) : am_K d P Q (am_stL T (l0 :: l1 :: l2 :: l3 :: l4 :: r) (.long u :: st) g 3) ↔ am_E d P Q (T, l0 :: l1 :: l2 :: some (.long u) :: none :: r, st, g) := by
  unfold am_stL
  dsimp only
  rw [if_pos (by simp only [List.length_cons]; omega)]
  unfold am_s2
  rw [mm_clr (L := l0 :: l1 :: l2 :: l3 :: l4 :: r) (j := 2) h]
  exact Iff.rfl
theorem lc_I_4 : am_K d P Q (am_ldI T (l0 :: l1 :: l2 :: l3 :: some (.int x) :: r) st g 4) ↔ am_E d P Q (T, l0 :: l1 :: l2 :: l3 :: some (.int x) :: r, .int x :: st, g) := Iff.rfl
theorem lc_L_4 : am_K d P Q (am_ldL T (l0 :: l1 :: l2 :: l3 :: some (.long u) :: r) st g 4) ↔ am_E d P Q (T, l0 :: l1 :: l2 :: l3 :: some (.long u) :: r, .long u :: st, g) := Iff.rfl
theorem lc_F_4 : am_K d P Q (am_ldF T (l0 :: l1 :: l2 :: l3 :: some (.float t) :: r) st g 4) ↔ am_E d P Q (T, l0 :: l1 :: l2 :: l3 :: some (.float t) :: r, .float t :: st, g) := Iff.rfl
theorem lc_A_4 : am_K d P Q (am_ldA T (l0 :: l1 :: l2 :: l3 :: some (.ref a) :: r) st g 4) ↔ am_E d P Q (T, l0 :: l1 :: l2 :: l3 :: some (.ref a) :: r, .ref a :: st, g) := Iff.rfl
theorem s1_4 (h : am_n2 l3 = true) : am_s1 (l0 :: l1 :: l2 :: l3 :: l4 :: r) 4 v = l0 :: l1 :: l2 :: l3 :: some v :: r := by
  unfold am_s1
  rw [mm_clr (L := l0 :: l1 :: l2 :: l3 :: l4 :: r) (j := 3) h]
  rfl
theorem sc_I_4 (h : am_n2 l3 = true) : am_K d P Q (am_stI T (l0 :: l1 :: l2 :: l3 :: l4 :: r) (.int x :: st) g 4) ↔ am_E d P Q (T, l0 :: l1 :: l2 :: l3 :: some (.int x) :: r, st, g) := by
  unfold am_stI
  dsimp only
  rw [if_pos (by simp only [List.length_cons]; omega), s1_4 h]
  exact Iff.rfl
theorem sc_F_4 (h : am_n2 l3 = true) : am_K d P Q (am_stF T (l0 :: l1 :: l2 :: l3 :: l4 :: r) (.float t :: st) g 4) ↔ am_E d P Q (T, l0 :: l1 :: l2 :: l3 :: some (.float t) :: r, st, g) := by
  unfold am_stF
  dsimp only
  rw [if_pos (by simp only [List.length_cons]; omega), s1_4 h]
  exact Iff.rfl
theorem sc_A_4 (h : am_n2 l3 = true) : am_K d P Q (am_stA T (l0 :: l1 :: l2 :: l3 :: l4 :: r) (.ref a :: st) g 4) ↔ am_E d P Q (T, l0 :: l1 :: l2 :: l3 :: some (.ref a) :: r, st, g) := by
  unfold am_stA
  dsimp only
  rw [if_pos (by simp only [List.length_cons]; omega), s1_4 h]
  exact Iff.rfl
theorem sc_L_4 (h : am_n2 l3 = true) : am_K d P Q (am_stL T (l0 :: l1 :: l2 :: l3 :: l4 :: l5 :: r) (.long u :: st) g 4) ↔ am_E d P Q (T, l0 :: l1 :: l2 :: l3 :: some (.long u) :: none :: r, st, g) := by
  unfold am_stL
  dsimp only
  rw [if_pos (by simp only [List.length_cons]; omega)]
  unfold am_s2
  rw [mm_clr (L := l0 :: l1 :: l2 :: l3 :: l4 :: l5 :: r) (j := 3) h]
  exact Iff.rfl
theorem lc_I_5 : am_K d P Q (am_ldI T (l0 :: l1 :: l2 :: l3 :: l4 :: some (.int x) :: r) st g 5) ↔ am_E d P Q (T, l0 :: l1 :: l2 :: l3 :: l4 :: some (.int x) :: r, .int x :: st, g) := Iff.rfl
theorem lc_L_5 : am_K d P Q (am_ldL T (l0 :: l1 :: l2 :: l3 :: l4 :: some (.long u) :: r) st g 5) ↔ am_E d P Q (T, l0 :: l1 :: l2 :: l3 :: l4 :: some (.long u) :: r, .long u :: st, g) := Iff.rfl
theorem lc_F_5 : am_K d P Q (am_ldF T (l0 :: l1 :: l2 :: l3 :: l4 :: some (.float t) :: r) st g 5) ↔ am_E d P Q (T, l0 :: l1 :: l2 :: l3 :: l4 :: some (.float t) :: r, .float t :: st, g) := Iff.rfl
theorem lc_A_5 : am_K d P Q (am_ldA T (l0 :: l1 :: l2 :: l3 :: l4 :: some (.ref a) :: r) st g 5) ↔ am_E d P Q (T, l0 :: l1 :: l2 :: l3 :: l4 :: some (.ref a) :: r, .ref a :: st, g) := Iff.rfl
theorem s1_5 (h : am_n2 l4 = true) : am_s1 (l0 :: l1 :: l2 :: l3 :: l4 :: l5 :: r) 5 v = l0 :: l1 :: l2 :: l3 :: l4 :: some v :: r := by
  unfold am_s1
  rw [mm_clr (L := l0 :: l1 :: l2 :: l3 :: l4 :: l5 :: r) (j := 4) h]
  rfl
theorem sc_I_5 (h : am_n2 l4 = true) : am_K d P Q (am_stI T (l0 :: l1 :: l2 :: l3 :: l4 :: l5 :: r) (.int x :: st) g 5) ↔ am_E d P Q (T, l0 :: l1 :: l2 :: l3 :: l4 :: some (.int x) :: r, st, g) := by
  unfold am_stI
  dsimp only
  rw [if_pos (by simp only [List.length_cons]; omega), s1_5 h]
  exact Iff.rfl
theorem sc_F_5 (h : am_n2 l4 = true) : am_K d P Q (am_stF T (l0 :: l1 :: l2 :: l3 :: l4 :: l5 :: r) (.float t :: st) g 5) ↔ am_E d P Q (T, l0 :: l1 :: l2 :: l3 :: l4 :: some (.float t) :: r, st, g) := by
  unfold am_stF
  dsimp only
  rw [if_pos (by simp only [List.length_cons]; omega), s1_5 h]
  exact Iff.rfl
theorem sc_A_5 (h : am_n2 l4 = true) : am_K d P Q (am_stA T (l0 :: l1 :: l2 :: l3 :: l4 :: l5 :: r) (.ref a :: st) g 5) ↔ am_E d P Q (T, l0 :: l1 :: l2 :: l3 :: l4 :: some (.ref a) :: r, st, g) := by
  unfold am_stA
  dsimp only
  rw [if_pos (by simp only [List.length_cons]; omega), s1_5 h]
  exact Iff.rfl
theorem sc_L_5 (h : am_n2 l4 = true) : am_K d P Q (am_stL T (l0 :: l1 :: l2 :: l3 :: l4 :: l5 :: l6 :: r) (.long u :: st) g 5) ↔ am_E d P Q (T, l0 :: l1 :: l2 :: l3 :: l4 :: some (.long u) :: none :: r, st, g) := by
  unfold am_stL
  dsimp only
  rw [if_pos (by simp only [List.length_cons]; omega)]
  unfold am_s2
  rw [mm_clr (L := l0 :: l1 :: l2 :: l3 :: l4 :: l5 :: l6 :: r) (j := 4) h]
  exact Iff.rfl
theorem lc_I_6 : am_K d P Q (am_ldI T (l0 :: l1 :: l2 :: l3 :: l4 :: l5 :: some (.int x) :: r) st g 6) ↔ am_E d P Q (T, l0 :: l1 :: l2 :: l3 :: l4 :: l5 :: some (.int x) :: r, .int x :: st, g) := Iff.rfl
theorem lc_L_6 : am_K d P Q (am_ldL T (l0 :: l1 :: l2 :: l3 :: l4 :: l5 :: some (.long u) :: r) st g 6) ↔ am_E d P Q (T, l0 :: l1 :: l2 :: l3 :: l4 :: l5 :: some (.long u) :: r, .long u :: st, g) := Iff.rfl
theorem lc_F_6 : am_K d P Q (am_ldF T (l0 :: l1 :: l2 :: l3 :: l4 :: l5 :: some (.float t) :: r) st g 6) ↔ am_E d P Q (T, l0 :: l1 :: l2 :: l3 :: l4 :: l5 :: some (.float t) :: r, .float t :: st, g) := Iff.rfl
theorem lc_A_6 : am_K d P Q (am_ldA T (l0 :: l1 :: l2 :: l3 :: l4 :: l5 :: some (.ref a) :: r) st g 6) ↔ am_E d P Q (T, l0 :: l1 :: l2 :: l3 :: l4 :: l5 :: some (.ref a) :: r, .ref a :: st, g) := Iff.rfl
theorem s1_6 (h : am_n2 l5 = true) : am_s1 (l0 :: l1 :: l2 :: l3 :: l4 :: l5 :: l6 :: r) 6 v = l0 :: l1 :: l2 :: l3 :: l4 :: l5 :: some v :: r := by
  unfold am_s1
  rw [mm_clr (L := l0 :: l1 :: l2 :: l3 :: l4 :: l5 :: l6 :: r) (j := 5) h]
  rfl
theorem sc_I_6 (h : am_n2 l5 = true) : am_K d P Q (am_stI T (l0 :: l1 :: l2 :: l3 :: l4 :: l5 :: l6 :: r) (.int x :: st) g 6) ↔ am_E d P Q (T, l0 :: l1 :: l2 :: l3 :: l4 :: l5 :: some (.int x) :: r, st, g) := by
  unfold am_stI
  dsimp only
  rw [if_pos (by simp only [List.length_cons]; omega), s1_6 h]
  exact Iff.rfl
theorem sc_F_6 (h : am_n2 l5 = true) : am_K d P Q (am_stF T (l0 :: l1 :: l2 :: l3 :: l4 :: l5 :: l6 :: r) (.float t :: st) g 6) ↔ am_E d P Q (T, l0 :: l1 :: l2 :: l3 :: l4 :: l5 :: some (.float t) :: r, st, g) := by
  unfold am_stF
  dsimp only
  rw [if_pos (by simp only [List.length_cons]; omega), s1_6 h]
  exact Iff.rfl
theorem sc_A_6 (h : am_n2 l5 = true) : am_K d P Q (am_stA T (l0 :: l1 :: l2 :: l3 :: l4 :: l5 :: l6 :: r) (.ref a :: st) g 6) ↔ am_E d P Q (T, l0 :: l1 :: l2 :: l3 :: l4 :: l5 :: some (.ref a) :: r, st, g) := by
  unfold am_stA
  dsimp only
  rw [if_pos (by simp only [List.length_cons]; omega), s1_6 h]
  exact Iff.rfl
theorem sc_L_6 (h : am_n2 l5 = true) : am_K d P Q (am_stL T (l0 :: l1 :: l2 :: l3 :: l4 :: l5 :: l6 :: l7 :: r) (.long u :: st) g 6) ↔ am_E d P Q (T, l0 :: l1 :: l2 :: l3 :: l4 :: l5 :: some (.long u) :: none :: r, st, g) := by
  unfold am_stL
  dsimp only
  rw [if_pos (by simp only [List.length_cons]; omega)]
  unfold am_s2
  rw [mm_clr (L := l0 :: l1 :: l2 :: l3 :: l4 :: l5 :: l6 :: l7 :: r) (j := 5) h]
  exact Iff.rfl
theorem lc_I_7 : am_K d P Q (am_ldI T (l0 :: l1 :: l2 :: l3 :: l4 :: l5 :: l6 :: some (.int x) :: r) st g 7) ↔ am_E d P Q (T, l0 :: l1 :: l2 :: l3 :: l4 :: l5 :: l6 :: some (.int x) :: r, .int x :: st, g) := Iff.rfl
theorem lc_L_7 : am_K d P Q (am_ldL T (l0 :: l1 :: l2 :: l3 :: l4 :: l5 :: l6 :: some (.long u) :: r) st g 7) ↔ am_E d P Q (T, l0 :: l1 :: l2 :: l3 :: l4 :: l5 :: l6 :: some (.long u) :: r, .long u :: st, g) := Iff.rfl
theorem lc_F_7 : am_K d P Q (am_ldF T (l0 :: l1 :: l2 :: l3 :: l4 :: l5 :: l6 :: some (.float t) :: r) st g 7) ↔ am_E d P Q (T, l0 :: l1 :: l2 :: l3 :: l4 :: l5 :: l6 :: some (.float t) :: r, .float t :: st, g) := Iff.rfl
theorem lc_A_7 : am_K d P Q (am_ldA T (l0 :: l1 :: l2 :: l3 :: l4 :: l5 :: l6 :: some (.ref a) :: r) st g 7) ↔ am_E d P Q (T, l0 :: l1 :: l2 :: l3 :: l4 :: l5 :: l6 :: some (.ref a) :: r, .ref a :: st, g) := Iff.rfl
theorem s1_7 (h : am_n2 l6 = true) : am_s1 (l0 :: l1 :: l2 :: l3 :: l4 :: l5 :: l6 :: l7 :: r) 7 v = l0 :: l1 :: l2 :: l3 :: l4 :: l5 :: l6 :: some v :: r := by
  unfold am_s1
  rw [mm_clr (L := l0 :: l1 :: l2 :: l3 :: l4 :: l5 :: l6 :: l7 :: r) (j := 6) h]
  rfl
theorem sc_I_7 (h : am_n2 l6 = true) : am_K d P Q (am_stI T (l0 :: l1 :: l2 :: l3 :: l4 :: l5 :: l6 :: l7 :: r) (.int x :: st) g 7) ↔ am_E d P Q (T, l0 :: l1 :: l2 :: l3 :: l4 :: l5 :: l6 :: some (.int x) :: r, st, g) := by
  unfold am_stI
  dsimp only
  rw [if_pos (by simp only [List.length_cons]; omega), s1_7 h]
  exact Iff.rfl
theorem sc_F_7 (h : am_n2 l6 = true) : am_K d P Q (am_stF T (l0 :: l1 :: l2 :: l3 :: l4 :: l5 :: l6 :: l7 :: r) (.float t :: st) g 7) ↔ am_E d P Q (T, l0 :: l1 :: l2 :: l3 :: l4 :: l5 :: l6 :: some (.float t) :: r, st, g) := by
  unfold am_stF
  dsimp only
  rw [if_pos (by simp only [List.length_cons]; omega), s1_7 h]
  exact Iff.rfl
theorem sc_A_7 (h : am_n2 l6 = true) : am_K d P Q (am_stA T (l0 :: l1 :: l2 :: l3 :: l4 :: l5 :: l6 :: l7 :: r) (.ref a :: st) g 7) ↔ am_E d P Q (T, l0 :: l1 :: l2 :: l3 :: l4 :: l5 :: l6 :: some (.ref a) :: r, st, g) := by
  unfold am_stA
  dsimp only
  rw [if_pos (by simp only [List.length_cons]; omega), s1_7 h]
  exact Iff.rfl
theorem sc_L_7 (h : am_n2 l6 = true) : am_K d P Q (am_stL T (l0 :: l1 :: l2 :: l3 :: l4 :: l5 :: l6 :: l7 :: l8 :: r) (.long u :: st) g 7) ↔ am_E d P Q (T, l0 :: l1 :: l2 :: l3 :: l4 :: l5 :: l6 :: some (.long u) :: none :: r, st, g) := by
  unfold am_stL
  dsimp only
  rw [if_pos (by simp only [List.length_cons]; omega)]
  unfold am_s2
  rw [mm_clr (L := l0 :: l1 :: l2 :: l3 :: l4 :: l5 :: l6 :: l7 :: l8 :: r) (j := 6) h]
  exact Iff.rfl
theorem lc_I_8 : am_K d P Q (am_ldI T (l0 :: l1 :: l2 :: l3 :: l4 :: l5 :: l6 :: l7 :: some (.int x) :: r) st g 8) ↔ am_E d P Q (T, l0 :: l1 :: l2 :: l3 :: l4 :: l5 :: l6 :: l7 :: some (.int x) :: r, .int x :: st, g) := Iff.rfl
theorem lc_L_8 : am_K d P Q (am_ldL T (l0 :: l1 :: l2 :: l3 :: l4 :: l5 :: l6 :: l7 :: some (.long u) :: r) st g 8) ↔ am_E d P Q (T, l0 :: l1 :: l2 :: l3 :: l4 :: l5 :: l6 :: l7 :: some (.long u) :: r, .long u :: st, g) := Iff.rfl
theorem lc_F_8 : am_K d P Q (am_ldF T (l0 :: l1 :: l2 :: l3 :: l4 :: l5 :: l6 :: l7 :: some (.float t) :: r) st g 8) ↔ am_E d P Q (T, l0 :: l1 :: l2 :: l3 :: l4 :: l5 :: l6 :: l7 :: some (.float t) :: r, .float t :: st, g) := Iff.rfl
theorem lc_A_8 : am_K d P Q (am_ldA T (l0 :: l1 :: l2 :: l3 :: l4 :: l5 :: l6 :: l7 :: some (.ref a) :: r) st g 8) ↔ am_E d P Q (T, l0 :: l1 :: l2 :: l3 :: l4 :: l5 :: l6 :: l7 :: some (.ref a) :: r, .ref a :: st, g) := Iff.rfl
theorem s1_8 (h : am_n2 l7 = true) : am_s1 (l0 :: l1 :: l2 :: l3 :: l4 :: l5 :: l6 :: l7 :: l8 :: r) 8 v = l0 :: l1 :: l2 :: l3 :: l4 :: l5 :: l6 :: l7 :: some v :: r := by
  unfold am_s1
  rw [mm_clr (L := l0 :: l1 :: l2 :: l3 :: l4 :: l5 :: l6 :: l7 :: l8 :: r) (j := 7) h]
  rfl
theorem sc_I_8 (h : am_n2 l7 = true) : am_K d P Q (am_stI T (l0 :: l1 :: l2 :: l3 :: l4 :: l5 :: l6 :: l7 :: l8 :: r) (.int x :: st) g 8) ↔ am_E d P Q (T, l0 :: l1 :: l2 :: l3 :: l4 :: l5 :: l6 :: l7 :: some (.int x) :: r, st, g) := by
  unfold am_stI
  dsimp only
  rw [if_pos (by simp only [List.length_cons]; omega), s1_8 h]
  exact Iff.rfl
theorem sc_F_8 (h : am_n2 l7 = true) : am_K d P Q (am_stF T (l0 :: l1 :: l2 :: l3 :: l4 :: l5 :: l6 :: l7 :: l8 :: r) (.float t :: st) g 8) ↔ am_E d P Q (T, l0 :: l1 :: l2 :: l3 :: l4 :: l5 :: l6 :: l7 :: some (.float t) :: r, st, g) := by
  unfold am_stF
  dsimp only
  rw [if_pos (by simp only [List.length_cons]; omega), s1_8 h]
  exact Iff.rfl
theorem sc_A_8 (h : am_n2 l7 = true) : am_K d P Q (am_stA T (l0 :: l1 :: l2 :: l3 :: l4 :: l5 :: l6 :: l7 :: l8 :: r) (.ref a :: st) g 8) ↔ am_E d P Q (T, l0 :: l1 :: l2 :: l3 :: l4 :: l5 :: l6 :: l7 :: some (.ref a) :: r, st, g) := by
  unfold am_stA
  dsimp only
  rw [if_pos (by simp only [List.length_cons]; omega), s1_8 h]
  exact Iff.rfl
theorem sc_L_8 (h : am_n2 l7 = true) : am_K d P Q (am_stL T (l0 :: l1 :: l2 :: l3 :: l4 :: l5 :: l6 :: l7 :: l8 :: l9 :: r) (.long u :: st) g 8) ↔ am_E d P Q (T, l0 :: l1 :: l2 :: l3 :: l4 :: l5 :: l6 :: l7 :: some (.long u) :: none :: r, st, g) := by
  unfold am_stL
  dsimp only
  rw [if_pos (by simp only [List.length_cons]; omega)]
  unfold am_s2
  rw [mm_clr (L := l0 :: l1 :: l2 :: l3 :: l4 :: l5 :: l6 :: l7 :: l8 :: l9 :: r) (j := 7) h]
  exact Iff.rfl
theorem lc_I_9 : am_K d P Q (am_ldI T (l0 :: l1 :: l2 :: l3 :: l4 :: l5 :: l6 :: l7 :: l8 :: some (.int x) :: r) st g 9) ↔ am_E d P Q (T, l0 :: l1 :: l2 :: l3 :: l4 :: l5 :: l6 :: l7 :: l8 :: some (.int x) :: r, .int x :: st, g) := Iff.rfl
theorem lc_L_9 : am_K d P Q (am_ldL T (l0 :: l1 :: l2 :: l3 :: l4 :: l5 :: l6 :: l7 :: l8 :: some (.long u) :: r) st g 9) ↔ am_E d P Q (T, l0 :: l1 :: l2 :: l3 :: l4 :: l5 :: l6 :: l7 :: l8 :: some (.long u) :: r, .long u :: st, g) := Iff.rfl
theorem lc_F_9 : am_K d P Q (am_ldF T (l0 :: l1 :: l2 :: l3 :: l4 :: l5 :: l6 :: l7 :: l8 :: some (.float t) :: r) st g 9) ↔ am_E d P Q (T, l0 :: l1 :: l2 :: l3 :: l4 :: l5 :: l6 :: l7 :: l8 :: some (.float t) :: r, .float t :: st, g) := Iff.rfl
theorem lc_A_9 : am_K d P Q (am_ldA T (l0 :: l1 :: l2 :: l3 :: l4 :: l5 :: l6 :: l7 :: l8 :: some (.ref a) :: r) st g 9) ↔ am_E d P Q (T, l0 :: l1 :: l2 :: l3 :: l4 :: l5 :: l6 :: l7 :: l8 :: some (.ref a) :: r, .ref a :: st, g) := Iff.rfl
theorem s1_9 (h : am_n2 l8 = true) : am_s1 (l0 :: l1 :: l2 :: l3 :: l4 :: l5 :: l6 :: l7 :: l8 :: l9 :: r) 9 v = l0 :: l1 :: l2 :: l3 :: l4 :: l5 :: l6 :: l7 :: l8 :: some v :: r := by
  unfold am_s1
  rw [mm_clr (L := l0 :: l1 :: l2 :: l3 :: l4 :: l5 :: l6 :: l7 :: l8 :: l9 :: r) (j := 8) h]
  rfl
theorem sc_I_9 (h : am_n2 l8 = true) : am_K d P Q (am_stI T (l0 :: l1 :: l2 :: l3 :: l4 :: l5 :: l6 :: l7 :: l8 :: l9 :: r) (.int x :: st) g 9) ↔ am_E d P Q (T, l0 :: l1 :: l2 :: l3 :: l4 :: l5 :: l6 :: l7 :: l8 :: some (.int x) :: r, st, g) := by
  unfold am_stI
  dsimp only
  rw [if_pos (by simp only [List.length_cons]; omega), s1_9 h]
  exact Iff.rfl
theorem sc_F_9 (h : am_n2 l8 = true) : am_K d P Q (am_stF T (l0 :: l1 :: l2 :: l3 :: l4 :: l5 :: l6 :: l7 :: l8 :: l9 :: r) (.float t :: st) g 9) ↔ am_E d P Q (T, l0 :: l1 :: l2 :: l3 :: l4 :: l5 :: l6 :: l7 :: l8 :: some (.float t) :: r, st, g) := by
  unfold am_stF
  dsimp only
  rw [if_pos (by simp only [List.length_cons]; omega), s1_9 h]
  exact Iff.rfl
theorem sc_A_9 (h : am_n2 l8 = true) : am_K d P Q (am_stA T (l0 :: l1 :: l2 :: l3 :: l4 :: l5 :: l6 :: l7 :: l8 :: l9 :: r) (.ref a :: st) g 9) ↔ am_E d P Q (T, l0 :: l1 :: l2 :: l3 :: l4 :: l5 :: l6 :: l7 :: l8 :: some (.ref a) :: r, st, g) := by
  unfold am_stA
  dsimp only
  rw [if_pos (by simp only [List.length_cons]; omega), s1_9 h]
  exact Iff.rfl
theorem sc_L_9 (h : am_n2 l8 = true) : am_K d P Q (am_stL T (l0 :: l1 :: l2 :: l3 :: l4 :: l5 :: l6 :: l7 :: l8 :: l9 :: l10 :: r) (.long u :: st) g 9) ↔ am_E d P Q (T, l0 :: l1 :: l2 :: l3 :: l4 :: l5 :: l6 :: l7 :: l8 :: some (.long u) :: none :: r, st, g) := by
  unfold am_stL
  dsimp only
  rw [if_pos (by simp only [List.length_cons]; omega)]
  unfold am_s2
  rw [mm_clr (L := l0 :: l1 :: l2 :: l3 :: l4 :: l5 :: l6 :: l7 :: l8 :: l9 :: l10 :: r) (j := 8) h]
  exact Iff.rfl
theorem lc_I_10 : am_K d P Q (am_ldI T (l0 :: l1 :: l2 :: l3 :: l4 :: l5 :: l6 :: l7 :: l8 :: l9 :: some (.int x) :: r) st g 10) ↔ am_E d P Q (T, l0 :: l1 :: l2 :: l3 :: l4 :: l5 :: l6 :: l7 :: l8 :: l9 :: some (.int x) :: r, .int x :: st, g) := Iff.rfl
theorem lc_L_10 : am_K d P Q (am_ldL T (l0 :: l1 :: l2 :: l3 :: l4 :: l5 :: l6 :: l7 :: l8 :: l9 :: some (.long u) :: r) st g 10) ↔ am_E d P Q (T, l0 :: l1 :: l2 :: l3 :: l4 :: l5 :: l6 :: l7 :: l8 :: l9 :: some (.long u) :: r, .long u :: st, g) := Iff.rfl
theorem lc_F_10 : am_K d P Q (am_ldF T (l0 :: l1 :: l2 :: l3 :: l4 :: l5 :: l6 :: l7 :: l8 :: l9 :: some (.float t) :: r) st g 10) ↔ am_E d P Q (T, l0 :: l1 :: l2 :: l3 :: l4 :: l5 :: l6 :: l7 :: l8 :: l9 :: some (.float t) :: r, .float t :: st, g) := Iff.rfl
theorem lc_A_10 : am_K d P Q (am_ldA T (l0 :: l1 :: l2 :: l3 :: l4 :: l5 :: l6 :: l7 :: l8 :: l9 :: some (.ref a) :: r) st g 10) ↔ am_E d P Q (T, l0 :: l1 :: l2 :: l3 :: l4 :: l5 :: l6 :: l7 :: l8 :: l9 :: some (.ref a) :: r, .ref a :: st, g) := Iff.rfl
theorem s1_10 (h : am_n2 l9 = true) : am_s1 (l0 :: l1 :: l2 :: l3 :: l4 :: l5 :: l6 :: l7 :: l8 :: l9 :: l10 :: r) 10 v = l0 :: l1 :: l2 :: l3 :: l4 :: l5 :: l6 :: l7 :: l8 :: l9 :: some v :: r := by
  unfold am_s1
  rw [mm_clr (L := l0 :: l1 :: l2 :: l3 :: l4 :: l5 :: l6 :: l7 :: l8 :: l9 :: l10 :: r) (j := 9) h]
  rfl
theorem sc_I_10 (h : am_n2 l9 = true) : am_K d P Q (am_stI T (l0 :: l1 :: l2 :: l3 :: l4 :: l5 :: l6 :: l7 :: l8 :: l9 :: l10 :: r) (.int x :: st) g 10) ↔ am_E d P Q (T, l0 :: l1 :: l2 :: l3 :: l4 :: l5 :: l6 :: l7 :: l8 :: l9 :: some (.int x) :: r, st, g) := by
  unfold am_stI
  dsimp only
  rw [if_pos (by simp only [List.length_cons]; omega), s1_10 h]
  exact Iff.rfl
theorem sc_F_10 (h : am_n2 l9 = true) : am_K d P Q (am_stF T (l0 :: l1 :: l2 :: l3 :: l4 :: l5 :: l6 :: l7 :: l8 :: l9 :: l10 :: r) (.float t :: st) g 10) ↔ am_E d P Q (T, l0 :: l1 :: l2 :: l3 :: l4 :: l5 :: l6 :: l7 :: l8 :: l9 :: some (.float t) :: r, st, g) := by
  unfold am_stF
  dsimp only
  rw [if_pos (by simp only [List.length_cons]; omega), s1_10 h]
  exact Iff.rfl
theorem sc_A_10 (h : am_n2 l9 = true) : am_K d P Q (am_stA T (l0 :: l1 :: l2 :: l3 :: l4 :: l5 :: l6 :: l7 :: l8 :: l9 :: l10 :: r) (.ref a :: st) g 10) ↔ am_E d P Q (T, l0 :: l1 :: l2 :: l3 :: l4 :: l5 :: l6 :: l7 :: l8 :: l9 :: some (.ref a) :: r, st, g) := by
  unfold am_stA
  dsimp only
  rw [if_pos (by simp only [List.length_cons]; omega), s1_10 h]
  exact Iff.rfl
theorem sc_L_10 (h : am_n2 l9 = true) : am_K d P Q (am_stL T (l0 :: l1 :: l2 :: l3 :: l4 :: l5 :: l6 :: l7 :: l8 :: l9 :: l10 :: l11 :: r) (.long u :: st) g 10) ↔ am_E d P Q (T, l0 :: l1 :: l2 :: l3 :: l4 :: l5 :: l6 :: l7 :: l8 :: l9 :: some (.long u) :: none :: r, st, g) := by
  unfold am_stL
  dsimp only
  rw [if_pos (by simp only [List.length_cons]; omega)]
  unfold am_s2
  rw [mm_clr (L := l0 :: l1 :: l2 :: l3 :: l4 :: l5 :: l6 :: l7 :: l8 :: l9 :: l10 :: l11 :: r) (j := 9) h]
  exact Iff.rfl
theorem lc_I_11 : am_K d P Q (am_ldI T (l0 :: l1 :: l2 :: l3 :: l4 :: l5 :: l6 :: l7 :: l8 :: l9 :: l10 :: some (.int x) :: r) st g 11) ↔ am_E d P Q (T, l0 :: l1 :: l2 :: l3 :: l4 :: l5 :: l6 :: l7 :: l8 :: l9 :: l10 :: some (.int x) :: r, .int x :: st, g) := Iff.rfl
theorem lc_L_11 : am_K d P Q (am_ldL T (l0 :: l1 :: l2 :: l3 :: l4 :: l5 :: l6 :: l7 :: l8 :: l9 :: l10 :: some (.long u) :: r) st g 11) ↔ am_E d P Q (T, l0 :: l1 :: l2 :: l3 :: l4 :: l5 :: l6 :: l7 :: l8 :: l9 :: l10 :: some (.long u) :: r, .long u :: st, g) := Iff.rfl
theorem lc_F_11 : am_K d P Q (am_ldF T (l0 :: l1 :: l2 :: l3 :: l4 :: l5 :: l6 :: l7 :: l8 :: l9 :: l10 :: some (.float t) :: r) st g 11) ↔ am_E d P Q (T, l0 :: l1 :: l2 :: l3 :: l4 :: l5 :: l6 :: l7 :: l8 :: l9 :: l10 :: some (.float t) :: r, .float t :: st, g) := Iff.rfl
theorem lc_A_11 : am_K d P Q (am_ldA T (l0 :: l1 :: l2 :: l3 :: l4 :: l5 :: l6 :: l7 :: l8 :: l9 :: l10 :: some (.ref a) :: r) st g 11) ↔ am_E d P Q (T, l0 :: l1 :: l2 :: l3 :: l4 :: l5 :: l6 :: l7 :: l8 :: l9 :: l10 :: some (.ref a) :: r, .ref a :: st, g) := Iff.rfl
theorem s1_11 (h : am_n2 l10 = true) : am_s1 (l0 :: l1 :: l2 :: l3 :: l4 :: l5 :: l6 :: l7 :: l8 :: l9 :: l10 :: l11 :: r) 11 v = l0 :: l1 :: l2 :: l3 :: l4 :: l5 :: l6 :: l7 :: l8 :: l9 :: l10 :: some v :: r := by
  unfold am_s1
  rw [mm_clr (L := l0 :: l1 :: l2 :: l3 :: l4 :: l5 :: l6 :: l7 :: l8 :: l9 :: l10 :: l11 :: r) (j := 10) h]
  rfl
theorem sc_I_11 (h : am_n2 l10 = true) : am_K d P Q (am_stI T (l0 :: l1 :: l2 :: l3 :: l4 :: l5 :: l6 :: l7 :: l8 :: l9 :: l10 :: l11 :: r) (.int x :: st) g 11) ↔ am_E d P Q (T, l0 :: l1 :: l2 :: l3 :: l4 :: l5 :: l6 :: l7 :: l8 :: l9 :: l10 :: some (.int x) :: r, st, g) := by
  unfold am_stI
  dsimp only
  rw [if_pos (by simp only [List.length_cons]; omega), s1_11 h]
  exact Iff.rfl
theorem sc_F_11 (h : am_n2 l10 = true) : am_K d P Q (am_stF T (l0 :: l1 :: l2 :: l3 :: l4 :: l5 :: l6 :: l7 :: l8 :: l9 :: l10 :: l11 :: r) (.float t :: st) g 11) ↔ am_E d P Q (T, l0 :: l1 :: l2 :: l3 :: l4 :: l5 :: l6 :: l7 :: l8 :: l9 :: l10 :: some (.float t) :: r, st, g) := by
  unfold am_stF
  dsimp only
  rw [if_pos (by simp only [List.length_cons]; omega), s1_11 h]
  exact Iff.rfl
theorem sc_A_11 (h : am_n2 l10 = true) : am_K d P Q (am_stA T (l0 :: l1 :: l2 :: l3 :: l4 :: l5 :: l6 :: l7 :: l8 :: l9 :: l10 :: l11 :: r) (.ref a :: st) g 11) ↔ am_E d P Q (T, l0 :: l1 :: l2 :: l3 :: l4 :: l5 :: l6 :: l7 :: l8 :: l9 :: l10 :: some (.ref a) :: r, st, g) := by
  unfold am_stA
  dsimp only
  rw [if_pos (by simp only [List.length_cons]; omega), s1_11 h]
  exact Iff.rfl
theorem sc_L_11 (h : am_n2 l10 = true) : am_K d P Q (am_stL T (l0 :: l1 :: l2 :: l3 :: l4 :: l5 :: l6 :: l7 :: l8 :: l9 :: l10 :: l11 :: l12 :: r) (.long u :: st) g 11) ↔ am_E d P Q (T, l0 :: l1 :: l2 :: l3 :: l4 :: l5 :: l6 :: l7 :: l8 :: l9 :: l10 :: some (.long u) :: none :: r, st, g) := by
  unfold am_stL
  dsimp only
  rw [if_pos (by simp only [List.length_cons]; omega)]
  unfold am_s2
  rw [mm_clr (L := l0 :: l1 :: l2 :: l3 :: l4 :: l5 :: l6 :: l7 :: l8 :: l9 :: l10 :: l11 :: l12 :: r) (j := 10) h]
  exact Iff.rfl
theorem lc_I_12 : am_K d P Q (am_ldI T (l0 :: l1 :: l2 :: l3 :: l4 :: l5 :: l6 :: l7 :: l8 :: l9 :: l10 :: l11 :: some (.int x) :: r) st g 12) ↔ am_E d P Q (T, l0 :: l1 :: l2 :: l3 :: l4 :: l5 :: l6 :: l7 :: l8 :: l9 :: l10 :: l11 :: some (.int x) :: r, .int x :: st, g) := Iff.rfl
theorem lc_L_12 : am_K d P Q (am_ldL T (l0 :: l1 :: l2 :: l3 :: l4 :: l5 :: l6 :: l7 :: l8 :: l9 :: l10 :: l11 :: some (.long u) :: r) st g 12) ↔ am_E d P Q (T, l0 :: l1 :: l2 :: l3 :: l4 :: l5 :: l6 :: l7 :: l8 :: l9 :: l10 :: l11 :: some (.long u) :: r, .long u :: st, g) := Iff.rfl
theorem lc_F_12 : am_K d P Q (am_ldF T (l0 :: l1 :: l2 :: l3 :: l4 :: l5 :: l6 :: l7 :: l8 :: l9 :: l10 :: l11 :: some (.float t) :: r) st g 12) ↔ am_E d P Q (T, l0 :: l1 :: l2 :: l3 :: l4 :: l5 :: l6 :: l7 :: l8 :: l9 :: l10 :: l11 :: some (.float t) :: r, .float t :: st, g) := Iff.rfl
theorem lc_A_12 : am_K d P Q (am_ldA T (l0 :: l1 :: l2 :: l3 :: l4 :: l5 :: l6 :: l7 :: l8 :: l9 :: l10 :: l11 :: some (.ref a) :: r) st g 12) ↔ am_E d P Q (T, l0 :: l1 :: l2 :: l3 :: l4 :: l5 :: l6 :: l7 :: l8 :: l9 :: l10 :: l11 :: some (.ref a) :: r, .ref a :: st, g) := Iff.rfl
theorem s1_12 (h : am_n2 l11 = true) : am_s1 (l0 :: l1 :: l2 :: l3 :: l4 :: l5 :: l6 :: l7 :: l8 :: l9 :: l10 :: l11 :: l12 :: r) 12 v = l0 :: l1 :: l2 :: l3 :: l4 :: l5 :: l6 :: l7 :: l8 :: l9 :: l10 :: l11 :: some v :: r := by
  unfold am_s1
  rw [mm_clr (L := l0 :: l1 :: l2 :: l3 :: l4 :: l5 :: l6 :: l7 :: l8 :: l9 :: l10 :: l11 :: l12 :: r) (j := 11) h]
  rfl
theorem sc_I_12 (h : am_n2 l11 = true) : am_K d P Q (am_stI T (l0 :: l1 :: l2 :: l3 :: l4 :: l5 :: l6 :: l7 :: l8 :: l9 :: l10 :: l11 :: l12 :: r) (.int x :: st) g 12) ↔ am_E d P Q (T, l0 :: l1 :: l2 :: l3 :: l4 :: l5 :: l6 :: l7 :: l8 :: l9 :: l10 :: l11 :: some (.int x) :: r, st, g) := by
  unfold am_stI
  dsimp only
  rw [if_pos (by simp only [List.length_cons]; omega), s1_12 h]
  exact Iff.rfl
theorem sc_F_12 (h : am_n2 l11 = true) : am_K d P Q (am_stF T (l0 :: l1 :: l2 :: l3 :: l4 :: l5 :: l6 :: l7 :: l8 :: l9 :: l10 :: l11 :: l12 :: r) (.float t :: st) g 12) ↔ am_E d P Q (T, l0 :: l1 :: l2 :: l3 :: l4 :: l5 :: l6 :: l7 :: l8 :: l9 :: l10 :: l11 :: some (.float t) :: r, st, g) := by
  unfold am_stF
  dsimp only
  rw [if_pos (by simp only [List.length_cons]; omega), s1_12 h]
  exact Iff.rfl
theorem sc_A_12 (h : am_n2 l11 = true) : am_K d P Q (am_stA T (l0 :: l1 :: l2 :: l3 :: l4 :: l5 :: l6 :: l7 :: l8 :: l9 :: l10 :: l11 :: l12 :: r) (.ref a :: st) g 12) ↔ am_E d P Q (T, l0 :: l1 :: l2 :: l3 :: l4 :: l5 :: l6 :: l7 :: l8 :: l9 :: l10 :: l11 :: some (.ref a) :: r, st, g) := by
  unfold am_stA
  dsimp only
  rw [if_pos (by simp only [List.length_cons]; omega), s1_12 h]
  exact Iff.rfl
theorem sc_L_12 (h : am_n2 l11 = true) : am_K d P Q (am_stL T (l0 :: l1 :: l2 :: l3 :: l4 :: l5 :: l6 :: l7 :: l8 :: l9 :: l10 :: l11 :: l12 :: l13 :: r) (.long u :: st) g 12) ↔ am_E d P Q (T, l0 :: l1 :: l2 :: l3 :: l4 :: l5 :: l6 :: l7 :: l8 :: l9 :: l10 :: l11 :: some (.long u) :: none :: r, st, g) := by
  unfold am_stL
  dsimp only
  rw [if_pos (by simp only [List.length_cons]; omega)]
  unfold am_s2
  rw [mm_clr (L := l0 :: l1 :: l2 :: l3 :: l4 :: l5 :: l6 :: l7 :: l8 :: l9 :: l10 :: l11 :: l12 :: l13 :: r) (j := 11) h]
  exact Iff.rfl
theorem lc_I_13 : am_K d P Q (am_ldI T (l0 :: l1 :: l2 :: l3 :: l4 :: l5 :: l6 :: l7 :: l8 :: l9 :: l10 :: l11 :: l12 :: some (.int x) :: r) st g 13) ↔ am_E d P Q (T, l0 :: l1 :: l2 :: l3 :: l4 :: l5 :: l6 :: l7 :: l8 :: l9 :: l10 :: l11 :: l12 :: some (.int x) :: r, .int x :: st, g) := Iff.rfl
theorem lc_L_13 : am_K d P Q (am_ldL T (l0 :: l1 :: l2 :: l3 :: l4 :: l5 :: l6 :: l7 :: l8 :: l9 :: l10 :: l11 :: l12 :: some (.long u) :: r) st g 13) ↔ am_E d P Q (T, l0 :: l1 :: l2 :: l3 :: l4 :: l5 :: l6 :: l7 :: l8 :: l9 :: l10 :: l11 :: l12 :: some (.long u) :: r, .long u :: st, g) := Iff.rfl
theorem lc_F_13 : am_K d P Q (am_ldF T (l0 :: l1 :: l2 :: l3 :: l4 :: l5 :: l6 :: l7 :: l8 :: l9 :: l10 :: l11 :: l12 :: some (.float t) :: r) st g 13) ↔ am_E d P Q (T, l0 :: l1 :: l2 :: l3 :: l4 :: l5 :: l6 :: l7 :: l8 :: l9 :: l10 :: l11 :: l12 :: some (.float t) :: r, .float t :: st, g) := Iff.rfl
theorem lc_A_13 : am_K d P Q (am_ldA T (l0 :: l1 :: l2 :: l3 :: l4 :: l5 :: l6 :: l7 :: l8 :: l9 :: l10 :: l11 :: l12 :: some (.ref a) :: r) st g 13) ↔ am_E d P Q (T, l0 :: l1 :: l2 :: l3 :: l4 :: l5 :: l6 :: l7 :: l8 :: l9 :: l10 :: l11 :: l12 :: some (.ref a) :: r, .ref a :: st, g) := Iff.rfl
theorem s1_13 (h : am_n2 l12 = true) : am_s1 (l0 :: l1 :: l2 :: l3 :: l4 :: l5 :: l6 :: l7 :: l8 :: l9 :: l10 :: l11 :: l12 :: l13 :: r) 13 v = l0 :: l1 :: l2 :: l3 :: l4 :: l5 :: l6 :: l7 :: l8 :: l9 :: l10 :: l11 :: l12 :: some v :: r := by
  unfold am_s1
  rw [mm_clr (L := l0 :: l1 :: l2 :: l3 :: l4 :: l5 :: l6 :: l7 :: l8 :: l9 :: l10 :: l11 :: l12 :: l13 :: r) (j := 12) h]
  rfl
theorem sc_I_13 (h : am_n2 l12 = true) : am_K d P Q (am_stI T (l0 :: l1 :: l2 :: l3 :: l4 :: l5 :: l6 :: l7 :: l8 :: l9 :: l10 :: l11 :: l12 :: l13 :: r) (.int x :: st) g 13) ↔ am_E d P Q (T, l0 :: l1 :: l2 :: l3 :: l4 :: l5 :: l6 :: l7 :: l8 :: l9 :: l10 :: l11 :: l12 :: some (.int x) :: r, st, g) := by
  unfold am_stI
  dsimp only
  rw [if_pos (by simp only [List.length_cons]; omega), s1_13 h]
  exact Iff.rfl
theorem sc_F_13 (h : am_n2 l12 = true) : am_K d P Q (am_stF T (l0 :: l1 :: l2 :: l3 :: l4 :: l5 :: l6 :: l7 :: l8 :: l9 :: l10 :: l11 :: l12 :: l13 :: r) (.float t :: st) g 13) ↔ am_E d P Q (T, l0 :: l1 :: l2 :: l3 :: l4 :: l5 :: l6 :: l7 :: l8 :: l9 :: l10 :: l11 :: l12 :: some (.float t) :: r, st, g) := by
  unfold am_stF
  dsimp only
  rw [if_pos (by simp only [List.length_cons]; omega), s1_13 h]
  exact Iff.rfl
theorem sc_A_13 (h : am_n2 l12 = true) : am_K d P Q (am_stA T (l0 :: l1 :: l2 :: l3 :: l4 :: l5 :: l6 :: l7 :: l8 :: l9 :: l10 :: l11 :: l12 :: l13 :: r) (.ref a :: st) g 13) ↔ am_E d P Q (T, l0 :: l1 :: l2 :: l3 :: l4 :: l5 :: l6 :: l7 :: l8 :: l9 :: l10 :: l11 :: l12 :: some (.ref a) :: r, st, g) := by
  unfold am_stA
  dsimp only
  rw [if_pos (by simp only [List.length_cons]; omega), s1_13 h]
  exact Iff.rfl
theorem sc_L_13 (h : am_n2 l12 = true) : am_K d P Q (am_stL T (l0 :: l1 :: l2 :: l3 :: l4 :: l5 :: l6 :: l7 :: l8 :: l9 :: l10 :: l11 :: l12 :: l13 :: l14 :: r) (.long u :: st) g 13) ↔ am_E d P Q (T, l0 :: l1 :: l2 :: l3 :: l4 :: l5 :: l6 :: l7 :: l8 :: l9 :: l10 :: l11 :: l12 :: some (.long u) :: none :: r, st, g) := by
  unfold am_stL
  dsimp only
  rw [if_pos (by simp only [List.length_cons]; omega)]
  unfold am_s2
  rw [mm_clr (L := l0 :: l1 :: l2 :: l3 :: l4 :: l5 :: l6 :: l7 :: l8 :: l9 :: l10 :: l11 :: l12 :: l13 :: l14 :: r) (j := 12) h]
  exact Iff.rfl
theorem lc_I_14 : am_K d P Q (am_ldI T (l0 :: l1 :: l2 :: l3 :: l4 :: l5 :: l6 :: l7 :: l8 :: l9 :: l10 :: l11 :: l12 :: l13 :: some (.int x) :: r) st g 14) ↔ am_E d P Q (T, l0 :: l1 :: l2 :: l3 :: l4 :: l5 :: l6 :: l7 :: l8 :: l9 :: l10 :: l11 :: l12 :: l13 :: some (.int x) :: r, .int x :: st, g) := Iff.rfl
theorem lc_L_14 : am_K d P Q (am_ldL T (l0 :: l1 :: l2 :: l3 :: l4 :: l5 :: l6 :: l7 :: l8 :: l9 :: l10 :: l11 :: l12 :: l13 :: some (.long u) :: r) st g 14) ↔ am_E d P Q (T, l0 :: l1 :: l2 :: l3 :: l4 :: l5 :: l6 :: l7 :: l8 :: l9 :: l10 :: l11 :: l12 :: l13 :: some (.long u) :: r, .long u :: st, g) := Iff.rfl
theorem lc_F_14 : am_K d P Q (am_ldF T (l0 :: l1 :: l2 :: l3 :: l4 :: l5 :: l6 :: l7 :: l8 :: l9 :: l10 :: l11 :: l12 :: l13 :: some (.float t) :: r) st g 14) ↔ am_E d P Q (T, l0 :: l1 :: l2 :: l3 :: l4 :: l5 :: l6 :: l7 :: l8 :: l9 :: l10 :: l11 :: l12 :: l13 :: some (.float t) :: r, .float t :: st, g) := Iff.rfl
theorem lc_A_14 : am_K d P Q (am_ldA T (l0 :: l1 :: l2 :: l3 :: l4 :: l5 :: l6 :: l7 :: l8 :: l9 :: l10 :: l11 :: l12 :: l13 :: some (.ref a) :: r) st g 14) ↔ am_E d P Q (T, l0 :: l1 :: l2 :: l3 :: l4 :: l5 :: l6 :: l7 :: l8 :: l9 :: l10 :: l11 :: l12 :: l13 :: some (.ref a) :: r, .ref a :: st, g) := Iff.rfl
theorem s1_14 (h : am_n2 l13 = true) : am_s1 (l0 :: l1 :: l2 :: l3 :: l4 :: l5 :: l6 :: l7 :: l8 :: l9 :: l10 :: l11 :: l12 :: l13 :: l14 :: r) 14 v = l0 :: l1 :: l2 :: l3 :: l4 :: l5 :: l6 :: l7 :: l8 :: l9 :: l10 :: l11 :: l12 :: l13 :: some v :: r := by
  unfold am_s1
  rw [mm_clr (L := l0 :: l1 :: l2 :: l3 :: l4 :: l5 :: l6 :: l7 :: l8 :: l9 :: l10 :: l11 :: l12 :: l13 :: l14 :: r) (j := 13) h]
  rfl
theorem sc_I_14 (h : am_n2 l13 = true) : am_K d P Q (am_stI T (l0 :: l1 :: l2 :: l3 :: l4 :: l5 :: l6 :: l7 :: l8 :: l9 :: l10 :: l11 :: l12 :: l13 :: l14 :: r) (.int x :: st) g 14) ↔ am_E d P Q (T, l0 :: l1 :: l2 :: l3 :: l4 :: l5 :: l6 :: l7 :: l8 :: l9 :: l10 :: l11 :: l12 :: l13 :: some (.int x) :: r, st, g) := by
  unfold am_stI
  dsimp only
  rw [if_pos (by simp only [List.length_cons]; omega), s1_14 h]
  exact Iff.rfl
theorem sc_F_14 (h : am_n2 l13 = true) : am_K d P Q (am_stF T (l0 :: l1 :: l2 :: l3 :: l4 :: l5 :: l6 :: l7 :: l8 :: l9 :: l10 :: l11 :: l12 :: l13 :: l14 :: r) (.float t :: st) g 14) ↔ am_E d P Q (T, l0 :: l1 :: l2 :: l3 :: l4 :: l5 :: l6 :: l7 :: l8 :: l9 :: l10 :: l11 :: l12 :: l13 :: some (.float t) :: r, st, g) := by
  unfold am_stF
  dsimp only
  rw [if_pos (by simp only [List.length_cons]; omega), s1_14 h]
  exact Iff.rfl
theorem sc_A_14 (h : am_n2 l13 = true) : am_K d P Q (am_stA T (l0 :: l1 :: l2 :: l3 :: l4 :: l5 :: l6 :: l7 :: l8 :: l9 :: l10 :: l11 :: l12 :: l13 :: l14 :: r) (.ref a :: st) g 14) ↔ am_E d P Q (T, l0 :: l1 :: l2 :: l3 :: l4 :: l5 :: l6 :: l7 :: l8 :: l9 :: l10 :: l11 :: l12 :: l13 :: some (.ref a) :: r, st, g) := by
  unfold am_stA
  dsimp only
  rw [if_pos (by simp only [List.length_cons]; omega), s1_14 h]
  exact Iff.rfl
theorem sc_L_14 (h : am_n2 l13 = true) : am_K d P Q (am_stL T (l0 :: l1 :: l2 :: l3 :: l4 :: l5 :: l6 :: l7 :: l8 :: l9 :: l10 :: l11 :: l12 :: l13 :: l14 :: l15 :: r) (.long u :: st) g 14) ↔ am_E d P Q (T, l0 :: l1 :: l2 :: l3 :: l4 :: l5 :: l6 :: l7 :: l8 :: l9 :: l10 :: l11 :: l12 :: l13 :: some (.long u) :: none :: r, st, g) := by
  unfold am_stL
  dsimp only
  rw [if_pos (by simp only [List.length_cons]; omega)]
  unfold am_s2
  rw [mm_clr (L := l0 :: l1 :: l2 :: l3 :: l4 :: l5 :: l6 :: l7 :: l8 :: l9 :: l10 :: l11 :: l12 :: l13 :: l14 :: l15 :: r) (j := 13) h]
  exact Iff.rfl
theorem lc_I_15 : am_K d P Q (am_ldI T (l0 :: l1 :: l2 :: l3 :: l4 :: l5 :: l6 :: l7 :: l8 :: l9 :: l10 :: l11 :: l12 :: l13 :: l14 :: some (.int x) :: r) st g 15) ↔ am_E d P Q (T, l0 :: l1 :: l2 :: l3 :: l4 :: l5 :: l6 :: l7 :: l8 :: l9 :: l10 :: l11 :: l12 :: l13 :: l14 :: some (.int x) :: r, .int x :: st, g) := Iff.rfl
theorem lc_L_15 : am_K d P Q (am_ldL T (l0 :: l1 :: l2 :: l3 :: l4 :: l5 :: l6 :: l7 :: l8 :: l9 :: l10 :: l11 :: l12 :: l13 :: l14 :: some (.long u) :: r) st g 15) ↔ am_E d P Q (T, l0 :: l1 :: l2 :: l3 :: l4 :: l5 :: l6 :: l7 :: l8 :: l9 :: l10 :: l11 :: l12 :: l13 :: l14 :: some (.long u) :: r, .long u :: st, g) := Iff.rfl
theorem lc_F_15 : am_K d P Q (am_ldF T (l0 :: l1 :: l2 :: l3 :: l4 :: l5 :: l6 :: l7 :: l8 :: l9 :: l10 :: l11 :: l12 :: l13 :: l14 :: some (.float t) :: r) st g 15) ↔ am_E d P Q (T, l0 :: l1 :: l2 :: l3 :: l4 :: l5 :: l6 :: l7 :: l8 :: l9 :: l10 :: l11 :: l12 :: l13 :: l14 :: some (.float t) :: r, .float t :: st, g) := Iff.rfl
theorem lc_A_15 : am_K d P Q (am_ldA T (l0 :: l1 :: l2 :: l3 :: l4 :: l5 :: l6 :: l7 :: l8 :: l9 :: l10 :: l11 :: l12 :: l13 :: l14 :: some (.ref a) :: r) st g 15) ↔ am_E d P Q (T, l0 :: l1 :: l2 :: l3 :: l4 :: l5 :: l6 :: l7 :: l8 :: l9 :: l10 :: l11 :: l12 :: l13 :: l14 :: some (.ref a) :: r, .ref a :: st, g) := Iff.rfl
theorem s1_15 (h : am_n2 l14 = true) : am_s1 (l0 :: l1 :: l2 :: l3 :: l4 :: l5 :: l6 :: l7 :: l8 :: l9 :: l10 :: l11 :: l12 :: l13 :: l14 :: l15 :: r) 15 v = l0 :: l1 :: l2 :: l3 :: l4 :: l5 :: l6 :: l7 :: l8 :: l9 :: l10 :: l11 :: l12 :: l13 :: l14 :: some v :: r := by
  unfold am_s1
  rw [mm_clr (L := l0 :: l1 :: l2 :: l3 :: l4 :: l5 :: l6 :: l7 :: l8 :: l9 :: l10 :: l11 :: l12 :: l13 :: l14 :: l15 :: r) (j := 14) h]
  rfl
theorem sc_I_15 (h : am_n2 l14 = true) : am_K d P Q (am_stI T (l0 :: l1 :: l2 :: l3 :: l4 :: l5 :: l6 :: l7 :: l8 :: l9 :: l10 :: l11 :: l12 :: l13 :: l14 :: l15 :: r) (.int x :: st) g 15) ↔ am_E d P Q (T, l0 :: l1 :: l2 :: l3 :: l4 :: l5 :: l6 :: l7 :: l8 :: l9 :: l10 :: l11 :: l12 :: l13 :: l14 :: some (.int x) :: r, st, g) := by
  unfold am_stI
  dsimp only
  rw [if_pos (by simp only [List.length_cons]; omega), s1_15 h]
  exact Iff.rfl
theorem sc_F_15 (h : am_n2 l14 = true) : am_K d P Q (am_stF T (l0 :: l1 :: l2 :: l3 :: l4 :: l5 :: l6 :: l7 :: l8 :: l9 :: l10 :: l11 :: l12 :: l13 :: l14 :: l15 :: r) (.float t :: st) g 15) ↔ am_E d P Q (T, l0 :: l1 :: l2 :: l3 :: l4 :: l5 :: l6 :: l7 :: l8 :: l9 :: l10 :: l11 :: l12 :: l13 :: l14 :: some (.float t) :: r, st, g) := by
  unfold am_stF
  dsimp only
  rw [if_pos (by simp only [List.length_cons]; omega), s1_15 h]
  exact Iff.rfl
theorem sc_A_15 (h : am_n2 l14 = true) : am_K d P Q (am_stA T (l0 :: l1 :: l2 :: l3 :: l4 :: l5 :: l6 :: l7 :: l8 :: l9 :: l10 :: l11 :: l12 :: l13 :: l14 :: l15 :: r) (.ref a :: st) g 15) ↔ am_E d P Q (T, l0 :: l1 :: l2 :: l3 :: l4 :: l5 :: l6 :: l7 :: l8 :: l9 :: l10 :: l11 :: l12 :: l13 :: l14 :: some (.ref a) :: r, st, g) := by
  unfold am_stA
  dsimp only
  rw [if_pos (by simp only [List.length_cons]; omega), s1_15 h]
  exact Iff.rfl
theorem sc_L_15 (h : am_n2 l14 = true) : am_K d P Q (am_stL T (l0 :: l1 :: l2 :: l3 :: l4 :: l5 :: l6 :: l7 :: l8 :: l9 :: l10 :: l11 :: l12 :: l13 :: l14 :: l15 :: l16 :: r) (.long u :: st) g 15) ↔ am_E d P Q (T, l0 :: l1 :: l2 :: l3 :: l4 :: l5 :: l6 :: l7 :: l8 :: l9 :: l10 :: l11 :: l12 :: l13 :: l14 :: some (.long u) :: none :: r, st, g) := by
  unfold am_stL
  dsimp only
  rw [if_pos (by simp only [List.length_cons]; omega)]
  unfold am_s2
  rw [mm_clr (L := l0 :: l1 :: l2 :: l3 :: l4 :: l5 :: l6 :: l7 :: l8 :: l9 :: l10 :: l11 :: l12 :: l13 :: l14 :: l15 :: l16 :: r) (j := 14) h]
  exact Iff.rfl
theorem lc_I_16 : am_K d P Q (am_ldI T (l0 :: l1 :: l2 :: l3 :: l4 :: l5 :: l6 :: l7 :: l8 :: l9 :: l10 :: l11 :: l12 :: l13 :: l14 :: l15 :: some (.int x) :: r) st g 16) ↔ am_E d P Q (T, l0 :: l1 :: l2 :: l3 :: l4 :: l5 :: l6 :: l7 :: l8 :: l9 :: l10 :: l11 :: l12 :: l13 :: l14 :: l15 :: some (.int x) :: r, .int x :: st, g) := Iff.rfl
theorem lc_L_16 : am_K d P Q (am_ldL T (l0 :: l1 :: l2 :: l3 :: l4 :: l5 :: l6 :: l7 :: l8 :: l9 :: l10 :: l11 :: l12 :: l13 :: l14 :: l15 :: some (.long u) :: r) st g 16) ↔ am_E d P Q (T, l0 :: l1 :: l2 :: l3 :: l4 :: l5 :: l6 :: l7 :: l8 :: l9 :: l10 :: l11 :: l12 :: l13 :: l14 :: l15 :: some (.long u) :: r, .long u :: st, g) := Iff.rfl
theorem lc_F_16 : am_K d P Q (am_ldF T (l0 :: l1 :: l2 :: l3 :: l4 :: l5 :: l6 :: l7 :: l8 :: l9 :: l10 :: l11 :: l12 :: l13 :: l14 :: l15 :: some (.float t) :: r) st g 16) ↔ am_E d P Q (T, l0 :: l1 :: l2 :: l3 :: l4 :: l5 :: l6 :: l7 :: l8 :: l9 :: l10 :: l11 :: l12 :: l13 :: l14 :: l15 :: some (.float t) :: r, .float t :: st, g) := Iff.rfl
theorem lc_A_16 : am_K d P Q (am_ldA T (l0 :: l1 :: l2 :: l3 :: l4 :: l5 :: l6 :: l7 :: l8 :: l9 :: l10 :: l11 :: l12 :: l13 :: l14 :: l15 :: some (.ref a) :: r) st g 16) ↔ am_E d P Q (T, l0 :: l1 :: l2 :: l3 :: l4 :: l5 :: l6 :: l7 :: l8 :: l9 :: l10 :: l11 :: l12 :: l13 :: l14 :: l15 :: some (.ref a) :: r, .ref a :: st, g) := Iff.rfl
theorem s1_16 (h : am_n2 l15 = true) : am_s1 (l0 :: l1 :: l2 :: l3 :: l4 :: l5 :: l6 :: l7 :: l8 :: l9 :: l10 :: l11 :: l12 :: l13 :: l14 :: l15 :: l16 :: r) 16 v = l0 :: l1 :: l2 :: l3 :: l4 :: l5 :: l6 :: l7 :: l8 :: l9 :: l10 :: l11 :: l12 :: l13 :: l14 :: l15 :: some v :: r := by
  unfold am_s1
  rw [mm_clr (L := l0 :: l1 :: l2 :: l3 :: l4 :: l5 :: l6 :: l7 :: l8 :: l9 :: l10 :: l11 :: l12 :: l13 :: l14 :: l15 :: l16 :: r) (j := 15) h]
  rfl
theorem sc_I_16 (h : am_n2 l15 = true) : am_K d P Q (am_stI T (l0 :: l1 :: l2 :: l3 :: l4 :: l5 :: l6 :: l7 :: l8 :: l9 :: l10 :: l11 :: l12 :: l13 :: l14 :: l15 :: l16 :: r) (.int x :: st) g 16) ↔ am_E d P Q (T, l0 :: l1 :: l2 :: l3 :: l4 :: l5 :: l6 :: l7 :: l8 :: l9 :: l10 :: l11 :: l12 :: l13 :: l14 :: l15 :: some (.int x) :: r, st, g) := by
  unfold am_stI
  dsimp only
  rw [if_pos (by simp only [List.length_cons]; omega), s1_16 h]
  exact Iff.rfl
theorem sc_F_16 (h : am_n2 l15 = true) : am_K d P Q (am_stF T (l0 :: l1 :: l2 :: l3 :: l4 :: l5 :: l6 :: l7 :: l8 :: l9 :: l10 :: l11 :: l12 :: l13 :: l14 :: l15 :: l16 :: r) (.float t :: st) g 16) ↔ am_E d P Q (T, l0 :: l1 :: l2 :: l3 :: l4 :: l5 :: l6 :: l7 :: l8 :: l9 :: l10 :: l11 :: l12 :: l13 :: l14 :: l15 :: some (.float t) :: r, st, g) := by
  unfold am_stF
  dsimp only
  rw [if_pos (by simp only [List.length_cons]; omega), s1_16 h]
  exact Iff.rfl
theorem sc_A_16 (h : am_n2 l15 = true) : am_K d P Q (am_stA T (l0 :: l1 :: l2 :: l3 :: l4 :: l5 :: l6 :: l7 :: l8 :: l9 :: l10 :: l11 :: l12 :: l13 :: l14 :: l15 :: l16 :: r) (.ref a :: st) g 16) ↔ am_E d P Q (T, l0 :: l1 :: l2 :: l3 :: l4 :: l5 :: l6 :: l7 :: l8 :: l9 :: l10 :: l11 :: l12 :: l13 :: l14 :: l15 :: some (.ref a) :: r, st, g) := by
  unfold am_stA
  dsimp only
  rw [if_pos (by simp only [List.length_cons]; omega), s1_16 h]
  exact Iff.rfl
end ML
section MC
variable {d P pc M : Nat} {Q : am_Ou → am_G → Prop} {L : am_Lo} {st : List Value} {g : am_G} {W : am_Fr → Prop} {v : Value} {k a : Nat}
theorem bk_v : am_bk P pc L st W Q (.inl (some v)) g ↔ W (pc + 3, L, v :: st, g) := Iff.rfl
theorem bk_n : am_bk P pc L st W Q (.inl none) g ↔ W (pc + 3, L, st, g) := Iff.rfl
theorem bk_e (h : am_h P = []) : am_bk P pc L st W Q (.inr (k, a)) g ↔ Q (.inr (k, a)) g := by
  unfold am_bk am_hd
  rw [h]
  exact Iff.rfl
theorem bk_h {hp : Nat} (h : am_hd P pc k = some hp) : am_bk P pc L st W Q (.inr (k, a)) g ↔ W (hp, L, [.ref a], g) := by
  unfold am_bk
  dsimp only
  rw [h]
end MC
