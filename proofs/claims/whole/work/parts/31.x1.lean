/-! Rules of the machine, an instruction each. Written by program (wip/gen/genx.py). -/
section AMZ
variable {d : Nat} {Q : am_Ou → am_G → Prop} {L : am_Lo} {st : List Value} {g : am_G} {x y : Int32} {u w : Int64} {e1 : UInt32} {a : Nat} {v v1 : Value}
theorem x_27_0   : am_E d 27 Q (0, L, st, g) ↔ am_K d 27 Q (am_ldI 1 L st g 1) := am_E_iload_n (by decide +kernel : am_dc 27 0 = some (.iload_n 1)) rfl rfl
theorem x_27_1  : am_E d 27 Q (1, L, st, g) ↔ am_K d 27 Q (am_S 27 (.tableswitch (112) (0) (8) #[(51), (51), (51), (64), (72), (80), (88), (96), (104)]) 1 L st g) := am_E_x (by decide +kernel : am_dc 27 1 = some (.tableswitch (112) (0) (8) #[(51), (51), (51), (64), (72), (80), (88), (96), (104)]))
theorem x_27_52   : am_E d 27 Q (52, L, st, g) ↔ am_K d 27 Q (am_ldA 53 L st g 0) := am_E_aload_n (by decide +kernel : am_dc 27 52 = some (.aload_n 0)) rfl rfl
theorem x_27_53   : am_E d 27 Q (53, L, .ref a :: st, g) ↔ am_kv d 27 Q 56 L st g (am_gf g a 0 0) := am_E_getfield (by decide +kernel : am_dc 27 53 = some (.getfield 22)) (by decide +kernel) rfl
theorem x_27_56   : am_E d 27 Q (56, L, .ref a :: st, g) ↔ am_kv d 27 Q 59 L st g (am_gf g a 8 0) := am_E_getfield (by decide +kernel : am_dc 27 56 = some (.getfield 92)) (by decide +kernel) rfl
theorem x_27_59   : am_E d 27 Q (59, L, st, g) ↔ am_K d 27 Q (am_ldI 60 L st g 1) := am_E_iload_n (by decide +kernel : am_dc 27 59 = some (.iload_n 1)) rfl rfl
theorem x_27_60   : am_E d 27 Q (60, L, .int x :: .ref a :: st, g) ↔ am_kv d 27 Q 61 L st g (am_iat .aaload g a x) := am_E_aaload (by decide +kernel : am_dc 27 60 = some (.aaload)) rfl
theorem x_27_61   : am_E d 27 Q (61, L, .ref a :: st, g) ↔ am_kv d 27 Q 64 L st g (am_gf g a 10 6) := am_E_getfield (by decide +kernel : am_dc 27 61 = some (.getfield 96)) (by decide +kernel) rfl
theorem x_27_64  : am_E d 27 Q (64, L, [.int x], g) ↔ if am_ok (FieldType.int) (.int x) = true then Q (.inl (some (.int x))) g else False := am_E_ireturn (by decide +kernel : am_dc 27 64 = some (.ireturn)) (by decide +kernel)
theorem x_27_65   : am_E d 27 Q (65, L, st, g) ↔ am_K d 27 Q (am_ldA 66 L st g 0) := am_E_aload_n (by decide +kernel : am_dc 27 65 = some (.aload_n 0)) rfl rfl
theorem x_27_66   : am_E d 27 Q (66, L, .ref a :: st, g) ↔ am_kv d 27 Q 69 L st g (am_gf g a 0 1) := am_E_getfield (by decide +kernel : am_dc 27 66 = some (.getfield 28)) (by decide +kernel) rfl
theorem x_27_69   : am_E d 27 Q (69, L, .ref a :: st, g) ↔ am_kv d 27 Q 72 L st g (am_gf g a 7 1) := am_E_getfield (by decide +kernel : am_dc 27 69 = some (.getfield 152)) (by decide +kernel) rfl
theorem x_27_72  : am_E d 27 Q (72, L, [.int x], g) ↔ if am_ok (FieldType.int) (.int x) = true then Q (.inl (some (.int x))) g else False := am_E_ireturn (by decide +kernel : am_dc 27 72 = some (.ireturn)) (by decide +kernel)
theorem x_27_73   : am_E d 27 Q (73, L, st, g) ↔ am_K d 27 Q (am_ldA 74 L st g 0) := am_E_aload_n (by decide +kernel : am_dc 27 73 = some (.aload_n 0)) rfl rfl
theorem x_27_74   : am_E d 27 Q (74, L, .ref a :: st, g) ↔ am_kv d 27 Q 77 L st g (am_gf g a 0 2) := am_E_getfield (by decide +kernel : am_dc 27 74 = some (.getfield 32)) (by decide +kernel) rfl
theorem x_27_77   : am_E d 27 Q (77, L, .ref a :: st, g) ↔ am_kv d 27 Q 80 L st g (am_gf g a 2 1) := am_E_getfield (by decide +kernel : am_dc 27 77 = some (.getfield 230)) (by decide +kernel) rfl
theorem x_27_80  : am_E d 27 Q (80, L, [.int x], g) ↔ if am_ok (FieldType.int) (.int x) = true then Q (.inl (some (.int x))) g else False := am_E_ireturn (by decide +kernel : am_dc 27 80 = some (.ireturn)) (by decide +kernel)
theorem x_27_81   : am_E d 27 Q (81, L, st, g) ↔ am_K d 27 Q (am_ldA 82 L st g 0) := am_E_aload_n (by decide +kernel : am_dc 27 81 = some (.aload_n 0)) rfl rfl
theorem x_27_82   : am_E d 27 Q (82, L, .ref a :: st, g) ↔ am_kv d 27 Q 85 L st g (am_gf g a 0 2) := am_E_getfield (by decide +kernel : am_dc 27 82 = some (.getfield 32)) (by decide +kernel) rfl
theorem x_27_85  : am_E d 27 Q (85, L, st, g) ↔ am_K d 27 Q (am_S 27 (.invokevirtual 260) 85 L st g) := am_E_x (by decide +kernel : am_dc 27 85 = some (.invokevirtual 260))
theorem x_27_88  : am_E d 27 Q (88, L, [.int x], g) ↔ if am_ok (FieldType.int) (.int x) = true then Q (.inl (some (.int x))) g else False := am_E_ireturn (by decide +kernel : am_dc 27 88 = some (.ireturn)) (by decide +kernel)
theorem x_27_89   : am_E d 27 Q (89, L, st, g) ↔ am_K d 27 Q (am_ldA 90 L st g 0) := am_E_aload_n (by decide +kernel : am_dc 27 89 = some (.aload_n 0)) rfl rfl
theorem x_27_90   : am_E d 27 Q (90, L, .ref a :: st, g) ↔ am_kv d 27 Q 93 L st g (am_gf g a 0 3) := am_E_getfield (by decide +kernel : am_dc 27 90 = some (.getfield 41)) (by decide +kernel) rfl
theorem x_27_93   : am_E d 27 Q (93, L, .ref a :: st, g) ↔ am_kv d 27 Q 96 L st g (am_gf g a 3 4) := am_E_getfield (by decide +kernel : am_dc 27 93 = some (.getfield 248)) (by decide +kernel) rfl
theorem x_27_96  : am_E d 27 Q (96, L, [.int x], g) ↔ if am_ok (FieldType.int) (.int x) = true then Q (.inl (some (.int x))) g else False := am_E_ireturn (by decide +kernel : am_dc 27 96 = some (.ireturn)) (by decide +kernel)
theorem x_27_97   : am_E d 27 Q (97, L, st, g) ↔ am_K d 27 Q (am_ldA 98 L st g 0) := am_E_aload_n (by decide +kernel : am_dc 27 97 = some (.aload_n 0)) rfl rfl
theorem x_27_98   : am_E d 27 Q (98, L, .ref a :: st, g) ↔ am_kv d 27 Q 101 L st g (am_gf g a 0 3) := am_E_getfield (by decide +kernel : am_dc 27 98 = some (.getfield 41)) (by decide +kernel) rfl
theorem x_27_101   : am_E d 27 Q (101, L, .ref a :: st, g) ↔ am_kv d 27 Q 104 L st g (am_gf g a 3 5) := am_E_getfield (by decide +kernel : am_dc 27 101 = some (.getfield 254)) (by decide +kernel) rfl
theorem x_27_104  : am_E d 27 Q (104, L, [.int x], g) ↔ if am_ok (FieldType.int) (.int x) = true then Q (.inl (some (.int x))) g else False := am_E_ireturn (by decide +kernel : am_dc 27 104 = some (.ireturn)) (by decide +kernel)
theorem x_27_105   : am_E d 27 Q (105, L, st, g) ↔ am_K d 27 Q (am_ldA 106 L st g 0) := am_E_aload_n (by decide +kernel : am_dc 27 105 = some (.aload_n 0)) rfl rfl
theorem x_27_106   : am_E d 27 Q (106, L, .ref a :: st, g) ↔ am_kv d 27 Q 109 L st g (am_gf g a 0 6) := am_E_getfield (by decide +kernel : am_dc 27 106 = some (.getfield 61)) (by decide +kernel) rfl
theorem x_27_109   : am_E d 27 Q (109, L, .ref a :: st, g) ↔ am_kv d 27 Q 112 L st g (am_gf g a 4 1) := am_E_getfield (by decide +kernel : am_dc 27 109 = some (.getfield 263)) (by decide +kernel) rfl
theorem x_27_112  : am_E d 27 Q (112, L, [.int x], g) ↔ if am_ok (FieldType.int) (.int x) = true then Q (.inl (some (.int x))) g else False := am_E_ireturn (by decide +kernel : am_dc 27 112 = some (.ireturn)) (by decide +kernel)
theorem x_27_113  : am_E d 27 Q (113, L, st, g) ↔ am_K d 27 Q (am_S 27 (.new 89) 113 L st g) := am_E_x (by decide +kernel : am_dc 27 113 = some (.new 89))
theorem x_27_116   : am_E d 27 Q (116, L, v :: st, g) ↔ if v.category = 1 then am_E d 27 Q (117, L, v :: v :: st, g) else False := am_E_dup (by decide +kernel : am_dc 27 116 = some (.dup)) rfl
theorem x_27_117  : am_E d 27 Q (117, L, st, g) ↔ am_K d 27 Q (am_S 27 (.invokespecial 91) 117 L st g) := am_E_x (by decide +kernel : am_dc 27 117 = some (.invokespecial 91))
theorem f_27_22 : am_fl 27 22 = some (0, 0) := by decide +kernel
theorem f_27_92 : am_fl 27 92 = some (8, 0) := by decide +kernel
theorem f_27_96 : am_fl 27 96 = some (10, 6) := by decide +kernel
theorem f_27_28 : am_fl 27 28 = some (0, 1) := by decide +kernel
theorem f_27_152 : am_fl 27 152 = some (7, 1) := by decide +kernel
theorem f_27_32 : am_fl 27 32 = some (0, 2) := by decide +kernel
theorem f_27_230 : am_fl 27 230 = some (2, 1) := by decide +kernel
theorem v_27_260 : am_iv 27 260 = some (1, 78, 1) := by decide +kernel
theorem f_27_41 : am_fl 27 41 = some (0, 3) := by decide +kernel
theorem f_27_248 : am_fl 27 248 = some (3, 4) := by decide +kernel
theorem f_27_254 : am_fl 27 254 = some (3, 5) := by decide +kernel
theorem f_27_61 : am_fl 27 61 = some (0, 6) := by decide +kernel
theorem f_27_263 : am_fl 27 263 = some (4, 1) := by decide +kernel
theorem w_27_89 : am_nw 27 89 = none := by decide +kernel
theorem e_27_89 : am_xw 27 89 = some (1, 91) := by decide +kernel
theorem t_27 : am_t 27 = some (FieldType.int) := by decide +kernel
theorem h_27 : am_h 27 = [] := by decide +kernel
theorem m_27 : am_m 27 = 2 := by decide +kernel
theorem x_28_0   : am_E d 28 Q (0, L, st, g) ↔ am_K d 28 Q (am_ldA 1 L st g 0) := am_E_aload_n (by decide +kernel : am_dc 28 0 = some (.aload_n 0)) rfl rfl
theorem x_28_1   : am_E d 28 Q (1, L, st, g) ↔ am_K d 28 Q (am_ldI 2 L st g 1) := am_E_iload_n (by decide +kernel : am_dc 28 1 = some (.iload_n 1)) rfl rfl
theorem x_28_2  : am_E d 28 Q (2, L, st, g) ↔ am_K d 28 Q (am_S 28 (.invokevirtual 168) 2 L st g) := am_E_x (by decide +kernel : am_dc 28 2 = some (.invokevirtual 168))
theorem x_28_5   : am_E d 28 Q (5, L, .int x :: st, g) ↔ am_E d 28 Q (am_cmp .ne x 0 16 8, L, st, g) := am_E_if (by decide +kernel : am_dc 28 5 = some (.ifCond .ne (11))) rfl rfl
theorem x_28_8  : am_E d 28 Q (8, L, st, g) ↔ am_K d 28 Q (am_S 28 (.new 86) 8 L st g) := am_E_x (by decide +kernel : am_dc 28 8 = some (.new 86))
theorem x_28_11   : am_E d 28 Q (11, L, v :: st, g) ↔ if v.category = 1 then am_E d 28 Q (12, L, v :: v :: st, g) else False := am_E_dup (by decide +kernel : am_dc 28 11 = some (.dup)) rfl
theorem x_28_12  : am_E d 28 Q (12, L, st, g) ↔ am_K d 28 Q (am_S 28 (.invokespecial 88) 12 L st g) := am_E_x (by decide +kernel : am_dc 28 12 = some (.invokespecial 88))
theorem x_28_16   : am_E d 28 Q (16, L, st, g) ↔ am_K d 28 Q (am_ldA 17 L st g 0) := am_E_aload_n (by decide +kernel : am_dc 28 16 = some (.aload_n 0)) rfl rfl
theorem x_28_17   : am_E d 28 Q (17, L, .ref a :: st, g) ↔ am_kv d 28 Q 20 L st g (am_gf g a 0 4) := am_E_getfield (by decide +kernel : am_dc 28 17 = some (.getfield 50)) (by decide +kernel) rfl
theorem x_28_20   : am_E d 28 Q (20, L, st, g) ↔ am_K d 28 Q (am_ldI 21 L st g 1) := am_E_iload_n (by decide +kernel : am_dc 28 20 = some (.iload_n 1)) rfl rfl
theorem x_28_21   : am_E d 28 Q (21, L, st, g) ↔ am_K d 28 Q (am_ldA 22 L st g 0) := am_E_aload_n (by decide +kernel : am_dc 28 21 = some (.aload_n 0)) rfl rfl
theorem x_28_22  : am_E d 28 Q (22, L, st, g) ↔ am_K d 28 Q (am_S 28 (.invokevirtual 177) 22 L st g) := am_E_x (by decide +kernel : am_dc 28 22 = some (.invokevirtual 177))
theorem x_28_25  : am_E d 28 Q (25, L, st, g) ↔ am_K d 28 Q (am_S 28 (.invokevirtual 282) 25 L st g) := am_E_x (by decide +kernel : am_dc 28 25 = some (.invokevirtual 282))
theorem x_28_28  : am_E d 28 Q (28, L, [.long u], g) ↔ Q (.inl (some (.long u))) g := am_E_lreturn (by decide +kernel : am_dc 28 28 = some (.lreturn)) (by decide +kernel)
theorem v_28_168 : am_iv 28 168 = some (1, 26, 2) := by decide +kernel
theorem w_28_86 : am_nw 28 86 = none := by decide +kernel
theorem e_28_86 : am_xw 28 86 = some (0, 88) := by decide +kernel
theorem f_28_50 : am_fl 28 50 = some (0, 4) := by decide +kernel
theorem v_28_177 : am_iv 28 177 = some (1, 29, 1) := by decide +kernel
theorem v_28_282 : am_iv 28 282 = some (1, 64, 3) := by decide +kernel
theorem t_28 : am_t 28 = some (FieldType.long) := by decide +kernel
theorem h_28 : am_h 28 = [] := by decide +kernel
theorem m_28 : am_m 28 = 2 := by decide +kernel
theorem x_29_0   : am_E d 29 Q (0, L, st, g) ↔ am_K d 29 Q (am_ldA 1 L st g 0) := am_E_aload_n (by decide +kernel : am_dc 29 0 = some (.aload_n 0)) rfl rfl
theorem x_29_1   : am_E d 29 Q (1, L, .ref a :: st, g) ↔ am_kv d 29 Q 4 L st g (am_gf g a 0 9) := am_E_getfield (by decide +kernel : am_dc 29 1 = some (.getfield 78)) (by decide +kernel) rfl
theorem x_29_4   : am_E d 29 Q (4, L, st, g) ↔ am_E d 29 Q (5, L, .int (0) :: st, g) := am_E_iconst (by decide +kernel : am_dc 29 4 = some (.iconst (0))) (by decide) rfl
theorem x_29_5   : am_E d 29 Q (5, L, .int x :: .ref a :: st, g) ↔ am_kv d 29 Q 6 L st g (am_iat .iaload g a x) := am_E_iaload (by decide +kernel : am_dc 29 5 = some (.iaload)) rfl
theorem x_29_6  : am_E d 29 Q (6, L, st, g) ↔ am_K d 29 Q (am_S 29 (.getstatic 279) 6 L st g) := am_E_x (by decide +kernel : am_dc 29 6 = some (.getstatic 279))
theorem x_29_9   : am_E d 29 Q (9, L, st, g) ↔ am_E d 29 Q (10, L, .int (0) :: st, g) := am_E_iconst (by decide +kernel : am_dc 29 9 = some (.iconst (0))) (by decide) rfl
theorem x_29_10   : am_E d 29 Q (10, L, .int x :: .ref a :: st, g) ↔ am_kv d 29 Q 11 L st g (am_iat .iaload g a x) := am_E_iaload (by decide +kernel : am_dc 29 10 = some (.iaload)) rfl
theorem x_29_11   : am_E d 29 Q (11, L, .int y :: .int x :: st, g) ↔ am_E d 29 Q (12, L, .int (x * y) :: st, g) := am_E_imul (by decide +kernel : am_dc 29 11 = some (.imul)) rfl
theorem x_29_12   : am_E d 29 Q (12, L, st, g) ↔ am_K d 29 Q (am_ldA 13 L st g 0) := am_E_aload_n (by decide +kernel : am_dc 29 12 = some (.aload_n 0)) rfl rfl
theorem x_29_13   : am_E d 29 Q (13, L, .ref a :: st, g) ↔ am_kv d 29 Q 16 L st g (am_gf g a 0 9) := am_E_getfield (by decide +kernel : am_dc 29 13 = some (.getfield 78)) (by decide +kernel) rfl
theorem x_29_16   : am_E d 29 Q (16, L, st, g) ↔ am_E d 29 Q (17, L, .int (1) :: st, g) := am_E_iconst (by decide +kernel : am_dc 29 16 = some (.iconst (1))) (by decide) rfl
theorem x_29_17   : am_E d 29 Q (17, L, .int x :: .ref a :: st, g) ↔ am_kv d 29 Q 18 L st g (am_iat .iaload g a x) := am_E_iaload (by decide +kernel : am_dc 29 17 = some (.iaload)) rfl
theorem x_29_18  : am_E d 29 Q (18, L, st, g) ↔ am_K d 29 Q (am_S 29 (.getstatic 279) 18 L st g) := am_E_x (by decide +kernel : am_dc 29 18 = some (.getstatic 279))
theorem x_29_21   : am_E d 29 Q (21, L, st, g) ↔ am_E d 29 Q (22, L, .int (1) :: st, g) := am_E_iconst (by decide +kernel : am_dc 29 21 = some (.iconst (1))) (by decide) rfl
theorem x_29_22   : am_E d 29 Q (22, L, .int x :: .ref a :: st, g) ↔ am_kv d 29 Q 23 L st g (am_iat .iaload g a x) := am_E_iaload (by decide +kernel : am_dc 29 22 = some (.iaload)) rfl
theorem x_29_23   : am_E d 29 Q (23, L, .int y :: .int x :: st, g) ↔ am_E d 29 Q (24, L, .int (x * y) :: st, g) := am_E_imul (by decide +kernel : am_dc 29 23 = some (.imul)) rfl
theorem x_29_24   : am_E d 29 Q (24, L, .int y :: .int x :: st, g) ↔ am_E d 29 Q (25, L, .int (x + y) :: st, g) := am_E_iadd (by decide +kernel : am_dc 29 24 = some (.iadd)) rfl
theorem x_29_25   : am_E d 29 Q (25, L, st, g) ↔ am_K d 29 Q (am_ldA 26 L st g 0) := am_E_aload_n (by decide +kernel : am_dc 29 25 = some (.aload_n 0)) rfl rfl
theorem x_29_26   : am_E d 29 Q (26, L, .ref a :: st, g) ↔ am_kv d 29 Q 29 L st g (am_gf g a 0 9) := am_E_getfield (by decide +kernel : am_dc 29 26 = some (.getfield 78)) (by decide +kernel) rfl
theorem x_29_29   : am_E d 29 Q (29, L, st, g) ↔ am_E d 29 Q (30, L, .int (2) :: st, g) := am_E_iconst (by decide +kernel : am_dc 29 29 = some (.iconst (2))) (by decide) rfl
theorem x_29_30   : am_E d 29 Q (30, L, .int x :: .ref a :: st, g) ↔ am_kv d 29 Q 31 L st g (am_iat .iaload g a x) := am_E_iaload (by decide +kernel : am_dc 29 30 = some (.iaload)) rfl
theorem x_29_31  : am_E d 29 Q (31, L, st, g) ↔ am_K d 29 Q (am_S 29 (.getstatic 279) 31 L st g) := am_E_x (by decide +kernel : am_dc 29 31 = some (.getstatic 279))
theorem x_29_34   : am_E d 29 Q (34, L, st, g) ↔ am_E d 29 Q (35, L, .int (2) :: st, g) := am_E_iconst (by decide +kernel : am_dc 29 34 = some (.iconst (2))) (by decide) rfl
theorem x_29_35   : am_E d 29 Q (35, L, .int x :: .ref a :: st, g) ↔ am_kv d 29 Q 36 L st g (am_iat .iaload g a x) := am_E_iaload (by decide +kernel : am_dc 29 35 = some (.iaload)) rfl
theorem x_29_36   : am_E d 29 Q (36, L, .int y :: .int x :: st, g) ↔ am_E d 29 Q (37, L, .int (x * y) :: st, g) := am_E_imul (by decide +kernel : am_dc 29 36 = some (.imul)) rfl
theorem x_29_37   : am_E d 29 Q (37, L, .int y :: .int x :: st, g) ↔ am_E d 29 Q (38, L, .int (x + y) :: st, g) := am_E_iadd (by decide +kernel : am_dc 29 37 = some (.iadd)) rfl
theorem x_29_38  : am_E d 29 Q (38, L, [.int x], g) ↔ if am_ok (FieldType.int) (.int x) = true then Q (.inl (some (.int x))) g else False := am_E_ireturn (by decide +kernel : am_dc 29 38 = some (.ireturn)) (by decide +kernel)
theorem f_29_78 : am_fl 29 78 = some (0, 9) := by decide +kernel
theorem s_29_279 : am_gs 29 279 = some 1 := by decide +kernel
theorem t_29 : am_t 29 = some (FieldType.int) := by decide +kernel
theorem h_29 : am_h 29 = [] := by decide +kernel
theorem m_29 : am_m 29 = 1 := by decide +kernel
theorem x_30_0   : am_E d 30 Q (0, L, st, g) ↔ am_K d 30 Q (am_ldA 1 L st g 0) := am_E_aload_n (by decide +kernel : am_dc 30 0 = some (.aload_n 0)) rfl rfl
theorem x_30_1   : am_E d 30 Q (1, L, .ref a :: st, g) ↔ am_kv d 30 Q 4 L st g (am_gf g a 0 0) := am_E_getfield (by decide +kernel : am_dc 30 1 = some (.getfield 22)) (by decide +kernel) rfl
theorem x_30_4   : am_E d 30 Q (4, L, st, g) ↔ am_K d 30 Q (am_ldI 5 L st g 1) := am_E_iload_n (by decide +kernel : am_dc 30 4 = some (.iload_n 1)) rfl rfl
theorem x_30_5   : am_E d 30 Q (5, L, st, g) ↔ am_K d 30 Q (am_ldI 6 L st g 2) := am_E_iload_n (by decide +kernel : am_dc 30 5 = some (.iload_n 2)) rfl rfl
theorem x_30_6  : am_E d 30 Q (6, L, st, g) ↔ am_K d 30 Q (am_S 30 (.invokevirtual 112) 6 L st g) := am_E_x (by decide +kernel : am_dc 30 6 = some (.invokevirtual 112))
theorem x_30_9   : am_E d 30 Q (9, L, .int x :: st, g) ↔ am_E d 30 Q (am_cmp .ne x 0 20 12, L, st, g) := am_E_if (by decide +kernel : am_dc 30 9 = some (.ifCond .ne (11))) rfl rfl
theorem x_30_12  : am_E d 30 Q (12, L, st, g) ↔ am_K d 30 Q (am_S 30 (.new 86) 12 L st g) := am_E_x (by decide +kernel : am_dc 30 12 = some (.new 86))
theorem x_30_15   : am_E d 30 Q (15, L, v :: st, g) ↔ if v.category = 1 then am_E d 30 Q (16, L, v :: v :: st, g) else False := am_E_dup (by decide +kernel : am_dc 30 15 = some (.dup)) rfl
theorem x_30_16  : am_E d 30 Q (16, L, st, g) ↔ am_K d 30 Q (am_S 30 (.invokespecial 88) 16 L st g) := am_E_x (by decide +kernel : am_dc 30 16 = some (.invokespecial 88))
theorem x_30_20   : am_E d 30 Q (20, L, st, g) ↔ am_K d 30 Q (am_ldA 21 L st g 0) := am_E_aload_n (by decide +kernel : am_dc 30 20 = some (.aload_n 0)) rfl rfl
theorem x_30_21   : am_E d 30 Q (21, L, .ref a :: st, g) ↔ am_kv d 30 Q 24 L st g (am_gf g a 0 0) := am_E_getfield (by decide +kernel : am_dc 30 21 = some (.getfield 22)) (by decide +kernel) rfl
theorem x_30_24   : am_E d 30 Q (24, L, .ref a :: st, g) ↔ am_kv d 30 Q 27 L st g (am_gf g a 8 0) := am_E_getfield (by decide +kernel : am_dc 30 24 = some (.getfield 92)) (by decide +kernel) rfl
theorem x_30_27   : am_E d 30 Q (27, L, st, g) ↔ am_K d 30 Q (am_ldI 28 L st g 1) := am_E_iload_n (by decide +kernel : am_dc 30 27 = some (.iload_n 1)) rfl rfl
theorem x_30_28   : am_E d 30 Q (28, L, .int x :: .ref a :: st, g) ↔ am_kv d 30 Q 29 L st g (am_iat .aaload g a x) := am_E_aaload (by decide +kernel : am_dc 30 28 = some (.aaload)) rfl
theorem x_30_29   : am_E d 30 Q (29, L, st, g) ↔ am_K d 30 Q (am_stA 30 L st g 3) := am_E_astore_n (by decide +kernel : am_dc 30 29 = some (.astore_n 3)) rfl rfl
theorem x_30_30   : am_E d 30 Q (30, L, st, g) ↔ am_K d 30 Q (am_ldA 31 L st g 3) := am_E_aload_n (by decide +kernel : am_dc 30 30 = some (.aload_n 3)) rfl rfl
theorem x_30_31   : am_E d 30 Q (31, L, st, g) ↔ am_K d 30 Q (am_ldI 32 L st g 2) := am_E_iload_n (by decide +kernel : am_dc 30 31 = some (.iload_n 2)) rfl rfl
theorem x_30_32  : am_E d 30 Q (32, L, st, g) ↔ am_K d 30 Q (am_S 30 (.invokevirtual 125) 32 L st g) := am_E_x (by decide +kernel : am_dc 30 32 = some (.invokevirtual 125))
theorem x_30_35   : am_E d 30 Q (35, L, .int x :: st, g) ↔ am_E d 30 Q (am_cmp .eq x 0 50 38, L, st, g) := am_E_if (by decide +kernel : am_dc 30 35 = some (.ifCond .eq (15))) rfl rfl
theorem x_30_38   : am_E d 30 Q (38, L, st, g) ↔ am_K d 30 Q (am_ldA 39 L st g 0) := am_E_aload_n (by decide +kernel : am_dc 30 38 = some (.aload_n 0)) rfl rfl
theorem x_30_39   : am_E d 30 Q (39, L, .ref a :: st, g) ↔ am_kv d 30 Q 42 L st g (am_gf g a 0 1) := am_E_getfield (by decide +kernel : am_dc 30 39 = some (.getfield 28)) (by decide +kernel) rfl
theorem x_30_42   : am_E d 30 Q (42, L, st, g) ↔ am_K d 30 Q (am_ldI 43 L st g 1) := am_E_iload_n (by decide +kernel : am_dc 30 42 = some (.iload_n 1)) rfl rfl
theorem x_30_43   : am_E d 30 Q (43, L, st, g) ↔ am_K d 30 Q (am_ldI 44 L st g 2) := am_E_iload_n (by decide +kernel : am_dc 30 43 = some (.iload_n 2)) rfl rfl
theorem x_30_44  : am_E d 30 Q (44, L, st, g) ↔ am_K d 30 Q (am_S 30 (.invokevirtual 129) 44 L st g) := am_E_x (by decide +kernel : am_dc 30 44 = some (.invokevirtual 129))
theorem x_30_47   : am_E d 30 Q (47, L, .int x :: st, g) ↔ am_E d 30 Q (am_cmp .eq x 0 58 50, L, st, g) := am_E_if (by decide +kernel : am_dc 30 47 = some (.ifCond .eq (11))) rfl rfl
theorem x_30_50  : am_E d 30 Q (50, L, st, g) ↔ am_K d 30 Q (am_S 30 (.new 102) 50 L st g) := am_E_x (by decide +kernel : am_dc 30 50 = some (.new 102))
theorem x_30_53   : am_E d 30 Q (53, L, v :: st, g) ↔ if v.category = 1 then am_E d 30 Q (54, L, v :: v :: st, g) else False := am_E_dup (by decide +kernel : am_dc 30 53 = some (.dup)) rfl
theorem x_30_54  : am_E d 30 Q (54, L, st, g) ↔ am_K d 30 Q (am_S 30 (.invokespecial 104) 54 L st g) := am_E_x (by decide +kernel : am_dc 30 54 = some (.invokespecial 104))
theorem x_30_58   : am_E d 30 Q (58, L, st, g) ↔ am_K d 30 Q (am_ldA 59 L st g 0) := am_E_aload_n (by decide +kernel : am_dc 30 58 = some (.aload_n 0)) rfl rfl
theorem x_30_59   : am_E d 30 Q (59, L, .ref a :: st, g) ↔ am_kv d 30 Q 62 L st g (am_gf g a 0 3) := am_E_getfield (by decide +kernel : am_dc 30 59 = some (.getfield 41)) (by decide +kernel) rfl
theorem x_30_62  : am_E d 30 Q (62, L, st, g) ↔ am_K d 30 Q (am_S 30 (.invokevirtual 105) 62 L st g) := am_E_x (by decide +kernel : am_dc 30 62 = some (.invokevirtual 105))
theorem x_30_65   : am_E d 30 Q (65, L, st, g) ↔ am_K d 30 Q (am_ldA 66 L st g 3) := am_E_aload_n (by decide +kernel : am_dc 30 65 = some (.aload_n 3)) rfl rfl
theorem x_30_66   : am_E d 30 Q (66, L, st, g) ↔ am_K d 30 Q (am_ldI 67 L st g 2) := am_E_iload_n (by decide +kernel : am_dc 30 66 = some (.iload_n 2)) rfl rfl
theorem x_30_67  : am_E d 30 Q (67, L, st, g) ↔ am_K d 30 Q (am_S 30 (.invokevirtual 132) 67 L st g) := am_E_x (by decide +kernel : am_dc 30 67 = some (.invokevirtual 132))
theorem x_30_70   : am_E d 30 Q (70, L, st, g) ↔ am_K d 30 Q (am_ldA 71 L st g 0) := am_E_aload_n (by decide +kernel : am_dc 30 70 = some (.aload_n 0)) rfl rfl
theorem x_30_71   : am_E d 30 Q (71, L, .ref a :: st, g) ↔ am_kv d 30 Q 74 L st g (am_gf g a 0 7) := am_E_getfield (by decide +kernel : am_dc 30 71 = some (.getfield 65)) (by decide +kernel) rfl
theorem x_30_74   : am_E d 30 Q (74, L, st, g) ↔ am_K d 30 Q (am_ldI 75 L st g 1) := am_E_iload_n (by decide +kernel : am_dc 30 74 = some (.iload_n 1)) rfl rfl
theorem x_30_75   : am_E d 30 Q (75, L, st, g) ↔ am_K d 30 Q (am_ldI 76 L st g 2) := am_E_iload_n (by decide +kernel : am_dc 30 75 = some (.iload_n 2)) rfl rfl
theorem x_30_76  : am_E d 30 Q (76, L, st, g) ↔ am_K d 30 Q (am_S 30 (.invokevirtual 136) 76 L st g) := am_E_x (by decide +kernel : am_dc 30 76 = some (.invokevirtual 136))
theorem x_30_79   : am_E d 30 Q (79, L, st, g) ↔ am_K d 30 Q (am_ldA 80 L st g 0) := am_E_aload_n (by decide +kernel : am_dc 30 79 = some (.aload_n 0)) rfl rfl
theorem x_30_80   : am_E d 30 Q (80, L, .ref a :: st, g) ↔ am_kv d 30 Q 83 L st g (am_gf g a 0 2) := am_E_getfield (by decide +kernel : am_dc 30 80 = some (.getfield 32)) (by decide +kernel) rfl
theorem x_30_83   : am_E d 30 Q (83, L, st, g) ↔ am_K d 30 Q (am_ldI 84 L st g 1) := am_E_iload_n (by decide +kernel : am_dc 30 83 = some (.iload_n 1)) rfl rfl
theorem x_30_84   : am_E d 30 Q (84, L, st, g) ↔ am_K d 30 Q (am_ldI 85 L st g 2) := am_E_iload_n (by decide +kernel : am_dc 30 84 = some (.iload_n 2)) rfl rfl
theorem x_30_85  : am_E d 30 Q (85, L, st, g) ↔ am_K d 30 Q (am_S 30 (.invokevirtual 139) 85 L st g) := am_E_x (by decide +kernel : am_dc 30 85 = some (.invokevirtual 139))
theorem x_30_88  : am_E d 30 Q (88, L, [.int x], g) ↔ if am_ok (FieldType.int) (.int x) = true then Q (.inl (some (.int x))) g else False := am_E_ireturn (by decide +kernel : am_dc 30 88 = some (.ireturn)) (by decide +kernel)
theorem f_30_22 : am_fl 30 22 = some (0, 0) := by decide +kernel
theorem v_30_112 : am_iv 30 112 = some (1, 126, 3) := by decide +kernel
theorem w_30_86 : am_nw 30 86 = none := by decide +kernel
theorem e_30_86 : am_xw 30 86 = some (0, 88) := by decide +kernel
theorem f_30_92 : am_fl 30 92 = some (8, 0) := by decide +kernel
theorem v_30_125 : am_iv 30 125 = some (1, 150, 2) := by decide +kernel
theorem f_30_28 : am_fl 30 28 = some (0, 1) := by decide +kernel
theorem v_30_129 : am_iv 30 129 = some (1, 122, 3) := by decide +kernel
theorem w_30_102 : am_nw 30 102 = none := by decide +kernel
theorem e_30_102 : am_xw 30 102 = some (2, 104) := by decide +kernel
theorem f_30_41 : am_fl 30 41 = some (0, 3) := by decide +kernel
theorem v_30_105 : am_iv 30 105 = some (1, 86, 1) := by decide +kernel
theorem v_30_132 : am_iv 30 132 = some (1, 144, 2) := by decide +kernel
theorem f_30_65 : am_fl 30 65 = some (0, 7) := by decide +kernel
theorem v_30_136 : am_iv 30 136 = some (1, 113, 3) := by decide +kernel
theorem f_30_32 : am_fl 30 32 = some (0, 2) := by decide +kernel
theorem v_30_139 : am_iv 30 139 = some (1, 83, 3) := by decide +kernel
theorem t_30 : am_t 30 = some (FieldType.int) := by decide +kernel
theorem h_30 : am_h 30 = [] := by decide +kernel
theorem m_30 : am_m 30 = 4 := by decide +kernel
theorem x_31_0   : am_E d 31 Q (0, L, st, g) ↔ am_K d 31 Q (am_ldA 1 L st g 0) := am_E_aload_n (by decide +kernel : am_dc 31 0 = some (.aload_n 0)) rfl rfl
theorem x_31_1   : am_E d 31 Q (1, L, .ref a :: st, g) ↔ am_kv d 31 Q 4 L st g (am_gf g a 0 2) := am_E_getfield (by decide +kernel : am_dc 31 1 = some (.getfield 32)) (by decide +kernel) rfl
theorem x_31_4   : am_E d 31 Q (4, L, .ref a :: st, g) ↔ am_kv d 31 Q 7 L st g (am_gf g a 2 1) := am_E_getfield (by decide +kernel : am_dc 31 4 = some (.getfield 230)) (by decide +kernel) rfl
theorem x_31_7   : am_E d 31 Q (7, L, st, g) ↔ am_E d 31 Q (8, L, .int (1) :: st, g) := am_E_iconst (by decide +kernel : am_dc 31 7 = some (.iconst (1))) (by decide) rfl
theorem x_31_8   : am_E d 31 Q (8, L, .int y :: .int x :: st, g) ↔ am_E d 31 Q (am_cmp .gt x y 19 11, L, st, g) := am_E_ic (by decide +kernel : am_dc 31 8 = some (.if_icmp .gt (11))) rfl rfl
theorem x_31_11  : am_E d 31 Q (11, L, st, g) ↔ am_K d 31 Q (am_S 31 (.new 102) 11 L st g) := am_E_x (by decide +kernel : am_dc 31 11 = some (.new 102))
theorem x_31_14   : am_E d 31 Q (14, L, v :: st, g) ↔ if v.category = 1 then am_E d 31 Q (15, L, v :: v :: st, g) else False := am_E_dup (by decide +kernel : am_dc 31 14 = some (.dup)) rfl
theorem x_31_15  : am_E d 31 Q (15, L, st, g) ↔ am_K d 31 Q (am_S 31 (.invokespecial 104) 15 L st g) := am_E_x (by decide +kernel : am_dc 31 15 = some (.invokespecial 104))
theorem x_31_19   : am_E d 31 Q (19, L, st, g) ↔ am_K d 31 Q (am_ldA 20 L st g 0) := am_E_aload_n (by decide +kernel : am_dc 31 19 = some (.aload_n 0)) rfl rfl
theorem x_31_20   : am_E d 31 Q (20, L, .ref a :: st, g) ↔ am_kv d 31 Q 23 L st g (am_gf g a 0 3) := am_E_getfield (by decide +kernel : am_dc 31 20 = some (.getfield 41)) (by decide +kernel) rfl
theorem x_31_23  : am_E d 31 Q (23, L, st, g) ↔ am_K d 31 Q (am_S 31 (.invokevirtual 105) 23 L st g) := am_E_x (by decide +kernel : am_dc 31 23 = some (.invokevirtual 105))
theorem x_31_26   : am_E d 31 Q (26, L, st, g) ↔ am_K d 31 Q (am_ldA 27 L st g 0) := am_E_aload_n (by decide +kernel : am_dc 31 26 = some (.aload_n 0)) rfl rfl
theorem x_31_27   : am_E d 31 Q (27, L, .ref a :: st, g) ↔ am_kv d 31 Q 30 L st g (am_gf g a 0 2) := am_E_getfield (by decide +kernel : am_dc 31 27 = some (.getfield 32)) (by decide +kernel) rfl
theorem x_31_30   : am_E d 31 Q (30, L, st, g) ↔ am_K d 31 Q (am_ldI 31 L st g 1) := am_E_iload_n (by decide +kernel : am_dc 31 30 = some (.iload_n 1)) rfl rfl
theorem x_31_31  : am_E d 31 Q (31, L, st, g) ↔ am_K d 31 Q (am_S 31 (.invokevirtual 236) 31 L st g) := am_E_x (by decide +kernel : am_dc 31 31 = some (.invokevirtual 236))
theorem x_31_34  : am_E d 31 Q (34, L, [.int x], g) ↔ if am_ok (FieldType.int) (.int x) = true then Q (.inl (some (.int x))) g else False := am_E_ireturn (by decide +kernel : am_dc 31 34 = some (.ireturn)) (by decide +kernel)
theorem f_31_32 : am_fl 31 32 = some (0, 2) := by decide +kernel
theorem f_31_230 : am_fl 31 230 = some (2, 1) := by decide +kernel
theorem w_31_102 : am_nw 31 102 = none := by decide +kernel
theorem e_31_102 : am_xw 31 102 = some (2, 104) := by decide +kernel
theorem f_31_41 : am_fl 31 41 = some (0, 3) := by decide +kernel
theorem v_31_105 : am_iv 31 105 = some (1, 86, 1) := by decide +kernel
theorem v_31_236 : am_iv 31 236 = some (1, 81, 2) := by decide +kernel
theorem t_31 : am_t 31 = some (FieldType.int) := by decide +kernel
theorem h_31 : am_h 31 = [] := by decide +kernel
theorem m_31 : am_m 31 = 2 := by decide +kernel
theorem x_32_0   : am_E d 32 Q (0, L, st, g) ↔ am_K d 32 Q (am_ldI 1 L st g 1) := am_E_iload_n (by decide +kernel : am_dc 32 0 = some (.iload_n 1)) rfl rfl
theorem x_32_1   : am_E d 32 Q (1, L, .int x :: st, g) ↔ am_E d 32 Q (am_cmp .lt x 0 15 4, L, st, g) := am_E_if (by decide +kernel : am_dc 32 1 = some (.ifCond .lt (14))) rfl rfl
theorem x_32_4   : am_E d 32 Q (4, L, st, g) ↔ am_K d 32 Q (am_ldI 5 L st g 1) := am_E_iload_n (by decide +kernel : am_dc 32 4 = some (.iload_n 1)) rfl rfl
theorem x_32_5   : am_E d 32 Q (5, L, st, g) ↔ am_K d 32 Q (am_ldA 6 L st g 0) := am_E_aload_n (by decide +kernel : am_dc 32 5 = some (.aload_n 0)) rfl rfl
theorem x_32_6   : am_E d 32 Q (6, L, .ref a :: st, g) ↔ am_kv d 32 Q 9 L st g (am_gf g a 0 1) := am_E_getfield (by decide +kernel : am_dc 32 6 = some (.getfield 28)) (by decide +kernel) rfl
theorem x_32_9   : am_E d 32 Q (9, L, .ref a :: st, g) ↔ am_kv d 32 Q 12 L st g (am_gf g a 7 1) := am_E_getfield (by decide +kernel : am_dc 32 9 = some (.getfield 152)) (by decide +kernel) rfl
theorem x_32_12   : am_E d 32 Q (12, L, .int y :: .int x :: st, g) ↔ am_E d 32 Q (am_cmp .lt x y 23 15, L, st, g) := am_E_ic (by decide +kernel : am_dc 32 12 = some (.if_icmp .lt (11))) rfl rfl
theorem x_32_15  : am_E d 32 Q (15, L, st, g) ↔ am_K d 32 Q (am_S 32 (.new 86) 15 L st g) := am_E_x (by decide +kernel : am_dc 32 15 = some (.new 86))
theorem x_32_18   : am_E d 32 Q (18, L, v :: st, g) ↔ if v.category = 1 then am_E d 32 Q (19, L, v :: v :: st, g) else False := am_E_dup (by decide +kernel : am_dc 32 18 = some (.dup)) rfl
theorem x_32_19  : am_E d 32 Q (19, L, st, g) ↔ am_K d 32 Q (am_S 32 (.invokespecial 88) 19 L st g) := am_E_x (by decide +kernel : am_dc 32 19 = some (.invokespecial 88))
theorem x_32_23   : am_E d 32 Q (23, L, st, g) ↔ am_K d 32 Q (am_ldA 24 L st g 0) := am_E_aload_n (by decide +kernel : am_dc 32 23 = some (.aload_n 0)) rfl rfl
theorem x_32_24   : am_E d 32 Q (24, L, .ref a :: st, g) ↔ am_kv d 32 Q 27 L st g (am_gf g a 0 3) := am_E_getfield (by decide +kernel : am_dc 32 24 = some (.getfield 41)) (by decide +kernel) rfl
theorem x_32_27  : am_E d 32 Q (27, L, st, g) ↔ am_K d 32 Q (am_S 32 (.invokevirtual 105) 27 L st g) := am_E_x (by decide +kernel : am_dc 32 27 = some (.invokevirtual 105))
theorem x_32_30   : am_E d 32 Q (30, L, st, g) ↔ am_K d 32 Q (am_ldA 31 L st g 0) := am_E_aload_n (by decide +kernel : am_dc 32 30 = some (.aload_n 0)) rfl rfl
theorem x_32_31   : am_E d 32 Q (31, L, .ref a :: st, g) ↔ am_kv d 32 Q 34 L st g (am_gf g a 0 1) := am_E_getfield (by decide +kernel : am_dc 32 31 = some (.getfield 28)) (by decide +kernel) rfl
theorem x_32_34   : am_E d 32 Q (34, L, st, g) ↔ am_K d 32 Q (am_ldI 35 L st g 1) := am_E_iload_n (by decide +kernel : am_dc 32 34 = some (.iload_n 1)) rfl rfl
theorem x_32_35  : am_E d 32 Q (35, L, st, g) ↔ am_K d 32 Q (am_S 32 (.invokevirtual 165) 35 L st g) := am_E_x (by decide +kernel : am_dc 32 35 = some (.invokevirtual 165))
theorem x_32_38   : am_E d 32 Q (38, L, st, g) ↔ am_K d 32 Q (am_ldA 39 L st g 0) := am_E_aload_n (by decide +kernel : am_dc 32 38 = some (.aload_n 0)) rfl rfl
theorem x_32_39   : am_E d 32 Q (39, L, .ref a :: st, g) ↔ am_kv d 32 Q 42 L st g (am_gf g a 0 1) := am_E_getfield (by decide +kernel : am_dc 32 39 = some (.getfield 28)) (by decide +kernel) rfl
theorem x_32_42   : am_E d 32 Q (42, L, .ref a :: st, g) ↔ am_kv d 32 Q 45 L st g (am_gf g a 7 1) := am_E_getfield (by decide +kernel : am_dc 32 42 = some (.getfield 152)) (by decide +kernel) rfl
theorem x_32_45  : am_E d 32 Q (45, L, [.int x], g) ↔ if am_ok (FieldType.int) (.int x) = true then Q (.inl (some (.int x))) g else False := am_E_ireturn (by decide +kernel : am_dc 32 45 = some (.ireturn)) (by decide +kernel)
theorem f_32_28 : am_fl 32 28 = some (0, 1) := by decide +kernel
theorem f_32_152 : am_fl 32 152 = some (7, 1) := by decide +kernel
theorem w_32_86 : am_nw 32 86 = none := by decide +kernel
theorem e_32_86 : am_xw 32 86 = some (0, 88) := by decide +kernel
theorem f_32_41 : am_fl 32 41 = some (0, 3) := by decide +kernel
theorem v_32_105 : am_iv 32 105 = some (1, 86, 1) := by decide +kernel
theorem v_32_165 : am_iv 32 165 = some (1, 123, 2) := by decide +kernel
theorem t_32 : am_t 32 = some (FieldType.int) := by decide +kernel
theorem h_32 : am_h 32 = [] := by decide +kernel
theorem m_32 : am_m 32 = 2 := by decide +kernel
theorem x_33_0   : am_E d 33 Q (0, L, st, g) ↔ am_K d 33 Q (am_ldA 1 L st g 0) := am_E_aload_n (by decide +kernel : am_dc 33 0 = some (.aload_n 0)) rfl rfl
theorem x_33_1   : am_E d 33 Q (1, L, st, g) ↔ am_K d 33 Q (am_ldI 2 L st g 1) := am_E_iload_n (by decide +kernel : am_dc 33 1 = some (.iload_n 1)) rfl rfl
theorem x_33_2  : am_E d 33 Q (2, L, st, g) ↔ am_K d 33 Q (am_S 33 (.invokevirtual 168) 2 L st g) := am_E_x (by decide +kernel : am_dc 33 2 = some (.invokevirtual 168))
theorem x_33_5   : am_E d 33 Q (5, L, .int x :: st, g) ↔ am_E d 33 Q (am_cmp .ne x 0 16 8, L, st, g) := am_E_if (by decide +kernel : am_dc 33 5 = some (.ifCond .ne (11))) rfl rfl
theorem x_33_8  : am_E d 33 Q (8, L, st, g) ↔ am_K d 33 Q (am_S 33 (.new 86) 8 L st g) := am_E_x (by decide +kernel : am_dc 33 8 = some (.new 86))
theorem x_33_11   : am_E d 33 Q (11, L, v :: st, g) ↔ if v.category = 1 then am_E d 33 Q (12, L, v :: v :: st, g) else False := am_E_dup (by decide +kernel : am_dc 33 11 = some (.dup)) rfl
theorem x_33_12  : am_E d 33 Q (12, L, st, g) ↔ am_K d 33 Q (am_S 33 (.invokespecial 88) 12 L st g) := am_E_x (by decide +kernel : am_dc 33 12 = some (.invokespecial 88))
theorem x_33_16   : am_E d 33 Q (16, L, st, g) ↔ am_K d 33 Q (am_ldA 17 L st g 0) := am_E_aload_n (by decide +kernel : am_dc 33 16 = some (.aload_n 0)) rfl rfl
theorem x_33_17  : am_E d 33 Q (17, L, st, g) ↔ am_K d 33 Q (am_S 33 (.invokevirtual 177) 17 L st g) := am_E_x (by decide +kernel : am_dc 33 17 = some (.invokevirtual 177))
theorem x_33_20   : am_E d 33 Q (20, L, st, g) ↔ am_K d 33 Q (am_stI 21 L st g 2) := am_E_istore_n (by decide +kernel : am_dc 33 20 = some (.istore_n 2)) rfl rfl
theorem x_33_21   : am_E d 33 Q (21, L, st, g) ↔ am_K d 33 Q (am_ldA 22 L st g 0) := am_E_aload_n (by decide +kernel : am_dc 33 21 = some (.aload_n 0)) rfl rfl
theorem x_33_22   : am_E d 33 Q (22, L, .ref a :: st, g) ↔ am_kv d 33 Q 25 L st g (am_gf g a 0 2) := am_E_getfield (by decide +kernel : am_dc 33 22 = some (.getfield 32)) (by decide +kernel) rfl
theorem x_33_25   : am_E d 33 Q (25, L, .ref a :: st, g) ↔ am_kv d 33 Q 28 L st g (am_gf g a 2 0) := am_E_getfield (by decide +kernel : am_dc 33 25 = some (.getfield 186)) (by decide +kernel) rfl
theorem x_33_28   : am_E d 33 Q (28, L, st, g) ↔ am_K d 33 Q (am_ldI 29 L st g 1) := am_E_iload_n (by decide +kernel : am_dc 33 28 = some (.iload_n 1)) rfl rfl
theorem x_33_29   : am_E d 33 Q (29, L, .int x :: .ref a :: st, g) ↔ am_kv d 33 Q 30 L st g (am_iat .aaload g a x) := am_E_aaload (by decide +kernel : am_dc 33 29 = some (.aaload)) rfl
theorem x_33_30   : am_E d 33 Q (30, L, st, g) ↔ am_K d 33 Q (am_ldI 31 L st g 2) := am_E_iload_n (by decide +kernel : am_dc 33 30 = some (.iload_n 2)) rfl rfl
theorem x_33_31   : am_E d 33 Q (31, L, .int x :: .ref a :: st, g) ↔ am_kv d 33 Q 32 L st g (am_iat .iaload g a x) := am_E_iaload (by decide +kernel : am_dc 33 31 = some (.iaload)) rfl
theorem x_33_32  : am_E d 33 Q (32, L, st, g) ↔ am_K d 33 Q (am_S 33 (.ldc 190) 32 L st g) := am_E_x (by decide +kernel : am_dc 33 32 = some (.ldc 190))
theorem x_33_34   : am_E d 33 Q (34, L, .int y :: .int x :: st, g) ↔ am_E d 33 Q (am_cmp .ne x y 39 37, L, st, g) := am_E_ic (by decide +kernel : am_dc 33 34 = some (.if_icmp .ne (5))) rfl rfl
theorem x_33_37   : am_E d 33 Q (37, L, st, g) ↔ am_E d 33 Q (38, L, .int (0) :: st, g) := am_E_iconst (by decide +kernel : am_dc 33 37 = some (.iconst (0))) (by decide) rfl
theorem x_33_38  : am_E d 33 Q (38, L, [.int x], g) ↔ if am_ok (FieldType.boolean) (.int x) = true then Q (.inl (some (.int x))) g else False := am_E_ireturn (by decide +kernel : am_dc 33 38 = some (.ireturn)) (by decide +kernel)
theorem x_33_39   : am_E d 33 Q (39, L, st, g) ↔ am_K d 33 Q (am_ldA 40 L st g 0) := am_E_aload_n (by decide +kernel : am_dc 33 39 = some (.aload_n 0)) rfl rfl
theorem x_33_40   : am_E d 33 Q (40, L, .ref a :: st, g) ↔ am_kv d 33 Q 43 L st g (am_gf g a 0 3) := am_E_getfield (by decide +kernel : am_dc 33 40 = some (.getfield 41)) (by decide +kernel) rfl
theorem x_33_43   : am_E d 33 Q (43, L, st, g) ↔ am_K d 33 Q (am_ldI 44 L st g 1) := am_E_iload_n (by decide +kernel : am_dc 33 43 = some (.iload_n 1)) rfl rfl
theorem x_33_44  : am_E d 33 Q (44, L, st, g) ↔ am_K d 33 Q (am_S 33 (.invokevirtual 183) 44 L st g) := am_E_x (by decide +kernel : am_dc 33 44 = some (.invokevirtual 183))
theorem x_33_47   : am_E d 33 Q (47, L, st, g) ↔ am_K d 33 Q (am_ldA 48 L st g 0) := am_E_aload_n (by decide +kernel : am_dc 33 47 = some (.aload_n 0)) rfl rfl
theorem x_33_48   : am_E d 33 Q (48, L, .ref a :: st, g) ↔ am_kv d 33 Q 51 L st g (am_gf g a 0 2) := am_E_getfield (by decide +kernel : am_dc 33 48 = some (.getfield 32)) (by decide +kernel) rfl
theorem x_33_51   : am_E d 33 Q (51, L, .ref a :: st, g) ↔ am_kv d 33 Q 54 L st g (am_gf g a 2 0) := am_E_getfield (by decide +kernel : am_dc 33 51 = some (.getfield 186)) (by decide +kernel) rfl
theorem x_33_54   : am_E d 33 Q (54, L, st, g) ↔ am_K d 33 Q (am_ldI 55 L st g 1) := am_E_iload_n (by decide +kernel : am_dc 33 54 = some (.iload_n 1)) rfl rfl
theorem x_33_55   : am_E d 33 Q (55, L, .int x :: .ref a :: st, g) ↔ am_kv d 33 Q 56 L st g (am_iat .aaload g a x) := am_E_aaload (by decide +kernel : am_dc 33 55 = some (.aaload)) rfl
theorem x_33_56   : am_E d 33 Q (56, L, st, g) ↔ am_K d 33 Q (am_ldI 57 L st g 2) := am_E_iload_n (by decide +kernel : am_dc 33 56 = some (.iload_n 2)) rfl rfl
theorem x_33_57  : am_E d 33 Q (57, L, st, g) ↔ am_K d 33 Q (am_S 33 (.ldc 190) 57 L st g) := am_E_x (by decide +kernel : am_dc 33 57 = some (.ldc 190))
theorem x_33_59   : am_E d 33 Q (59, L, v :: .int x :: .ref a :: st, g) ↔ am_kg d 33 Q 60 L st (am_sat .iastore g a x v) := am_E_iastore (by decide +kernel : am_dc 33 59 = some (.iastore)) rfl
theorem x_33_60   : am_E d 33 Q (60, L, st, g) ↔ am_E d 33 Q (61, L, .int (1) :: st, g) := am_E_iconst (by decide +kernel : am_dc 33 60 = some (.iconst (1))) (by decide) rfl
theorem x_33_61  : am_E d 33 Q (61, L, [.int x], g) ↔ if am_ok (FieldType.boolean) (.int x) = true then Q (.inl (some (.int x))) g else False := am_E_ireturn (by decide +kernel : am_dc 33 61 = some (.ireturn)) (by decide +kernel)
theorem v_33_168 : am_iv 33 168 = some (1, 26, 2) := by decide +kernel
theorem w_33_86 : am_nw 33 86 = none := by decide +kernel
theorem e_33_86 : am_xw 33 86 = some (0, 88) := by decide +kernel
theorem v_33_177 : am_iv 33 177 = some (1, 29, 1) := by decide +kernel
theorem f_33_32 : am_fl 33 32 = some (0, 2) := by decide +kernel
theorem f_33_186 : am_fl 33 186 = some (2, 0) := by decide +kernel
theorem k_33_190 : am_ci 33 190 = some (-2147483648) := by decide +kernel
theorem f_33_41 : am_fl 33 41 = some (0, 3) := by decide +kernel
theorem v_33_183 : am_iv 33 183 = some (1, 87, 2) := by decide +kernel
theorem t_33 : am_t 33 = some (FieldType.boolean) := by decide +kernel
theorem h_33 : am_h 33 = [] := by decide +kernel
theorem m_33 : am_m 33 = 3 := by decide +kernel
theorem x_34_0   : am_E d 34 Q (0, L, st, g) ↔ am_K d 34 Q (am_ldA 1 L st g 0) := am_E_aload_n (by decide +kernel : am_dc 34 0 = some (.aload_n 0)) rfl rfl
theorem x_34_1   : am_E d 34 Q (1, L, .ref a :: st, g) ↔ am_kv d 34 Q 4 L st g (am_gf g a 0 2) := am_E_getfield (by decide +kernel : am_dc 34 1 = some (.getfield 32)) (by decide +kernel) rfl
theorem x_34_4   : am_E d 34 Q (4, L, st, g) ↔ am_K d 34 Q (am_ldI 5 L st g 1) := am_E_iload_n (by decide +kernel : am_dc 34 4 = some (.iload_n 1)) rfl rfl
theorem x_34_5  : am_E d 34 Q (5, L, st, g) ↔ am_K d 34 Q (am_S 34 (.invokevirtual 274) 5 L st g) := am_E_x (by decide +kernel : am_dc 34 5 = some (.invokevirtual 274))
theorem x_34_8   : am_E d 34 Q (8, L, .int x :: st, g) ↔ am_E d 34 Q (am_cmp .ne x 0 19 11, L, st, g) := am_E_if (by decide +kernel : am_dc 34 8 = some (.ifCond .ne (11))) rfl rfl
theorem x_34_11  : am_E d 34 Q (11, L, st, g) ↔ am_K d 34 Q (am_S 34 (.new 86) 11 L st g) := am_E_x (by decide +kernel : am_dc 34 11 = some (.new 86))
theorem x_34_14   : am_E d 34 Q (14, L, v :: st, g) ↔ if v.category = 1 then am_E d 34 Q (15, L, v :: v :: st, g) else False := am_E_dup (by decide +kernel : am_dc 34 14 = some (.dup)) rfl
theorem x_34_15  : am_E d 34 Q (15, L, st, g) ↔ am_K d 34 Q (am_S 34 (.invokespecial 88) 15 L st g) := am_E_x (by decide +kernel : am_dc 34 15 = some (.invokespecial 88))
theorem x_34_19   : am_E d 34 Q (19, L, st, g) ↔ am_E d 34 Q (20, L, .int (0) :: st, g) := am_E_iconst (by decide +kernel : am_dc 34 19 = some (.iconst (0))) (by decide) rfl
theorem x_34_20   : am_E d 34 Q (20, L, st, g) ↔ am_K d 34 Q (am_stI 21 L st g 2) := am_E_istore_n (by decide +kernel : am_dc 34 20 = some (.istore_n 2)) rfl rfl
theorem x_34_21   : am_E d 34 Q (21, L, st, g) ↔ am_E d 34 Q (22, L, .int (0) :: st, g) := am_E_iconst (by decide +kernel : am_dc 34 21 = some (.iconst (0))) (by decide) rfl
theorem x_34_22   : am_E d 34 Q (22, L, st, g) ↔ am_K d 34 Q (am_stI 23 L st g 3) := am_E_istore_n (by decide +kernel : am_dc 34 22 = some (.istore_n 3)) rfl rfl
theorem x_34_23   : am_E d 34 Q (23, L, st, g) ↔ am_E d 34 Q (24, L, .int (0) :: st, g) := am_E_iconst (by decide +kernel : am_dc 34 23 = some (.iconst (0))) (by decide) rfl
theorem x_34_24   : am_E d 34 Q (24, L, st, g) ↔ am_K d 34 Q (am_stI 26 L st g 4) := am_E_istore (by decide +kernel : am_dc 34 24 = some (.istore 4)) rfl
theorem x_34_26   : am_E d 34 Q (26, L, st, g) ↔ am_K d 34 Q (am_ldI 28 L st g 4) := am_E_iload (by decide +kernel : am_dc 34 26 = some (.iload 4)) rfl
theorem x_34_28   : am_E d 34 Q (28, L, st, g) ↔ am_E d 34 Q (31, L, .int (216) :: st, g) := am_E_sipush (by decide +kernel : am_dc 34 28 = some (.sipush (216))) (by decide) rfl
theorem x_34_31   : am_E d 34 Q (31, L, .int y :: .int x :: st, g) ↔ am_E d 34 Q (am_cmp .ge x y 78 34, L, st, g) := am_E_ic (by decide +kernel : am_dc 34 31 = some (.if_icmp .ge (47))) rfl rfl
theorem x_34_34   : am_E d 34 Q (34, L, st, g) ↔ am_K d 34 Q (am_ldA 35 L st g 0) := am_E_aload_n (by decide +kernel : am_dc 34 34 = some (.aload_n 0)) rfl rfl
theorem x_34_35   : am_E d 34 Q (35, L, .ref a :: st, g) ↔ am_kv d 34 Q 38 L st g (am_gf g a 0 0) := am_E_getfield (by decide +kernel : am_dc 34 35 = some (.getfield 22)) (by decide +kernel) rfl
theorem x_34_38   : am_E d 34 Q (38, L, st, g) ↔ am_K d 34 Q (am_ldI 40 L st g 4) := am_E_iload (by decide +kernel : am_dc 34 38 = some (.iload 4)) rfl
theorem x_34_40  : am_E d 34 Q (40, L, st, g) ↔ am_K d 34 Q (am_S 34 (.invokevirtual 180) 40 L st g) := am_E_x (by decide +kernel : am_dc 34 40 = some (.invokevirtual 180))
theorem x_34_43   : am_E d 34 Q (43, L, .int x :: st, g) ↔ am_E d 34 Q (am_cmp .eq x 0 72 46, L, st, g) := am_E_if (by decide +kernel : am_dc 34 43 = some (.ifCond .eq (29))) rfl rfl
theorem x_34_46   (hk : L.getD 2 none = some (.int x)) (hl : 2 < L.length) : am_E d 34 Q (46, L, st, g) ↔ am_E d 34 Q (49, am_s1 L 2 (.int (x + (1))), st, g) := am_E_iinc (by decide +kernel : am_dc 34 46 = some (.iinc 2 (1))) (by decide) rfl hk hl
theorem x_34_49   : am_E d 34 Q (49, L, st, g) ↔ am_K d 34 Q (am_ldI 50 L st g 3) := am_E_iload_n (by decide +kernel : am_dc 34 49 = some (.iload_n 3)) rfl rfl
theorem x_34_50   : am_E d 34 Q (50, L, st, g) ↔ am_K d 34 Q (am_ldA 51 L st g 0) := am_E_aload_n (by decide +kernel : am_dc 34 50 = some (.aload_n 0)) rfl rfl
theorem x_34_51   : am_E d 34 Q (51, L, .ref a :: st, g) ↔ am_kv d 34 Q 54 L st g (am_gf g a 0 2) := am_E_getfield (by decide +kernel : am_dc 34 51 = some (.getfield 32)) (by decide +kernel) rfl
theorem x_34_54   : am_E d 34 Q (54, L, st, g) ↔ am_K d 34 Q (am_ldI 55 L st g 1) := am_E_iload_n (by decide +kernel : am_dc 34 54 = some (.iload_n 1)) rfl rfl
theorem x_34_55   : am_E d 34 Q (55, L, st, g) ↔ am_K d 34 Q (am_ldI 57 L st g 4) := am_E_iload (by decide +kernel : am_dc 34 55 = some (.iload 4)) rfl
theorem x_34_57  : am_E d 34 Q (57, L, st, g) ↔ am_K d 34 Q (am_S 34 (.invokevirtual 276) 57 L st g) := am_E_x (by decide +kernel : am_dc 34 57 = some (.invokevirtual 276))
theorem x_34_60  : am_E d 34 Q (60, L, st, g) ↔ am_K d 34 Q (am_S 34 (.ldc 190) 60 L st g) := am_E_x (by decide +kernel : am_dc 34 60 = some (.ldc 190))
theorem x_34_62   : am_E d 34 Q (62, L, .int y :: .int x :: st, g) ↔ am_E d 34 Q (am_cmp .ne x y 69 65, L, st, g) := am_E_ic (by decide +kernel : am_dc 34 62 = some (.if_icmp .ne (7))) rfl rfl
theorem x_34_65   : am_E d 34 Q (65, L, st, g) ↔ am_E d 34 Q (66, L, .int (0) :: st, g) := am_E_iconst (by decide +kernel : am_dc 34 65 = some (.iconst (0))) (by decide) rfl
theorem x_34_66   : am_E d 34 Q (66, L, st, g) ↔ am_E d 34 Q (70, L, st, g) := am_E_gt (by decide +kernel : am_dc 34 66 = some (.goto (4))) rfl rfl
theorem x_34_69   : am_E d 34 Q (69, L, st, g) ↔ am_E d 34 Q (70, L, .int (1) :: st, g) := am_E_iconst (by decide +kernel : am_dc 34 69 = some (.iconst (1))) (by decide) rfl
theorem x_34_70   : am_E d 34 Q (70, L, .int y :: .int x :: st, g) ↔ am_E d 34 Q (71, L, .int (x + y) :: st, g) := am_E_iadd (by decide +kernel : am_dc 34 70 = some (.iadd)) rfl
theorem x_34_71   : am_E d 34 Q (71, L, st, g) ↔ am_K d 34 Q (am_stI 72 L st g 3) := am_E_istore_n (by decide +kernel : am_dc 34 71 = some (.istore_n 3)) rfl rfl
theorem x_34_72   (hk : L.getD 4 none = some (.int x)) (hl : 4 < L.length) : am_E d 34 Q (72, L, st, g) ↔ am_E d 34 Q (75, am_s1 L 4 (.int (x + (1))), st, g) := am_E_iinc (by decide +kernel : am_dc 34 72 = some (.iinc 4 (1))) (by decide) rfl hk hl
theorem x_34_75   : am_E d 34 Q (75, L, st, g) ↔ am_E d 34 Q (26, L, st, g) := am_E_gt (by decide +kernel : am_dc 34 75 = some (.goto (-49))) rfl rfl
theorem x_34_78   : am_E d 34 Q (78, L, st, g) ↔ am_K d 34 Q (am_ldI 79 L st g 2) := am_E_iload_n (by decide +kernel : am_dc 34 78 = some (.iload_n 2)) rfl rfl
theorem x_34_79   : am_E d 34 Q (79, L, .int x :: st, g) ↔ am_E d 34 Q (am_cmp .ne x 0 86 82, L, st, g) := am_E_if (by decide +kernel : am_dc 34 79 = some (.ifCond .ne (7))) rfl rfl
theorem x_34_82   : am_E d 34 Q (82, L, st, g) ↔ am_E d 34 Q (83, L, .float FP.fconst0 :: st, g) := am_E_fconst0 (by decide +kernel : am_dc 34 82 = some (.fconst 0)) rfl
theorem x_34_83   : am_E d 34 Q (83, L, st, g) ↔ am_E d 34 Q (91, L, st, g) := am_E_gt (by decide +kernel : am_dc 34 83 = some (.goto (8))) rfl rfl
theorem x_34_86   : am_E d 34 Q (86, L, st, g) ↔ am_K d 34 Q (am_ldI 87 L st g 3) := am_E_iload_n (by decide +kernel : am_dc 34 86 = some (.iload_n 3)) rfl rfl
theorem x_34_87   : am_E d 34 Q (87, L, .int x :: st, g) ↔ am_E d 34 Q (88, L, .float (FP.i2f x) :: st, g) := am_E_i2f (by decide +kernel : am_dc 34 87 = some (.i2f)) rfl
theorem x_34_88   : am_E d 34 Q (88, L, st, g) ↔ am_K d 34 Q (am_ldI 89 L st g 2) := am_E_iload_n (by decide +kernel : am_dc 34 88 = some (.iload_n 2)) rfl rfl
theorem x_34_89   : am_E d 34 Q (89, L, .int x :: st, g) ↔ am_E d 34 Q (90, L, .float (FP.i2f x) :: st, g) := am_E_i2f (by decide +kernel : am_dc 34 89 = some (.i2f)) rfl
theorem x_34_90  : am_E d 34 Q (90, L, st, g) ↔ am_K d 34 Q (am_S 34 (.fdiv) 90 L st g) := am_E_x (by decide +kernel : am_dc 34 90 = some (.fdiv))
theorem x_34_91  : am_E d 34 Q (91, L, [.float e1], g) ↔ Q (.inl (some (.float e1))) g := am_E_freturn (by decide +kernel : am_dc 34 91 = some (.freturn)) (by decide +kernel)
theorem f_34_32 : am_fl 34 32 = some (0, 2) := by decide +kernel
theorem v_34_274 : am_iv 34 274 = some (1, 79, 2) := by decide +kernel
theorem w_34_86 : am_nw 34 86 = none := by decide +kernel
theorem e_34_86 : am_xw 34 86 = some (0, 88) := by decide +kernel
theorem f_34_22 : am_fl 34 22 = some (0, 0) := by decide +kernel
theorem v_34_180 : am_iv 34 180 = some (1, 129, 2) := by decide +kernel
theorem v_34_276 : am_iv 34 276 = some (1, 82, 3) := by decide +kernel
theorem k_34_190 : am_ci 34 190 = some (-2147483648) := by decide +kernel
theorem t_34 : am_t 34 = some (FieldType.float) := by decide +kernel
theorem h_34 : am_h 34 = [] := by decide +kernel
theorem m_34 : am_m 34 = 5 := by decide +kernel
theorem x_35_0   : am_E d 35 Q (0, L, st, g) ↔ am_K d 35 Q (am_ldI 1 L st g 1) := am_E_iload_n (by decide +kernel : am_dc 35 0 = some (.iload_n 1)) rfl rfl
theorem x_35_1   : am_E d 35 Q (1, L, st, g) ↔ am_E d 35 Q (2, L, .int (1) :: st, g) := am_E_iconst (by decide +kernel : am_dc 35 1 = some (.iconst (1))) (by decide) rfl
theorem x_35_2   : am_E d 35 Q (2, L, .int y :: .int x :: st, g) ↔ am_E d 35 Q (am_cmp .lt x y 12 5, L, st, g) := am_E_ic (by decide +kernel : am_dc 35 2 = some (.if_icmp .lt (10))) rfl rfl
theorem x_35_5   : am_E d 35 Q (5, L, st, g) ↔ am_K d 35 Q (am_ldI 6 L st g 1) := am_E_iload_n (by decide +kernel : am_dc 35 5 = some (.iload_n 1)) rfl rfl
theorem x_35_6   : am_E d 35 Q (6, L, st, g) ↔ am_E d 35 Q (9, L, .int (2000) :: st, g) := am_E_sipush (by decide +kernel : am_dc 35 6 = some (.sipush (2000))) (by decide) rfl
theorem x_35_9   : am_E d 35 Q (9, L, .int y :: .int x :: st, g) ↔ am_E d 35 Q (am_cmp .le x y 20 12, L, st, g) := am_E_ic (by decide +kernel : am_dc 35 9 = some (.if_icmp .le (11))) rfl rfl
theorem x_35_12  : am_E d 35 Q (12, L, st, g) ↔ am_K d 35 Q (am_S 35 (.new 89) 12 L st g) := am_E_x (by decide +kernel : am_dc 35 12 = some (.new 89))
theorem x_35_15   : am_E d 35 Q (15, L, v :: st, g) ↔ if v.category = 1 then am_E d 35 Q (16, L, v :: v :: st, g) else False := am_E_dup (by decide +kernel : am_dc 35 15 = some (.dup)) rfl
theorem x_35_16  : am_E d 35 Q (16, L, st, g) ↔ am_K d 35 Q (am_S 35 (.invokespecial 91) 16 L st g) := am_E_x (by decide +kernel : am_dc 35 16 = some (.invokespecial 91))
theorem x_35_20   : am_E d 35 Q (20, L, st, g) ↔ am_K d 35 Q (am_ldA 21 L st g 0) := am_E_aload_n (by decide +kernel : am_dc 35 20 = some (.aload_n 0)) rfl rfl
theorem x_35_21   : am_E d 35 Q (21, L, .ref a :: st, g) ↔ am_kv d 35 Q 24 L st g (am_gf g a 0 4) := am_E_getfield (by decide +kernel : am_dc 35 21 = some (.getfield 50)) (by decide +kernel) rfl
theorem x_35_24   : am_E d 35 Q (24, L, .ref a :: st, g) ↔ am_kv d 35 Q 27 L st g (am_gf g a 1 8) := am_E_getfield (by decide +kernel : am_dc 35 24 = some (.getfield 219)) (by decide +kernel) rfl
theorem x_35_27   : am_E d 35 Q (27, L, st, g) ↔ am_K d 35 Q (am_stI 28 L st g 2) := am_E_istore_n (by decide +kernel : am_dc 35 27 = some (.istore_n 2)) rfl rfl
theorem x_35_28   : am_E d 35 Q (28, L, st, g) ↔ am_K d 35 Q (am_ldA 29 L st g 0) := am_E_aload_n (by decide +kernel : am_dc 35 28 = some (.aload_n 0)) rfl rfl
theorem x_35_29   : am_E d 35 Q (29, L, .ref a :: st, g) ↔ am_kv d 35 Q 32 L st g (am_gf g a 0 4) := am_E_getfield (by decide +kernel : am_dc 35 29 = some (.getfield 50)) (by decide +kernel) rfl
theorem x_35_32   : am_E d 35 Q (32, L, st, g) ↔ am_K d 35 Q (am_ldI 33 L st g 1) := am_E_iload_n (by decide +kernel : am_dc 35 32 = some (.iload_n 1)) rfl rfl
theorem x_35_33   (hok : (am_ok (am_ft 1 8).1 v && (!(am_ft 1 8).2 || (am_ini 35 && am_co 1 == am_o 35)) && decide (1 < 13)) = true) : am_E d 35 Q (33, L, v :: .ref a :: st, g) ↔ am_kg d 35 Q 36 L st (am_pf g a 1 8 v) := am_E_putfield (by decide +kernel : am_dc 35 33 = some (.putfield 219)) (by decide +kernel) rfl hok
theorem x_35_36   : am_E d 35 Q (36, L, st, g) ↔ am_K d 35 Q (am_ldI 37 L st g 2) := am_E_iload_n (by decide +kernel : am_dc 35 36 = some (.iload_n 2)) rfl rfl
theorem x_35_37  : am_E d 35 Q (37, L, [.int x], g) ↔ if am_ok (FieldType.int) (.int x) = true then Q (.inl (some (.int x))) g else False := am_E_ireturn (by decide +kernel : am_dc 35 37 = some (.ireturn)) (by decide +kernel)
theorem w_35_89 : am_nw 35 89 = none := by decide +kernel
theorem e_35_89 : am_xw 35 89 = some (1, 91) := by decide +kernel
theorem f_35_50 : am_fl 35 50 = some (0, 4) := by decide +kernel
theorem f_35_219 : am_fl 35 219 = some (1, 8) := by decide +kernel
theorem t_35 : am_t 35 = some (FieldType.int) := by decide +kernel
theorem h_35 : am_h 35 = [] := by decide +kernel
theorem m_35 : am_m 35 = 3 := by decide +kernel
theorem x_36_0   : am_E d 36 Q (0, L, st, g) ↔ am_K d 36 Q (am_ldA 1 L st g 0) := am_E_aload_n (by decide +kernel : am_dc 36 0 = some (.aload_n 0)) rfl rfl
theorem x_36_1   : am_E d 36 Q (1, L, .ref a :: st, g) ↔ am_kv d 36 Q 4 L st g (am_gf g a 0 2) := am_E_getfield (by decide +kernel : am_dc 36 1 = some (.getfield 32)) (by decide +kernel) rfl
theorem x_36_4   : am_E d 36 Q (4, L, .ref a :: st, g) ↔ am_kv d 36 Q 7 L st g (am_gf g a 2 1) := am_E_getfield (by decide +kernel : am_dc 36 4 = some (.getfield 230)) (by decide +kernel) rfl
theorem x_36_7   : am_E d 36 Q (7, L, st, g) ↔ am_E d 36 Q (8, L, .int (3) :: st, g) := am_E_iconst (by decide +kernel : am_dc 36 7 = some (.iconst (3))) (by decide) rfl
theorem x_36_8   : am_E d 36 Q (8, L, .int y :: .int x :: st, g) ↔ am_E d 36 Q (am_cmp .lt x y 19 11, L, st, g) := am_E_ic (by decide +kernel : am_dc 36 8 = some (.if_icmp .lt (11))) rfl rfl
theorem x_36_11  : am_E d 36 Q (11, L, st, g) ↔ am_K d 36 Q (am_S 36 (.new 102) 11 L st g) := am_E_x (by decide +kernel : am_dc 36 11 = some (.new 102))
theorem x_36_14   : am_E d 36 Q (14, L, v :: st, g) ↔ if v.category = 1 then am_E d 36 Q (15, L, v :: v :: st, g) else False := am_E_dup (by decide +kernel : am_dc 36 14 = some (.dup)) rfl
theorem x_36_15  : am_E d 36 Q (15, L, st, g) ↔ am_K d 36 Q (am_S 36 (.invokespecial 104) 15 L st g) := am_E_x (by decide +kernel : am_dc 36 15 = some (.invokespecial 104))
theorem x_36_19   : am_E d 36 Q (19, L, st, g) ↔ am_K d 36 Q (am_ldA 20 L st g 0) := am_E_aload_n (by decide +kernel : am_dc 36 19 = some (.aload_n 0)) rfl rfl
theorem x_36_20   : am_E d 36 Q (20, L, .ref a :: st, g) ↔ am_kv d 36 Q 23 L st g (am_gf g a 0 3) := am_E_getfield (by decide +kernel : am_dc 36 20 = some (.getfield 41)) (by decide +kernel) rfl
theorem x_36_23  : am_E d 36 Q (23, L, st, g) ↔ am_K d 36 Q (am_S 36 (.invokevirtual 105) 23 L st g) := am_E_x (by decide +kernel : am_dc 36 23 = some (.invokevirtual 105))
theorem x_36_26   : am_E d 36 Q (26, L, st, g) ↔ am_K d 36 Q (am_ldA 27 L st g 0) := am_E_aload_n (by decide +kernel : am_dc 36 26 = some (.aload_n 0)) rfl rfl
theorem x_36_27   : am_E d 36 Q (27, L, .ref a :: st, g) ↔ am_kv d 36 Q 30 L st g (am_gf g a 0 2) := am_E_getfield (by decide +kernel : am_dc 36 27 = some (.getfield 32)) (by decide +kernel) rfl
theorem x_36_30  : am_E d 36 Q (30, L, st, g) ↔ am_K d 36 Q (am_S 36 (.invokevirtual 233) 30 L st g) := am_E_x (by decide +kernel : am_dc 36 30 = some (.invokevirtual 233))
theorem x_36_33  : am_E d 36 Q (33, L, [.int x], g) ↔ if am_ok (FieldType.int) (.int x) = true then Q (.inl (some (.int x))) g else False := am_E_ireturn (by decide +kernel : am_dc 36 33 = some (.ireturn)) (by decide +kernel)
theorem f_36_32 : am_fl 36 32 = some (0, 2) := by decide +kernel
theorem f_36_230 : am_fl 36 230 = some (2, 1) := by decide +kernel
theorem w_36_102 : am_nw 36 102 = none := by decide +kernel
theorem e_36_102 : am_xw 36 102 = some (2, 104) := by decide +kernel
theorem f_36_41 : am_fl 36 41 = some (0, 3) := by decide +kernel
theorem v_36_105 : am_iv 36 105 = some (1, 86, 1) := by decide +kernel
theorem v_36_233 : am_iv 36 233 = some (1, 80, 1) := by decide +kernel
theorem t_36 : am_t 36 = some (FieldType.int) := by decide +kernel
theorem h_36 : am_h 36 = [] := by decide +kernel
theorem m_36 : am_m 36 = 1 := by decide +kernel
theorem x_37_0   : am_E d 37 Q (0, L, st, g) ↔ am_K d 37 Q (am_ldA 1 L st g 0) := am_E_aload_n (by decide +kernel : am_dc 37 0 = some (.aload_n 0)) rfl rfl
theorem x_37_1   : am_E d 37 Q (1, L, .ref a :: st, g) ↔ am_kv d 37 Q 4 L st g (am_gf g a 0 0) := am_E_getfield (by decide +kernel : am_dc 37 1 = some (.getfield 22)) (by decide +kernel) rfl
theorem x_37_4   : am_E d 37 Q (4, L, st, g) ↔ am_K d 37 Q (am_ldI 5 L st g 1) := am_E_iload_n (by decide +kernel : am_dc 37 4 = some (.iload_n 1)) rfl rfl
theorem x_37_5   : am_E d 37 Q (5, L, st, g) ↔ am_K d 37 Q (am_ldI 6 L st g 2) := am_E_iload_n (by decide +kernel : am_dc 37 5 = some (.iload_n 2)) rfl rfl
theorem x_37_6  : am_E d 37 Q (6, L, st, g) ↔ am_K d 37 Q (am_S 37 (.invokevirtual 82) 6 L st g) := am_E_x (by decide +kernel : am_dc 37 6 = some (.invokevirtual 82))
theorem x_37_9   : am_E d 37 Q (9, L, .int x :: st, g) ↔ am_E d 37 Q (am_cmp .ne x 0 20 12, L, st, g) := am_E_if (by decide +kernel : am_dc 37 9 = some (.ifCond .ne (11))) rfl rfl
theorem x_37_12  : am_E d 37 Q (12, L, st, g) ↔ am_K d 37 Q (am_S 37 (.new 86) 12 L st g) := am_E_x (by decide +kernel : am_dc 37 12 = some (.new 86))
theorem x_37_15   : am_E d 37 Q (15, L, v :: st, g) ↔ if v.category = 1 then am_E d 37 Q (16, L, v :: v :: st, g) else False := am_E_dup (by decide +kernel : am_dc 37 15 = some (.dup)) rfl
theorem x_37_16  : am_E d 37 Q (16, L, st, g) ↔ am_K d 37 Q (am_S 37 (.invokespecial 88) 16 L st g) := am_E_x (by decide +kernel : am_dc 37 16 = some (.invokespecial 88))
theorem x_37_20   : am_E d 37 Q (20, L, st, g) ↔ am_K d 37 Q (am_ldI 21 L st g 3) := am_E_iload_n (by decide +kernel : am_dc 37 20 = some (.iload_n 3)) rfl rfl
theorem x_37_21   : am_E d 37 Q (21, L, .int x :: st, g) ↔ am_E d 37 Q (am_cmp .lt x 0 29 24, L, st, g) := am_E_if (by decide +kernel : am_dc 37 21 = some (.ifCond .lt (8))) rfl rfl
theorem x_37_24   : am_E d 37 Q (24, L, st, g) ↔ am_K d 37 Q (am_ldI 25 L st g 3) := am_E_iload_n (by decide +kernel : am_dc 37 24 = some (.iload_n 3)) rfl rfl
theorem x_37_25   : am_E d 37 Q (25, L, st, g) ↔ am_E d 37 Q (26, L, .int (5) :: st, g) := am_E_iconst (by decide +kernel : am_dc 37 25 = some (.iconst (5))) (by decide) rfl
theorem x_37_26   : am_E d 37 Q (26, L, .int y :: .int x :: st, g) ↔ am_E d 37 Q (am_cmp .lt x y 37 29, L, st, g) := am_E_ic (by decide +kernel : am_dc 37 26 = some (.if_icmp .lt (11))) rfl rfl
theorem x_37_29  : am_E d 37 Q (29, L, st, g) ↔ am_K d 37 Q (am_S 37 (.new 89) 29 L st g) := am_E_x (by decide +kernel : am_dc 37 29 = some (.new 89))
theorem x_37_32   : am_E d 37 Q (32, L, v :: st, g) ↔ if v.category = 1 then am_E d 37 Q (33, L, v :: v :: st, g) else False := am_E_dup (by decide +kernel : am_dc 37 32 = some (.dup)) rfl
theorem x_37_33  : am_E d 37 Q (33, L, st, g) ↔ am_K d 37 Q (am_S 37 (.invokespecial 91) 33 L st g) := am_E_x (by decide +kernel : am_dc 37 33 = some (.invokespecial 91))
theorem x_37_37   : am_E d 37 Q (37, L, st, g) ↔ am_K d 37 Q (am_ldA 38 L st g 0) := am_E_aload_n (by decide +kernel : am_dc 37 37 = some (.aload_n 0)) rfl rfl
theorem x_37_38   : am_E d 37 Q (38, L, .ref a :: st, g) ↔ am_kv d 37 Q 41 L st g (am_gf g a 0 0) := am_E_getfield (by decide +kernel : am_dc 37 38 = some (.getfield 22)) (by decide +kernel) rfl
theorem x_37_41   : am_E d 37 Q (41, L, .ref a :: st, g) ↔ am_kv d 37 Q 44 L st g (am_gf g a 8 0) := am_E_getfield (by decide +kernel : am_dc 37 41 = some (.getfield 92)) (by decide +kernel) rfl
theorem x_37_44   : am_E d 37 Q (44, L, st, g) ↔ am_K d 37 Q (am_ldI 45 L st g 1) := am_E_iload_n (by decide +kernel : am_dc 37 44 = some (.iload_n 1)) rfl rfl
theorem x_37_45   : am_E d 37 Q (45, L, .int x :: .ref a :: st, g) ↔ am_kv d 37 Q 46 L st g (am_iat .aaload g a x) := am_E_aaload (by decide +kernel : am_dc 37 45 = some (.aaload)) rfl
theorem x_37_46   : am_E d 37 Q (46, L, st, g) ↔ am_K d 37 Q (am_stA 48 L st g 4) := am_E_astore (by decide +kernel : am_dc 37 46 = some (.astore 4)) rfl
theorem x_37_48   : am_E d 37 Q (48, L, st, g) ↔ am_K d 37 Q (am_ldA 50 L st g 4) := am_E_aload (by decide +kernel : am_dc 37 48 = some (.aload 4)) rfl
theorem x_37_50   : am_E d 37 Q (50, L, .ref a :: st, g) ↔ am_kv d 37 Q 53 L st g (am_gf g a 10 6) := am_E_getfield (by decide +kernel : am_dc 37 50 = some (.getfield 96)) (by decide +kernel) rfl
theorem x_37_53   : am_E d 37 Q (53, L, st, g) ↔ am_E d 37 Q (55, L, .int (6) :: st, g) := am_E_bipush (by decide +kernel : am_dc 37 53 = some (.bipush (6))) (by decide) rfl
theorem x_37_55   : am_E d 37 Q (55, L, .int y :: .int x :: st, g) ↔ am_E d 37 Q (am_cmp .lt x y 66 58, L, st, g) := am_E_ic (by decide +kernel : am_dc 37 55 = some (.if_icmp .lt (11))) rfl rfl
theorem x_37_58  : am_E d 37 Q (58, L, st, g) ↔ am_K d 37 Q (am_S 37 (.new 102) 58 L st g) := am_E_x (by decide +kernel : am_dc 37 58 = some (.new 102))
theorem x_37_61   : am_E d 37 Q (61, L, v :: st, g) ↔ if v.category = 1 then am_E d 37 Q (62, L, v :: v :: st, g) else False := am_E_dup (by decide +kernel : am_dc 37 61 = some (.dup)) rfl
theorem x_37_62  : am_E d 37 Q (62, L, st, g) ↔ am_K d 37 Q (am_S 37 (.invokespecial 104) 62 L st g) := am_E_x (by decide +kernel : am_dc 37 62 = some (.invokespecial 104))
theorem x_37_66   : am_E d 37 Q (66, L, st, g) ↔ am_K d 37 Q (am_ldA 67 L st g 0) := am_E_aload_n (by decide +kernel : am_dc 37 66 = some (.aload_n 0)) rfl rfl
theorem x_37_67   : am_E d 37 Q (67, L, .ref a :: st, g) ↔ am_kv d 37 Q 70 L st g (am_gf g a 0 3) := am_E_getfield (by decide +kernel : am_dc 37 67 = some (.getfield 41)) (by decide +kernel) rfl
theorem x_37_70  : am_E d 37 Q (70, L, st, g) ↔ am_K d 37 Q (am_S 37 (.invokevirtual 105) 70 L st g) := am_E_x (by decide +kernel : am_dc 37 70 = some (.invokevirtual 105))
theorem x_37_73   : am_E d 37 Q (73, L, st, g) ↔ am_K d 37 Q (am_ldA 75 L st g 4) := am_E_aload (by decide +kernel : am_dc 37 73 = some (.aload 4)) rfl
theorem x_37_75   : am_E d 37 Q (75, L, st, g) ↔ am_K d 37 Q (am_ldI 76 L st g 2) := am_E_iload_n (by decide +kernel : am_dc 37 75 = some (.iload_n 2)) rfl rfl
theorem x_37_76   : am_E d 37 Q (76, L, st, g) ↔ am_K d 37 Q (am_ldI 77 L st g 3) := am_E_iload_n (by decide +kernel : am_dc 37 76 = some (.iload_n 3)) rfl rfl
theorem x_37_77  : am_E d 37 Q (77, L, st, g) ↔ am_K d 37 Q (am_S 37 (.invokevirtual 108) 77 L st g) := am_E_x (by decide +kernel : am_dc 37 77 = some (.invokevirtual 108))
theorem x_37_80  : am_E d 37 Q (80, L, [.int x], g) ↔ if am_ok (FieldType.int) (.int x) = true then Q (.inl (some (.int x))) g else False := am_E_ireturn (by decide +kernel : am_dc 37 80 = some (.ireturn)) (by decide +kernel)
theorem f_37_22 : am_fl 37 22 = some (0, 0) := by decide +kernel
theorem v_37_82 : am_iv 37 82 = some (1, 125, 3) := by decide +kernel
theorem w_37_86 : am_nw 37 86 = none := by decide +kernel
theorem e_37_86 : am_xw 37 86 = some (0, 88) := by decide +kernel
theorem w_37_89 : am_nw 37 89 = none := by decide +kernel
theorem e_37_89 : am_xw 37 89 = some (1, 91) := by decide +kernel
theorem f_37_92 : am_fl 37 92 = some (8, 0) := by decide +kernel
theorem f_37_96 : am_fl 37 96 = some (10, 6) := by decide +kernel
theorem w_37_102 : am_nw 37 102 = none := by decide +kernel
theorem e_37_102 : am_xw 37 102 = some (2, 104) := by decide +kernel
theorem f_37_41 : am_fl 37 41 = some (0, 3) := by decide +kernel
theorem v_37_105 : am_iv 37 105 = some (1, 86, 1) := by decide +kernel
theorem v_37_108 : am_iv 37 108 = some (1, 146, 3) := by decide +kernel
theorem t_37 : am_t 37 = some (FieldType.int) := by decide +kernel
theorem h_37 : am_h 37 = [] := by decide +kernel
theorem m_37 : am_m 37 = 5 := by decide +kernel
theorem x_38_0   : am_E d 38 Q (0, L, st, g) ↔ am_K d 38 Q (am_ldA 1 L st g 0) := am_E_aload_n (by decide +kernel : am_dc 38 0 = some (.aload_n 0)) rfl rfl
theorem x_38_1   : am_E d 38 Q (1, L, .ref a :: st, g) ↔ am_kv d 38 Q 4 L st g (am_gf g a 0 0) := am_E_getfield (by decide +kernel : am_dc 38 1 = some (.getfield 22)) (by decide +kernel) rfl
theorem x_38_4   : am_E d 38 Q (4, L, st, g) ↔ am_K d 38 Q (am_ldI 5 L st g 1) := am_E_iload_n (by decide +kernel : am_dc 38 4 = some (.iload_n 1)) rfl rfl
theorem x_38_5   : am_E d 38 Q (5, L, st, g) ↔ am_K d 38 Q (am_ldI 6 L st g 2) := am_E_iload_n (by decide +kernel : am_dc 38 5 = some (.iload_n 2)) rfl rfl
theorem x_38_6  : am_E d 38 Q (6, L, st, g) ↔ am_K d 38 Q (am_S 38 (.invokevirtual 112) 6 L st g) := am_E_x (by decide +kernel : am_dc 38 6 = some (.invokevirtual 112))
theorem x_38_9   : am_E d 38 Q (9, L, .int x :: st, g) ↔ am_E d 38 Q (am_cmp .eq x 0 24 12, L, st, g) := am_E_if (by decide +kernel : am_dc 38 9 = some (.ifCond .eq (15))) rfl rfl
theorem x_38_12   : am_E d 38 Q (12, L, st, g) ↔ am_K d 38 Q (am_ldA 13 L st g 0) := am_E_aload_n (by decide +kernel : am_dc 38 12 = some (.aload_n 0)) rfl rfl
theorem x_38_13   : am_E d 38 Q (13, L, .ref a :: st, g) ↔ am_kv d 38 Q 16 L st g (am_gf g a 0 0) := am_E_getfield (by decide +kernel : am_dc 38 13 = some (.getfield 22)) (by decide +kernel) rfl
theorem x_38_16   : am_E d 38 Q (16, L, st, g) ↔ am_K d 38 Q (am_ldI 17 L st g 1) := am_E_iload_n (by decide +kernel : am_dc 38 16 = some (.iload_n 1)) rfl rfl
theorem x_38_17   : am_E d 38 Q (17, L, st, g) ↔ am_K d 38 Q (am_ldI 18 L st g 3) := am_E_iload_n (by decide +kernel : am_dc 38 17 = some (.iload_n 3)) rfl rfl
theorem x_38_18  : am_E d 38 Q (18, L, st, g) ↔ am_K d 38 Q (am_S 38 (.invokevirtual 82) 18 L st g) := am_E_x (by decide +kernel : am_dc 38 18 = some (.invokevirtual 82))
theorem x_38_21   : am_E d 38 Q (21, L, .int x :: st, g) ↔ am_E d 38 Q (am_cmp .ne x 0 32 24, L, st, g) := am_E_if (by decide +kernel : am_dc 38 21 = some (.ifCond .ne (11))) rfl rfl
theorem x_38_24  : am_E d 38 Q (24, L, st, g) ↔ am_K d 38 Q (am_S 38 (.new 86) 24 L st g) := am_E_x (by decide +kernel : am_dc 38 24 = some (.new 86))
theorem x_38_27   : am_E d 38 Q (27, L, v :: st, g) ↔ if v.category = 1 then am_E d 38 Q (28, L, v :: v :: st, g) else False := am_E_dup (by decide +kernel : am_dc 38 27 = some (.dup)) rfl
theorem x_38_28  : am_E d 38 Q (28, L, st, g) ↔ am_K d 38 Q (am_S 38 (.invokespecial 88) 28 L st g) := am_E_x (by decide +kernel : am_dc 38 28 = some (.invokespecial 88))
theorem x_38_32   : am_E d 38 Q (32, L, st, g) ↔ am_K d 38 Q (am_ldA 33 L st g 0) := am_E_aload_n (by decide +kernel : am_dc 38 32 = some (.aload_n 0)) rfl rfl
theorem x_38_33   : am_E d 38 Q (33, L, .ref a :: st, g) ↔ am_kv d 38 Q 36 L st g (am_gf g a 0 0) := am_E_getfield (by decide +kernel : am_dc 38 33 = some (.getfield 22)) (by decide +kernel) rfl
theorem x_38_36   : am_E d 38 Q (36, L, .ref a :: st, g) ↔ am_kv d 38 Q 39 L st g (am_gf g a 8 0) := am_E_getfield (by decide +kernel : am_dc 38 36 = some (.getfield 92)) (by decide +kernel) rfl
theorem x_38_39   : am_E d 38 Q (39, L, st, g) ↔ am_K d 38 Q (am_ldI 40 L st g 1) := am_E_iload_n (by decide +kernel : am_dc 38 39 = some (.iload_n 1)) rfl rfl
theorem x_38_40   : am_E d 38 Q (40, L, .int x :: .ref a :: st, g) ↔ am_kv d 38 Q 41 L st g (am_iat .aaload g a x) := am_E_aaload (by decide +kernel : am_dc 38 40 = some (.aaload)) rfl
theorem x_38_41   : am_E d 38 Q (41, L, st, g) ↔ am_K d 38 Q (am_stA 43 L st g 4) := am_E_astore (by decide +kernel : am_dc 38 41 = some (.astore 4)) rfl
theorem x_38_43   : am_E d 38 Q (43, L, st, g) ↔ am_K d 38 Q (am_ldA 45 L st g 4) := am_E_aload (by decide +kernel : am_dc 38 43 = some (.aload 4)) rfl
theorem x_38_45   : am_E d 38 Q (45, L, st, g) ↔ am_K d 38 Q (am_ldI 46 L st g 3) := am_E_iload_n (by decide +kernel : am_dc 38 45 = some (.iload_n 3)) rfl rfl
theorem x_38_46   : am_E d 38 Q (46, L, st, g) ↔ am_K d 38 Q (am_ldI 47 L st g 2) := am_E_iload_n (by decide +kernel : am_dc 38 46 = some (.iload_n 2)) rfl rfl
theorem x_38_47  : am_E d 38 Q (47, L, st, g) ↔ am_K d 38 Q (am_S 38 (.invokevirtual 115) 47 L st g) := am_E_x (by decide +kernel : am_dc 38 47 = some (.invokevirtual 115))
theorem x_38_50   : am_E d 38 Q (50, L, .int x :: st, g) ↔ am_E d 38 Q (am_cmp .eq x 0 61 53, L, st, g) := am_E_if (by decide +kernel : am_dc 38 50 = some (.ifCond .eq (11))) rfl rfl
theorem x_38_53  : am_E d 38 Q (53, L, st, g) ↔ am_K d 38 Q (am_S 38 (.new 89) 53 L st g) := am_E_x (by decide +kernel : am_dc 38 53 = some (.new 89))
theorem x_38_56   : am_E d 38 Q (56, L, v :: st, g) ↔ if v.category = 1 then am_E d 38 Q (57, L, v :: v :: st, g) else False := am_E_dup (by decide +kernel : am_dc 38 56 = some (.dup)) rfl
theorem x_38_57  : am_E d 38 Q (57, L, st, g) ↔ am_K d 38 Q (am_S 38 (.invokespecial 91) 57 L st g) := am_E_x (by decide +kernel : am_dc 38 57 = some (.invokespecial 91))
theorem x_38_61   : am_E d 38 Q (61, L, st, g) ↔ am_K d 38 Q (am_ldA 62 L st g 0) := am_E_aload_n (by decide +kernel : am_dc 38 61 = some (.aload_n 0)) rfl rfl
theorem x_38_62   : am_E d 38 Q (62, L, .ref a :: st, g) ↔ am_kv d 38 Q 65 L st g (am_gf g a 0 3) := am_E_getfield (by decide +kernel : am_dc 38 62 = some (.getfield 41)) (by decide +kernel) rfl
theorem x_38_65  : am_E d 38 Q (65, L, st, g) ↔ am_K d 38 Q (am_S 38 (.invokevirtual 105) 65 L st g) := am_E_x (by decide +kernel : am_dc 38 65 = some (.invokevirtual 105))
theorem x_38_68   : am_E d 38 Q (68, L, st, g) ↔ am_K d 38 Q (am_ldA 70 L st g 4) := am_E_aload (by decide +kernel : am_dc 38 68 = some (.aload 4)) rfl
theorem x_38_70   : am_E d 38 Q (70, L, st, g) ↔ am_K d 38 Q (am_ldI 71 L st g 2) := am_E_iload_n (by decide +kernel : am_dc 38 70 = some (.iload_n 2)) rfl rfl
theorem x_38_71   : am_E d 38 Q (71, L, st, g) ↔ am_K d 38 Q (am_ldI 72 L st g 3) := am_E_iload_n (by decide +kernel : am_dc 38 71 = some (.iload_n 3)) rfl rfl
theorem x_38_72  : am_E d 38 Q (72, L, st, g) ↔ am_K d 38 Q (am_S 38 (.invokevirtual 118) 72 L st g) := am_E_x (by decide +kernel : am_dc 38 72 = some (.invokevirtual 118))
theorem x_38_75   : am_E d 38 Q (75, L, st, g) ↔ am_K d 38 Q (am_ldA 77 L st g 4) := am_E_aload (by decide +kernel : am_dc 38 75 = some (.aload 4)) rfl
theorem x_38_77   : am_E d 38 Q (77, L, .ref a :: st, g) ↔ am_kv d 38 Q 80 L st g (am_gf g a 10 2) := am_E_getfield (by decide +kernel : am_dc 38 77 = some (.getfield 122)) (by decide +kernel) rfl
theorem x_38_80   : am_E d 38 Q (80, L, st, g) ↔ am_K d 38 Q (am_ldI 81 L st g 2) := am_E_iload_n (by decide +kernel : am_dc 38 80 = some (.iload_n 2)) rfl rfl
theorem x_38_81   : am_E d 38 Q (81, L, .int x :: .ref a :: st, g) ↔ am_kv d 38 Q 82 L st g (am_iat .iaload g a x) := am_E_iaload (by decide +kernel : am_dc 38 81 = some (.iaload)) rfl
theorem x_38_82  : am_E d 38 Q (82, L, [.int x], g) ↔ if am_ok (FieldType.int) (.int x) = true then Q (.inl (some (.int x))) g else False := am_E_ireturn (by decide +kernel : am_dc 38 82 = some (.ireturn)) (by decide +kernel)
theorem f_38_22 : am_fl 38 22 = some (0, 0) := by decide +kernel
theorem v_38_112 : am_iv 38 112 = some (1, 126, 3) := by decide +kernel
theorem v_38_82 : am_iv 38 82 = some (1, 125, 3) := by decide +kernel
theorem w_38_86 : am_nw 38 86 = none := by decide +kernel
theorem e_38_86 : am_xw 38 86 = some (0, 88) := by decide +kernel
theorem f_38_92 : am_fl 38 92 = some (8, 0) := by decide +kernel
theorem v_38_115 : am_iv 38 115 = some (1, 151, 3) := by decide +kernel
theorem w_38_89 : am_nw 38 89 = none := by decide +kernel
theorem e_38_89 : am_xw 38 89 = some (1, 91) := by decide +kernel
theorem f_38_41 : am_fl 38 41 = some (0, 3) := by decide +kernel
theorem v_38_105 : am_iv 38 105 = some (1, 86, 1) := by decide +kernel
theorem v_38_118 : am_iv 38 118 = some (1, 147, 3) := by decide +kernel
theorem f_38_122 : am_fl 38 122 = some (10, 2) := by decide +kernel
theorem t_38 : am_t 38 = some (FieldType.int) := by decide +kernel
theorem h_38 : am_h 38 = [] := by decide +kernel
theorem m_38 : am_m 38 = 5 := by decide +kernel
theorem x_39_0   : am_E d 39 Q (0, L, st, g) ↔ am_K d 39 Q (am_ldI 1 L st g 2) := am_E_iload_n (by decide +kernel : am_dc 39 0 = some (.iload_n 2)) rfl rfl
theorem x_39_1   : am_E d 39 Q (1, L, st, g) ↔ am_E d 39 Q (2, L, .int (1) :: st, g) := am_E_iconst (by decide +kernel : am_dc 39 1 = some (.iconst (1))) (by decide) rfl
theorem x_39_2   : am_E d 39 Q (2, L, .int y :: .int x :: st, g) ↔ am_E d 39 Q (am_cmp .eq x y 10 5, L, st, g) := am_E_ic (by decide +kernel : am_dc 39 2 = some (.if_icmp .eq (8))) rfl rfl
theorem x_39_5   : am_E d 39 Q (5, L, st, g) ↔ am_K d 39 Q (am_ldI 6 L st g 2) := am_E_iload_n (by decide +kernel : am_dc 39 5 = some (.iload_n 2)) rfl rfl
theorem x_39_6   : am_E d 39 Q (6, L, st, g) ↔ am_E d 39 Q (7, L, .int (2) :: st, g) := am_E_iconst (by decide +kernel : am_dc 39 6 = some (.iconst (2))) (by decide) rfl
theorem x_39_7   : am_E d 39 Q (7, L, .int y :: .int x :: st, g) ↔ am_E d 39 Q (am_cmp .ne x y 14 10, L, st, g) := am_E_ic (by decide +kernel : am_dc 39 7 = some (.if_icmp .ne (7))) rfl rfl
theorem x_39_10   : am_E d 39 Q (10, L, st, g) ↔ am_E d 39 Q (11, L, .int (1) :: st, g) := am_E_iconst (by decide +kernel : am_dc 39 10 = some (.iconst (1))) (by decide) rfl
theorem x_39_11   : am_E d 39 Q (11, L, st, g) ↔ am_E d 39 Q (15, L, st, g) := am_E_gt (by decide +kernel : am_dc 39 11 = some (.goto (4))) rfl rfl
theorem x_39_14   : am_E d 39 Q (14, L, st, g) ↔ am_E d 39 Q (15, L, .int (0) :: st, g) := am_E_iconst (by decide +kernel : am_dc 39 14 = some (.iconst (0))) (by decide) rfl
theorem x_39_15   : am_E d 39 Q (15, L, st, g) ↔ am_K d 39 Q (am_stI 17 L st g 4) := am_E_istore (by decide +kernel : am_dc 39 15 = some (.istore 4)) rfl
theorem x_39_17   : am_E d 39 Q (17, L, st, g) ↔ am_K d 39 Q (am_ldI 18 L st g 1) := am_E_iload_n (by decide +kernel : am_dc 39 17 = some (.iload_n 1)) rfl rfl
theorem x_39_18   : am_E d 39 Q (18, L, .int x :: st, g) ↔ am_E d 39 Q (am_cmp .lt x 0 43 21, L, st, g) := am_E_if (by decide +kernel : am_dc 39 18 = some (.ifCond .lt (25))) rfl rfl
theorem x_39_21   : am_E d 39 Q (21, L, st, g) ↔ am_K d 39 Q (am_ldI 22 L st g 1) := am_E_iload_n (by decide +kernel : am_dc 39 21 = some (.iload_n 1)) rfl rfl
theorem x_39_22   : am_E d 39 Q (22, L, st, g) ↔ am_E d 39 Q (23, L, .int (3) :: st, g) := am_E_iconst (by decide +kernel : am_dc 39 22 = some (.iconst (3))) (by decide) rfl
theorem x_39_23   : am_E d 39 Q (23, L, .int y :: .int x :: st, g) ↔ am_E d 39 Q (am_cmp .ge x y 43 26, L, st, g) := am_E_ic (by decide +kernel : am_dc 39 23 = some (.if_icmp .ge (20))) rfl rfl
theorem x_39_26   : am_E d 39 Q (26, L, st, g) ↔ am_K d 39 Q (am_ldI 28 L st g 4) := am_E_iload (by decide +kernel : am_dc 39 26 = some (.iload 4)) rfl
theorem x_39_28   : am_E d 39 Q (28, L, .int x :: st, g) ↔ am_E d 39 Q (am_cmp .eq x 0 51 31, L, st, g) := am_E_if (by decide +kernel : am_dc 39 28 = some (.ifCond .eq (23))) rfl rfl
theorem x_39_31   : am_E d 39 Q (31, L, st, g) ↔ am_K d 39 Q (am_ldA 32 L st g 0) := am_E_aload_n (by decide +kernel : am_dc 39 31 = some (.aload_n 0)) rfl rfl
theorem x_39_32   : am_E d 39 Q (32, L, .ref a :: st, g) ↔ am_kv d 39 Q 35 L st g (am_gf g a 0 0) := am_E_getfield (by decide +kernel : am_dc 39 32 = some (.getfield 22)) (by decide +kernel) rfl
theorem x_39_35   : am_E d 39 Q (35, L, st, g) ↔ am_K d 39 Q (am_ldI 36 L st g 1) := am_E_iload_n (by decide +kernel : am_dc 39 35 = some (.iload_n 1)) rfl rfl
theorem x_39_36   : am_E d 39 Q (36, L, st, g) ↔ am_K d 39 Q (am_ldI 37 L st g 3) := am_E_iload_n (by decide +kernel : am_dc 39 36 = some (.iload_n 3)) rfl rfl
theorem x_39_37  : am_E d 39 Q (37, L, st, g) ↔ am_K d 39 Q (am_S 39 (.invokevirtual 112) 37 L st g) := am_E_x (by decide +kernel : am_dc 39 37 = some (.invokevirtual 112))
theorem x_39_40   : am_E d 39 Q (40, L, .int x :: st, g) ↔ am_E d 39 Q (am_cmp .ne x 0 51 43, L, st, g) := am_E_if (by decide +kernel : am_dc 39 40 = some (.ifCond .ne (11))) rfl rfl
theorem x_39_43  : am_E d 39 Q (43, L, st, g) ↔ am_K d 39 Q (am_S 39 (.new 86) 43 L st g) := am_E_x (by decide +kernel : am_dc 39 43 = some (.new 86))
theorem x_39_46   : am_E d 39 Q (46, L, v :: st, g) ↔ if v.category = 1 then am_E d 39 Q (47, L, v :: v :: st, g) else False := am_E_dup (by decide +kernel : am_dc 39 46 = some (.dup)) rfl
theorem x_39_47  : am_E d 39 Q (47, L, st, g) ↔ am_K d 39 Q (am_S 39 (.invokespecial 88) 47 L st g) := am_E_x (by decide +kernel : am_dc 39 47 = some (.invokespecial 88))
theorem x_39_51   : am_E d 39 Q (51, L, st, g) ↔ am_K d 39 Q (am_ldI 52 L st g 2) := am_E_iload_n (by decide +kernel : am_dc 39 51 = some (.iload_n 2)) rfl rfl
theorem x_39_52   : am_E d 39 Q (52, L, .int x :: st, g) ↔ am_E d 39 Q (am_cmp .lt x 0 60 55, L, st, g) := am_E_if (by decide +kernel : am_dc 39 52 = some (.ifCond .lt (8))) rfl rfl
theorem x_39_55   : am_E d 39 Q (55, L, st, g) ↔ am_K d 39 Q (am_ldI 56 L st g 2) := am_E_iload_n (by decide +kernel : am_dc 39 55 = some (.iload_n 2)) rfl rfl
theorem x_39_56   : am_E d 39 Q (56, L, st, g) ↔ am_E d 39 Q (57, L, .int (3) :: st, g) := am_E_iconst (by decide +kernel : am_dc 39 56 = some (.iconst (3))) (by decide) rfl
theorem x_39_57   : am_E d 39 Q (57, L, .int y :: .int x :: st, g) ↔ am_E d 39 Q (am_cmp .lt x y 68 60, L, st, g) := am_E_ic (by decide +kernel : am_dc 39 57 = some (.if_icmp .lt (11))) rfl rfl
theorem x_39_60  : am_E d 39 Q (60, L, st, g) ↔ am_K d 39 Q (am_S 39 (.new 89) 60 L st g) := am_E_x (by decide +kernel : am_dc 39 60 = some (.new 89))
theorem x_39_63   : am_E d 39 Q (63, L, v :: st, g) ↔ if v.category = 1 then am_E d 39 Q (64, L, v :: v :: st, g) else False := am_E_dup (by decide +kernel : am_dc 39 63 = some (.dup)) rfl
theorem x_39_64  : am_E d 39 Q (64, L, st, g) ↔ am_K d 39 Q (am_S 39 (.invokespecial 91) 64 L st g) := am_E_x (by decide +kernel : am_dc 39 64 = some (.invokespecial 91))
theorem x_39_68   : am_E d 39 Q (68, L, st, g) ↔ am_K d 39 Q (am_ldA 69 L st g 0) := am_E_aload_n (by decide +kernel : am_dc 39 68 = some (.aload_n 0)) rfl rfl
theorem x_39_69   : am_E d 39 Q (69, L, .ref a :: st, g) ↔ am_kv d 39 Q 72 L st g (am_gf g a 0 7) := am_E_getfield (by decide +kernel : am_dc 39 69 = some (.getfield 65)) (by decide +kernel) rfl
theorem x_39_72   : am_E d 39 Q (72, L, .ref a :: st, g) ↔ am_kv d 39 Q 75 L st g (am_gf g a 6 0) := am_E_getfield (by decide +kernel : am_dc 39 72 = some (.getfield 142)) (by decide +kernel) rfl
theorem x_39_75   : am_E d 39 Q (75, L, st, g) ↔ am_K d 39 Q (am_ldI 76 L st g 1) := am_E_iload_n (by decide +kernel : am_dc 39 75 = some (.iload_n 1)) rfl rfl
theorem x_39_76   : am_E d 39 Q (76, L, st, g) ↔ am_K d 39 Q (am_ldI 77 L st g 2) := am_E_iload_n (by decide +kernel : am_dc 39 76 = some (.iload_n 2)) rfl rfl
theorem x_39_77   : am_E d 39 Q (77, L, v :: .int x :: .ref a :: st, g) ↔ am_kg d 39 Q 78 L st (am_sat .iastore g a x v) := am_E_iastore (by decide +kernel : am_dc 39 77 = some (.iastore)) rfl
theorem x_39_78   : am_E d 39 Q (78, L, st, g) ↔ am_K d 39 Q (am_ldA 79 L st g 0) := am_E_aload_n (by decide +kernel : am_dc 39 78 = some (.aload_n 0)) rfl rfl
theorem x_39_79   : am_E d 39 Q (79, L, .ref a :: st, g) ↔ am_kv d 39 Q 82 L st g (am_gf g a 0 7) := am_E_getfield (by decide +kernel : am_dc 39 79 = some (.getfield 65)) (by decide +kernel) rfl
theorem x_39_82   : am_E d 39 Q (82, L, .ref a :: st, g) ↔ am_kv d 39 Q 85 L st g (am_gf g a 6 1) := am_E_getfield (by decide +kernel : am_dc 39 82 = some (.getfield 145)) (by decide +kernel) rfl
theorem x_39_85   : am_E d 39 Q (85, L, st, g) ↔ am_K d 39 Q (am_ldI 86 L st g 1) := am_E_iload_n (by decide +kernel : am_dc 39 85 = some (.iload_n 1)) rfl rfl
theorem x_39_86   : am_E d 39 Q (86, L, st, g) ↔ am_K d 39 Q (am_ldI 88 L st g 4) := am_E_iload (by decide +kernel : am_dc 39 86 = some (.iload 4)) rfl
theorem x_39_88   : am_E d 39 Q (88, L, .int x :: st, g) ↔ am_E d 39 Q (am_cmp .eq x 0 95 91, L, st, g) := am_E_if (by decide +kernel : am_dc 39 88 = some (.ifCond .eq (7))) rfl rfl
theorem x_39_91   : am_E d 39 Q (91, L, st, g) ↔ am_K d 39 Q (am_ldI 92 L st g 3) := am_E_iload_n (by decide +kernel : am_dc 39 91 = some (.iload_n 3)) rfl rfl
theorem x_39_92   : am_E d 39 Q (92, L, st, g) ↔ am_E d 39 Q (96, L, st, g) := am_E_gt (by decide +kernel : am_dc 39 92 = some (.goto (4))) rfl rfl
theorem x_39_95   : am_E d 39 Q (95, L, st, g) ↔ am_E d 39 Q (96, L, .int (0) :: st, g) := am_E_iconst (by decide +kernel : am_dc 39 95 = some (.iconst (0))) (by decide) rfl
theorem x_39_96   : am_E d 39 Q (96, L, v :: .int x :: .ref a :: st, g) ↔ am_kg d 39 Q 97 L st (am_sat .iastore g a x v) := am_E_iastore (by decide +kernel : am_dc 39 96 = some (.iastore)) rfl
theorem x_39_97  : am_E d 39 Q (97, L, [], g) ↔ Q (.inl none) g := am_E_return (by decide +kernel : am_dc 39 97 = some (.return_)) (by decide +kernel)
theorem f_39_22 : am_fl 39 22 = some (0, 0) := by decide +kernel
theorem v_39_112 : am_iv 39 112 = some (1, 126, 3) := by decide +kernel
theorem w_39_86 : am_nw 39 86 = none := by decide +kernel
theorem e_39_86 : am_xw 39 86 = some (0, 88) := by decide +kernel
theorem w_39_89 : am_nw 39 89 = none := by decide +kernel
theorem e_39_89 : am_xw 39 89 = some (1, 91) := by decide +kernel
theorem f_39_65 : am_fl 39 65 = some (0, 7) := by decide +kernel
theorem f_39_142 : am_fl 39 142 = some (6, 0) := by decide +kernel
theorem f_39_145 : am_fl 39 145 = some (6, 1) := by decide +kernel
theorem t_39 : am_t 39 = none := by decide +kernel
theorem h_39 : am_h 39 = [] := by decide +kernel
theorem m_39 : am_m 39 = 5 := by decide +kernel
theorem x_40_0   : am_E d 40 Q (0, L, st, g) ↔ am_K d 40 Q (am_ldA 1 L st g 0) := am_E_aload_n (by decide +kernel : am_dc 40 0 = some (.aload_n 0)) rfl rfl
theorem x_40_1   : am_E d 40 Q (1, L, st, g) ↔ am_K d 40 Q (am_ldI 2 L st g 1) := am_E_iload_n (by decide +kernel : am_dc 40 1 = some (.iload_n 1)) rfl rfl
theorem x_40_2  : am_E d 40 Q (2, L, st, g) ↔ am_K d 40 Q (am_S 40 (.invokevirtual 168) 2 L st g) := am_E_x (by decide +kernel : am_dc 40 2 = some (.invokevirtual 168))
theorem x_40_5   : am_E d 40 Q (5, L, .int x :: st, g) ↔ am_E d 40 Q (am_cmp .ne x 0 16 8, L, st, g) := am_E_if (by decide +kernel : am_dc 40 5 = some (.ifCond .ne (11))) rfl rfl
theorem x_40_8  : am_E d 40 Q (8, L, st, g) ↔ am_K d 40 Q (am_S 40 (.new 86) 8 L st g) := am_E_x (by decide +kernel : am_dc 40 8 = some (.new 86))
theorem x_40_11   : am_E d 40 Q (11, L, v :: st, g) ↔ if v.category = 1 then am_E d 40 Q (12, L, v :: v :: st, g) else False := am_E_dup (by decide +kernel : am_dc 40 11 = some (.dup)) rfl
theorem x_40_12  : am_E d 40 Q (12, L, st, g) ↔ am_K d 40 Q (am_S 40 (.invokespecial 88) 12 L st g) := am_E_x (by decide +kernel : am_dc 40 12 = some (.invokespecial 88))
theorem x_40_16   : am_E d 40 Q (16, L, st, g) ↔ am_K d 40 Q (am_ldI 17 L st g 2) := am_E_iload_n (by decide +kernel : am_dc 40 16 = some (.iload_n 2)) rfl rfl
theorem x_40_17   : am_E d 40 Q (17, L, .int x :: st, g) ↔ am_E d 40 Q (18, L, .long x.toInt64 :: st, g) := am_E_i2l (by decide +kernel : am_dc 40 17 = some (.i2l)) rfl
theorem x_40_18  : am_E d 40 Q (18, L, st, g) ↔ am_K d 40 Q (am_S 40 (.invokestatic 171) 18 L st g) := am_E_x (by decide +kernel : am_dc 40 18 = some (.invokestatic 171))
theorem x_40_21   : am_E d 40 Q (21, L, .int x :: st, g) ↔ am_E d 40 Q (am_cmp .ne x 0 32 24, L, st, g) := am_E_if (by decide +kernel : am_dc 40 21 = some (.ifCond .ne (11))) rfl rfl
theorem x_40_24  : am_E d 40 Q (24, L, st, g) ↔ am_K d 40 Q (am_S 40 (.new 89) 24 L st g) := am_E_x (by decide +kernel : am_dc 40 24 = some (.new 89))
theorem x_40_27   : am_E d 40 Q (27, L, v :: st, g) ↔ if v.category = 1 then am_E d 40 Q (28, L, v :: v :: st, g) else False := am_E_dup (by decide +kernel : am_dc 40 27 = some (.dup)) rfl
theorem x_40_28  : am_E d 40 Q (28, L, st, g) ↔ am_K d 40 Q (am_S 40 (.invokespecial 91) 28 L st g) := am_E_x (by decide +kernel : am_dc 40 28 = some (.invokespecial 91))
theorem x_40_32   : am_E d 40 Q (32, L, st, g) ↔ am_K d 40 Q (am_ldA 33 L st g 0) := am_E_aload_n (by decide +kernel : am_dc 40 32 = some (.aload_n 0)) rfl rfl
theorem x_40_33  : am_E d 40 Q (33, L, st, g) ↔ am_K d 40 Q (am_S 40 (.invokevirtual 177) 33 L st g) := am_E_x (by decide +kernel : am_dc 40 33 = some (.invokevirtual 177))
theorem x_40_36   : am_E d 40 Q (36, L, st, g) ↔ am_K d 40 Q (am_stI 37 L st g 3) := am_E_istore_n (by decide +kernel : am_dc 40 36 = some (.istore_n 3)) rfl rfl
theorem x_40_37   : am_E d 40 Q (37, L, st, g) ↔ am_K d 40 Q (am_ldA 38 L st g 0) := am_E_aload_n (by decide +kernel : am_dc 40 37 = some (.aload_n 0)) rfl rfl
theorem x_40_38   : am_E d 40 Q (38, L, .ref a :: st, g) ↔ am_kv d 40 Q 41 L st g (am_gf g a 0 0) := am_E_getfield (by decide +kernel : am_dc 40 38 = some (.getfield 22)) (by decide +kernel) rfl
theorem x_40_41   : am_E d 40 Q (41, L, st, g) ↔ am_K d 40 Q (am_ldI 42 L st g 3) := am_E_iload_n (by decide +kernel : am_dc 40 41 = some (.iload_n 3)) rfl rfl
theorem x_40_42  : am_E d 40 Q (42, L, st, g) ↔ am_K d 40 Q (am_S 40 (.invokevirtual 180) 42 L st g) := am_E_x (by decide +kernel : am_dc 40 42 = some (.invokevirtual 180))
theorem x_40_45   : am_E d 40 Q (45, L, .int x :: st, g) ↔ am_E d 40 Q (am_cmp .ne x 0 56 48, L, st, g) := am_E_if (by decide +kernel : am_dc 40 45 = some (.ifCond .ne (11))) rfl rfl
theorem x_40_48  : am_E d 40 Q (48, L, st, g) ↔ am_K d 40 Q (am_S 40 (.new 102) 48 L st g) := am_E_x (by decide +kernel : am_dc 40 48 = some (.new 102))
theorem x_40_51   : am_E d 40 Q (51, L, v :: st, g) ↔ if v.category = 1 then am_E d 40 Q (52, L, v :: v :: st, g) else False := am_E_dup (by decide +kernel : am_dc 40 51 = some (.dup)) rfl
theorem x_40_52  : am_E d 40 Q (52, L, st, g) ↔ am_K d 40 Q (am_S 40 (.invokespecial 104) 52 L st g) := am_E_x (by decide +kernel : am_dc 40 52 = some (.invokespecial 104))
theorem x_40_56   : am_E d 40 Q (56, L, st, g) ↔ am_K d 40 Q (am_ldA 57 L st g 0) := am_E_aload_n (by decide +kernel : am_dc 40 56 = some (.aload_n 0)) rfl rfl
theorem x_40_57   : am_E d 40 Q (57, L, .ref a :: st, g) ↔ am_kv d 40 Q 60 L st g (am_gf g a 0 3) := am_E_getfield (by decide +kernel : am_dc 40 57 = some (.getfield 41)) (by decide +kernel) rfl
theorem x_40_60   : am_E d 40 Q (60, L, st, g) ↔ am_K d 40 Q (am_ldI 61 L st g 1) := am_E_iload_n (by decide +kernel : am_dc 40 60 = some (.iload_n 1)) rfl rfl
theorem x_40_61  : am_E d 40 Q (61, L, st, g) ↔ am_K d 40 Q (am_S 40 (.invokevirtual 183) 61 L st g) := am_E_x (by decide +kernel : am_dc 40 61 = some (.invokevirtual 183))
theorem x_40_64   : am_E d 40 Q (64, L, st, g) ↔ am_K d 40 Q (am_ldA 65 L st g 0) := am_E_aload_n (by decide +kernel : am_dc 40 64 = some (.aload_n 0)) rfl rfl
theorem x_40_65   : am_E d 40 Q (65, L, .ref a :: st, g) ↔ am_kv d 40 Q 68 L st g (am_gf g a 0 2) := am_E_getfield (by decide +kernel : am_dc 40 65 = some (.getfield 32)) (by decide +kernel) rfl
theorem x_40_68   : am_E d 40 Q (68, L, .ref a :: st, g) ↔ am_kv d 40 Q 71 L st g (am_gf g a 2 0) := am_E_getfield (by decide +kernel : am_dc 40 68 = some (.getfield 186)) (by decide +kernel) rfl
theorem x_40_71   : am_E d 40 Q (71, L, st, g) ↔ am_K d 40 Q (am_ldI 72 L st g 1) := am_E_iload_n (by decide +kernel : am_dc 40 71 = some (.iload_n 1)) rfl rfl
theorem x_40_72   : am_E d 40 Q (72, L, .int x :: .ref a :: st, g) ↔ am_kv d 40 Q 73 L st g (am_iat .aaload g a x) := am_E_aaload (by decide +kernel : am_dc 40 72 = some (.aaload)) rfl
theorem x_40_73   : am_E d 40 Q (73, L, st, g) ↔ am_K d 40 Q (am_ldI 74 L st g 3) := am_E_iload_n (by decide +kernel : am_dc 40 73 = some (.iload_n 3)) rfl rfl
theorem x_40_74   : am_E d 40 Q (74, L, st, g) ↔ am_K d 40 Q (am_ldI 75 L st g 2) := am_E_iload_n (by decide +kernel : am_dc 40 74 = some (.iload_n 2)) rfl rfl
theorem x_40_75   : am_E d 40 Q (75, L, v :: .int x :: .ref a :: st, g) ↔ am_kg d 40 Q 76 L st (am_sat .iastore g a x v) := am_E_iastore (by decide +kernel : am_dc 40 75 = some (.iastore)) rfl
theorem x_40_76  : am_E d 40 Q (76, L, [], g) ↔ Q (.inl none) g := am_E_return (by decide +kernel : am_dc 40 76 = some (.return_)) (by decide +kernel)
theorem v_40_168 : am_iv 40 168 = some (1, 26, 2) := by decide +kernel
theorem w_40_86 : am_nw 40 86 = none := by decide +kernel
theorem e_40_86 : am_xw 40 86 = some (0, 88) := by decide +kernel
theorem v_40_171 : am_iv 40 171 = some (0, 54, 1) := by decide +kernel
theorem w_40_89 : am_nw 40 89 = none := by decide +kernel
theorem e_40_89 : am_xw 40 89 = some (1, 91) := by decide +kernel
theorem v_40_177 : am_iv 40 177 = some (1, 29, 1) := by decide +kernel
theorem f_40_22 : am_fl 40 22 = some (0, 0) := by decide +kernel
theorem v_40_180 : am_iv 40 180 = some (1, 129, 2) := by decide +kernel
theorem w_40_102 : am_nw 40 102 = none := by decide +kernel
theorem e_40_102 : am_xw 40 102 = some (2, 104) := by decide +kernel
theorem f_40_41 : am_fl 40 41 = some (0, 3) := by decide +kernel
theorem v_40_183 : am_iv 40 183 = some (1, 87, 2) := by decide +kernel
theorem f_40_32 : am_fl 40 32 = some (0, 2) := by decide +kernel
theorem f_40_186 : am_fl 40 186 = some (2, 0) := by decide +kernel
theorem t_40 : am_t 40 = none := by decide +kernel
theorem h_40 : am_h 40 = [] := by decide +kernel
theorem m_40 : am_m 40 = 4 := by decide +kernel
theorem x_41_0   : am_E d 41 Q (0, L, st, g) ↔ am_K d 41 Q (am_ldA 1 L st g 0) := am_E_aload_n (by decide +kernel : am_dc 41 0 = some (.aload_n 0)) rfl rfl
theorem x_41_1   : am_E d 41 Q (1, L, .ref a :: st, g) ↔ am_kv d 41 Q 4 L st g (am_gf g a 0 3) := am_E_getfield (by decide +kernel : am_dc 41 1 = some (.getfield 41)) (by decide +kernel) rfl
theorem x_41_4   : am_E d 41 Q (4, L, .ref a :: st, g) ↔ am_kv d 41 Q 7 L st g (am_gf g a 3 5) := am_E_getfield (by decide +kernel : am_dc 41 4 = some (.getfield 254)) (by decide +kernel) rfl
theorem x_41_7   : am_E d 41 Q (7, L, .int x :: st, g) ↔ am_E d 41 Q (am_cmp .ne x 0 18 10, L, st, g) := am_E_if (by decide +kernel : am_dc 41 7 = some (.ifCond .ne (11))) rfl rfl
theorem x_41_10  : am_E d 41 Q (10, L, st, g) ↔ am_K d 41 Q (am_S 41 (.new 102) 10 L st g) := am_E_x (by decide +kernel : am_dc 41 10 = some (.new 102))
theorem x_41_13   : am_E d 41 Q (13, L, v :: st, g) ↔ if v.category = 1 then am_E d 41 Q (14, L, v :: v :: st, g) else False := am_E_dup (by decide +kernel : am_dc 41 13 = some (.dup)) rfl
theorem x_41_14  : am_E d 41 Q (14, L, st, g) ↔ am_K d 41 Q (am_S 41 (.invokespecial 104) 14 L st g) := am_E_x (by decide +kernel : am_dc 41 14 = some (.invokespecial 104))
theorem x_41_18   : am_E d 41 Q (18, L, st, g) ↔ am_K d 41 Q (am_ldA 19 L st g 0) := am_E_aload_n (by decide +kernel : am_dc 41 18 = some (.aload_n 0)) rfl rfl
theorem x_41_19   : am_E d 41 Q (19, L, .ref a :: st, g) ↔ am_kv d 41 Q 22 L st g (am_gf g a 0 3) := am_E_getfield (by decide +kernel : am_dc 41 19 = some (.getfield 41)) (by decide +kernel) rfl
theorem x_41_22  : am_E d 41 Q (22, L, st, g) ↔ am_K d 41 Q (am_S 41 (.invokevirtual 257) 22 L st g) := am_E_x (by decide +kernel : am_dc 41 22 = some (.invokevirtual 257))
theorem x_41_25   : am_E d 41 Q (25, L, st, g) ↔ am_K d 41 Q (am_ldA 26 L st g 0) := am_E_aload_n (by decide +kernel : am_dc 41 25 = some (.aload_n 0)) rfl rfl
theorem x_41_26   : am_E d 41 Q (26, L, .ref a :: st, g) ↔ am_kv d 41 Q 29 L st g (am_gf g a 0 3) := am_E_getfield (by decide +kernel : am_dc 41 26 = some (.getfield 41)) (by decide +kernel) rfl
theorem x_41_29   : am_E d 41 Q (29, L, .ref a :: st, g) ↔ am_kv d 41 Q 32 L st g (am_gf g a 3 5) := am_E_getfield (by decide +kernel : am_dc 41 29 = some (.getfield 254)) (by decide +kernel) rfl
theorem x_41_32  : am_E d 41 Q (32, L, [.int x], g) ↔ if am_ok (FieldType.int) (.int x) = true then Q (.inl (some (.int x))) g else False := am_E_ireturn (by decide +kernel : am_dc 41 32 = some (.ireturn)) (by decide +kernel)
theorem f_41_41 : am_fl 41 41 = some (0, 3) := by decide +kernel
theorem f_41_254 : am_fl 41 254 = some (3, 5) := by decide +kernel
theorem w_41_102 : am_nw 41 102 = none := by decide +kernel
theorem e_41_102 : am_xw 41 102 = some (2, 104) := by decide +kernel
theorem v_41_257 : am_iv 41 257 = some (1, 89, 1) := by decide +kernel
theorem t_41 : am_t 41 = some (FieldType.int) := by decide +kernel
theorem h_41 : am_h 41 = [] := by decide +kernel
theorem m_41 : am_m 41 = 1 := by decide +kernel
theorem x_42_0   : am_E d 42 Q (0, L, st, g) ↔ am_K d 42 Q (am_ldA 1 L st g 0) := am_E_aload_n (by decide +kernel : am_dc 42 0 = some (.aload_n 0)) rfl rfl
theorem x_42_1   : am_E d 42 Q (1, L, .ref a :: st, g) ↔ am_kv d 42 Q 4 L st g (am_gf g a 0 1) := am_E_getfield (by decide +kernel : am_dc 42 1 = some (.getfield 28)) (by decide +kernel) rfl
theorem x_42_4   : am_E d 42 Q (4, L, .ref a :: st, g) ↔ am_kv d 42 Q 7 L st g (am_gf g a 7 1) := am_E_getfield (by decide +kernel : am_dc 42 4 = some (.getfield 152)) (by decide +kernel) rfl
theorem x_42_7   : am_E d 42 Q (7, L, st, g) ↔ am_E d 42 Q (9, L, .int (8) :: st, g) := am_E_bipush (by decide +kernel : am_dc 42 7 = some (.bipush (8))) (by decide) rfl
theorem x_42_9   : am_E d 42 Q (9, L, .int y :: .int x :: st, g) ↔ am_E d 42 Q (am_cmp .lt x y 20 12, L, st, g) := am_E_ic (by decide +kernel : am_dc 42 9 = some (.if_icmp .lt (11))) rfl rfl
theorem x_42_12  : am_E d 42 Q (12, L, st, g) ↔ am_K d 42 Q (am_S 42 (.new 102) 12 L st g) := am_E_x (by decide +kernel : am_dc 42 12 = some (.new 102))
theorem x_42_15   : am_E d 42 Q (15, L, v :: st, g) ↔ if v.category = 1 then am_E d 42 Q (16, L, v :: v :: st, g) else False := am_E_dup (by decide +kernel : am_dc 42 15 = some (.dup)) rfl
theorem x_42_16  : am_E d 42 Q (16, L, st, g) ↔ am_K d 42 Q (am_S 42 (.invokespecial 104) 16 L st g) := am_E_x (by decide +kernel : am_dc 42 16 = some (.invokespecial 104))
theorem x_42_20   : am_E d 42 Q (20, L, st, g) ↔ am_K d 42 Q (am_ldA 21 L st g 0) := am_E_aload_n (by decide +kernel : am_dc 42 20 = some (.aload_n 0)) rfl rfl
theorem x_42_21   : am_E d 42 Q (21, L, .ref a :: st, g) ↔ am_kv d 42 Q 24 L st g (am_gf g a 0 8) := am_E_getfield (by decide +kernel : am_dc 42 21 = some (.getfield 74)) (by decide +kernel) rfl
theorem x_42_24  : am_E d 42 Q (24, L, st, g) ↔ am_K d 42 Q (am_S 42 (.invokevirtual 153) 24 L st g) := am_E_x (by decide +kernel : am_dc 42 24 = some (.invokevirtual 153))
theorem x_42_27   : am_E d 42 Q (27, L, st, g) ↔ am_K d 42 Q (am_stI 28 L st g 1) := am_E_istore_n (by decide +kernel : am_dc 42 27 = some (.istore_n 1)) rfl rfl
theorem x_42_28   : am_E d 42 Q (28, L, st, g) ↔ am_K d 42 Q (am_ldI 29 L st g 1) := am_E_iload_n (by decide +kernel : am_dc 42 28 = some (.iload_n 1)) rfl rfl
theorem x_42_29   : am_E d 42 Q (29, L, .int x :: st, g) ↔ am_E d 42 Q (am_cmp .ge x 0 50 32, L, st, g) := am_E_if (by decide +kernel : am_dc 42 29 = some (.ifCond .ge (21))) rfl rfl
theorem x_42_32   : am_E d 42 Q (32, L, st, g) ↔ am_K d 42 Q (am_ldA 33 L st g 0) := am_E_aload_n (by decide +kernel : am_dc 42 32 = some (.aload_n 0)) rfl rfl
theorem x_42_33   : am_E d 42 Q (33, L, .ref a :: st, g) ↔ am_kv d 42 Q 36 L st g (am_gf g a 0 1) := am_E_getfield (by decide +kernel : am_dc 42 33 = some (.getfield 28)) (by decide +kernel) rfl
theorem x_42_36   : am_E d 42 Q (36, L, st, g) ↔ am_K d 42 Q (am_ldA 37 L st g 0) := am_E_aload_n (by decide +kernel : am_dc 42 36 = some (.aload_n 0)) rfl rfl
theorem x_42_37   : am_E d 42 Q (37, L, .ref a :: st, g) ↔ am_kv d 42 Q 40 L st g (am_gf g a 0 7) := am_E_getfield (by decide +kernel : am_dc 42 37 = some (.getfield 65)) (by decide +kernel) rfl
theorem x_42_40  : am_E d 42 Q (40, L, st, g) ↔ am_K d 42 Q (am_S 42 (.invokevirtual 157) 40 L st g) := am_E_x (by decide +kernel : am_dc 42 40 = some (.invokevirtual 157))
theorem x_42_43   : am_E d 42 Q (43, L, st, g) ↔ am_K d 42 Q (am_ldA 44 L st g 0) := am_E_aload_n (by decide +kernel : am_dc 42 43 = some (.aload_n 0)) rfl rfl
theorem x_42_44   : am_E d 42 Q (44, L, .ref a :: st, g) ↔ am_kv d 42 Q 47 L st g (am_gf g a 0 3) := am_E_getfield (by decide +kernel : am_dc 42 44 = some (.getfield 41)) (by decide +kernel) rfl
theorem x_42_47  : am_E d 42 Q (47, L, st, g) ↔ am_K d 42 Q (am_S 42 (.invokevirtual 105) 47 L st g) := am_E_x (by decide +kernel : am_dc 42 47 = some (.invokevirtual 105))
theorem x_42_50   : am_E d 42 Q (50, L, st, g) ↔ am_K d 42 Q (am_ldA 51 L st g 0) := am_E_aload_n (by decide +kernel : am_dc 42 50 = some (.aload_n 0)) rfl rfl
theorem x_42_51   : am_E d 42 Q (51, L, .ref a :: st, g) ↔ am_kv d 42 Q 54 L st g (am_gf g a 0 7) := am_E_getfield (by decide +kernel : am_dc 42 51 = some (.getfield 65)) (by decide +kernel) rfl
theorem x_42_54  : am_E d 42 Q (54, L, st, g) ↔ am_K d 42 Q (am_S 42 (.invokevirtual 161) 54 L st g) := am_E_x (by decide +kernel : am_dc 42 54 = some (.invokevirtual 161))
theorem x_42_57   : am_E d 42 Q (57, L, st, g) ↔ am_K d 42 Q (am_ldA 58 L st g 0) := am_E_aload_n (by decide +kernel : am_dc 42 57 = some (.aload_n 0)) rfl rfl
theorem x_42_58   : am_E d 42 Q (58, L, .ref a :: st, g) ↔ am_kv d 42 Q 61 L st g (am_gf g a 0 6) := am_E_getfield (by decide +kernel : am_dc 42 58 = some (.getfield 61)) (by decide +kernel) rfl
theorem x_42_61  : am_E d 42 Q (61, L, st, g) ↔ am_K d 42 Q (am_S 42 (.invokevirtual 164) 61 L st g) := am_E_x (by decide +kernel : am_dc 42 61 = some (.invokevirtual 164))
theorem x_42_64   : am_E d 42 Q (64, L, st, g) ↔ am_K d 42 Q (am_ldI 65 L st g 1) := am_E_iload_n (by decide +kernel : am_dc 42 64 = some (.iload_n 1)) rfl rfl
theorem x_42_65   : am_E d 42 Q (65, L, st, g) ↔ am_E d 42 Q (66, L, .int (1) :: st, g) := am_E_iconst (by decide +kernel : am_dc 42 65 = some (.iconst (1))) (by decide) rfl
theorem x_42_66   : am_E d 42 Q (66, L, .int y :: .int x :: st, g) ↔ am_E d 42 Q (67, L, .int (x + y) :: st, g) := am_E_iadd (by decide +kernel : am_dc 42 66 = some (.iadd)) rfl
theorem x_42_67  : am_E d 42 Q (67, L, [.int x], g) ↔ if am_ok (FieldType.int) (.int x) = true then Q (.inl (some (.int x))) g else False := am_E_ireturn (by decide +kernel : am_dc 42 67 = some (.ireturn)) (by decide +kernel)
theorem f_42_28 : am_fl 42 28 = some (0, 1) := by decide +kernel
theorem f_42_152 : am_fl 42 152 = some (7, 1) := by decide +kernel
theorem w_42_102 : am_nw 42 102 = none := by decide +kernel
theorem e_42_102 : am_xw 42 102 = some (2, 104) := by decide +kernel
theorem f_42_74 : am_fl 42 74 = some (0, 8) := by decide +kernel
theorem v_42_153 : am_iv 42 153 = some (1, 95, 1) := by decide +kernel
theorem f_42_65 : am_fl 42 65 = some (0, 7) := by decide +kernel
theorem v_42_157 : am_iv 42 157 = some (1, 119, 2) := by decide +kernel
theorem f_42_41 : am_fl 42 41 = some (0, 3) := by decide +kernel
theorem v_42_105 : am_iv 42 105 = some (1, 86, 1) := by decide +kernel
theorem v_42_161 : am_iv 42 161 = some (1, 109, 1) := by decide +kernel
theorem f_42_61 : am_fl 42 61 = some (0, 6) := by decide +kernel
theorem v_42_164 : am_iv 42 164 = some (1, 93, 1) := by decide +kernel
theorem t_42 : am_t 42 = some (FieldType.int) := by decide +kernel
theorem h_42 : am_h 42 = [] := by decide +kernel
theorem m_42 : am_m 42 = 2 := by decide +kernel
theorem x_43_0   : am_E d 43 Q (0, L, st, g) ↔ am_K d 43 Q (am_ldA 1 L st g 0) := am_E_aload_n (by decide +kernel : am_dc 43 0 = some (.aload_n 0)) rfl rfl
theorem x_43_1   : am_E d 43 Q (1, L, st, g) ↔ am_K d 43 Q (am_ldI 2 L st g 1) := am_E_iload_n (by decide +kernel : am_dc 43 1 = some (.iload_n 1)) rfl rfl
theorem x_43_2  : am_E d 43 Q (2, L, st, g) ↔ am_K d 43 Q (am_S 43 (.invokevirtual 191) 2 L st g) := am_E_x (by decide +kernel : am_dc 43 2 = some (.invokevirtual 191))
theorem x_43_5  : am_E d 43 Q (5, L, st, g) ↔ am_K d 43 Q (am_S 43 (.invokestatic 203) 5 L st g) := am_E_x (by decide +kernel : am_dc 43 5 = some (.invokestatic 203))
theorem x_43_8   : am_E d 43 Q (8, L, st, g) ↔ am_K d 43 Q (am_stA 9 L st g 3) := am_E_astore_n (by decide +kernel : am_dc 43 8 = some (.astore_n 3)) rfl rfl
theorem x_43_9   : am_E d 43 Q (9, L, st, g) ↔ am_K d 43 Q (am_ldI 10 L st g 2) := am_E_iload_n (by decide +kernel : am_dc 43 9 = some (.iload_n 2)) rfl rfl
theorem x_43_10   : am_E d 43 Q (10, L, .int x :: st, g) ↔ am_E d 43 Q (am_cmp .lt x 0 29 13, L, st, g) := am_E_if (by decide +kernel : am_dc 43 10 = some (.ifCond .lt (19))) rfl rfl
theorem x_43_13   : am_E d 43 Q (13, L, st, g) ↔ am_K d 43 Q (am_ldI 14 L st g 2) := am_E_iload_n (by decide +kernel : am_dc 43 13 = some (.iload_n 2)) rfl rfl
theorem x_43_14   : am_E d 43 Q (14, L, st, g) ↔ am_K d 43 Q (am_ldA 15 L st g 3) := am_E_aload_n (by decide +kernel : am_dc 43 14 = some (.aload_n 3)) rfl rfl
theorem x_43_15  : am_E d 43 Q (15, L, st, g) ↔ am_K d 43 Q (am_S 43 (.invokevirtual 207) 15 L st g) := am_E_x (by decide +kernel : am_dc 43 15 = some (.invokevirtual 207))
theorem x_43_18   : am_E d 43 Q (18, L, .int y :: .int x :: st, g) ↔ am_E d 43 Q (am_cmp .ge x y 29 21, L, st, g) := am_E_ic (by decide +kernel : am_dc 43 18 = some (.if_icmp .ge (11))) rfl rfl
theorem x_43_21   : am_E d 43 Q (21, L, st, g) ↔ am_K d 43 Q (am_ldA 22 L st g 3) := am_E_aload_n (by decide +kernel : am_dc 43 21 = some (.aload_n 3)) rfl rfl
theorem x_43_22   : am_E d 43 Q (22, L, st, g) ↔ am_K d 43 Q (am_ldI 23 L st g 2) := am_E_iload_n (by decide +kernel : am_dc 43 22 = some (.iload_n 2)) rfl rfl
theorem x_43_23  : am_E d 43 Q (23, L, st, g) ↔ am_K d 43 Q (am_S 43 (.invokevirtual 212) 23 L st g) := am_E_x (by decide +kernel : am_dc 43 23 = some (.invokevirtual 212))
theorem x_43_26   : am_E d 43 Q (26, L, st, g) ↔ am_E d 43 Q (30, L, st, g) := am_E_gt (by decide +kernel : am_dc 43 26 = some (.goto (4))) rfl rfl
theorem x_43_29   : am_E d 43 Q (29, L, st, g) ↔ am_E d 43 Q (30, L, .int (-1) :: st, g) := am_E_iconst (by decide +kernel : am_dc 43 29 = some (.iconst (-1))) (by decide) rfl
theorem x_43_30  : am_E d 43 Q (30, L, [.int x], g) ↔ if am_ok (FieldType.int) (.int x) = true then Q (.inl (some (.int x))) g else False := am_E_ireturn (by decide +kernel : am_dc 43 30 = some (.ireturn)) (by decide +kernel)
theorem v_43_191 : am_iv 43 191 = some (1, 28, 2) := by decide +kernel
theorem v_43_203 : am_iv 43 203 = some (0, 60, 1) := by decide +kernel
theorem v_43_207 : am_iv 43 207 = some (1, 286, 1) := by decide +kernel
theorem v_43_212 : am_iv 43 212 = some (1, 285, 2) := by decide +kernel
theorem t_43 : am_t 43 = some (FieldType.int) := by decide +kernel
theorem h_43 : am_h 43 = [] := by decide +kernel
theorem m_43 : am_m 43 = 4 := by decide +kernel
theorem x_44_0   : am_E d 44 Q (0, L, st, g) ↔ am_K d 44 Q (am_ldA 1 L st g 0) := am_E_aload_n (by decide +kernel : am_dc 44 0 = some (.aload_n 0)) rfl rfl
theorem x_44_1   : am_E d 44 Q (1, L, st, g) ↔ am_K d 44 Q (am_ldI 2 L st g 1) := am_E_iload_n (by decide +kernel : am_dc 44 1 = some (.iload_n 1)) rfl rfl
theorem x_44_2  : am_E d 44 Q (2, L, st, g) ↔ am_K d 44 Q (am_S 44 (.invokevirtual 168) 2 L st g) := am_E_x (by decide +kernel : am_dc 44 2 = some (.invokevirtual 168))
theorem x_44_5   : am_E d 44 Q (5, L, .int x :: st, g) ↔ am_E d 44 Q (am_cmp .ne x 0 16 8, L, st, g) := am_E_if (by decide +kernel : am_dc 44 5 = some (.ifCond .ne (11))) rfl rfl
theorem x_44_8  : am_E d 44 Q (8, L, st, g) ↔ am_K d 44 Q (am_S 44 (.new 86) 8 L st g) := am_E_x (by decide +kernel : am_dc 44 8 = some (.new 86))
theorem x_44_11   : am_E d 44 Q (11, L, v :: st, g) ↔ if v.category = 1 then am_E d 44 Q (12, L, v :: v :: st, g) else False := am_E_dup (by decide +kernel : am_dc 44 11 = some (.dup)) rfl
theorem x_44_12  : am_E d 44 Q (12, L, st, g) ↔ am_K d 44 Q (am_S 44 (.invokespecial 88) 12 L st g) := am_E_x (by decide +kernel : am_dc 44 12 = some (.invokespecial 88))
theorem x_44_16   : am_E d 44 Q (16, L, st, g) ↔ am_K d 44 Q (am_ldI 17 L st g 2) := am_E_iload_n (by decide +kernel : am_dc 44 16 = some (.iload_n 2)) rfl rfl
theorem x_44_17   : am_E d 44 Q (17, L, .int x :: st, g) ↔ am_E d 44 Q (18, L, .long x.toInt64 :: st, g) := am_E_i2l (by decide +kernel : am_dc 44 17 = some (.i2l)) rfl
theorem x_44_18  : am_E d 44 Q (18, L, st, g) ↔ am_K d 44 Q (am_S 44 (.invokestatic 171) 18 L st g) := am_E_x (by decide +kernel : am_dc 44 18 = some (.invokestatic 171))
theorem x_44_21   : am_E d 44 Q (21, L, .int x :: st, g) ↔ am_E d 44 Q (am_cmp .ne x 0 32 24, L, st, g) := am_E_if (by decide +kernel : am_dc 44 21 = some (.ifCond .ne (11))) rfl rfl
theorem x_44_24  : am_E d 44 Q (24, L, st, g) ↔ am_K d 44 Q (am_S 44 (.new 89) 24 L st g) := am_E_x (by decide +kernel : am_dc 44 24 = some (.new 89))
theorem x_44_27   : am_E d 44 Q (27, L, v :: st, g) ↔ if v.category = 1 then am_E d 44 Q (28, L, v :: v :: st, g) else False := am_E_dup (by decide +kernel : am_dc 44 27 = some (.dup)) rfl
theorem x_44_28  : am_E d 44 Q (28, L, st, g) ↔ am_K d 44 Q (am_S 44 (.invokespecial 91) 28 L st g) := am_E_x (by decide +kernel : am_dc 44 28 = some (.invokespecial 91))
theorem x_44_32   : am_E d 44 Q (32, L, st, g) ↔ am_K d 44 Q (am_ldA 33 L st g 0) := am_E_aload_n (by decide +kernel : am_dc 44 32 = some (.aload_n 0)) rfl rfl
theorem x_44_33   : am_E d 44 Q (33, L, .ref a :: st, g) ↔ am_kv d 44 Q 36 L st g (am_gf g a 0 5) := am_E_getfield (by decide +kernel : am_dc 44 33 = some (.getfield 57)) (by decide +kernel) rfl
theorem x_44_36   : am_E d 44 Q (36, L, st, g) ↔ am_K d 44 Q (am_ldI 37 L st g 1) := am_E_iload_n (by decide +kernel : am_dc 44 36 = some (.iload_n 1)) rfl rfl
theorem x_44_37   : am_E d 44 Q (37, L, st, g) ↔ am_K d 44 Q (am_ldA 38 L st g 0) := am_E_aload_n (by decide +kernel : am_dc 44 37 = some (.aload_n 0)) rfl rfl
theorem x_44_38   : am_E d 44 Q (38, L, .ref a :: st, g) ↔ am_kv d 44 Q 41 L st g (am_gf g a 0 9) := am_E_getfield (by decide +kernel : am_dc 44 38 = some (.getfield 78)) (by decide +kernel) rfl
theorem x_44_41   : am_E d 44 Q (41, L, st, g) ↔ am_K d 44 Q (am_ldA 42 L st g 0) := am_E_aload_n (by decide +kernel : am_dc 44 41 = some (.aload_n 0)) rfl rfl
theorem x_44_42   : am_E d 44 Q (42, L, .ref a :: st, g) ↔ am_kv d 44 Q 45 L st g (am_gf g a 0 4) := am_E_getfield (by decide +kernel : am_dc 44 42 = some (.getfield 50)) (by decide +kernel) rfl
theorem x_44_45   : am_E d 44 Q (45, L, .ref a :: st, g) ↔ am_kv d 44 Q 48 L st g (am_gf g a 1 8) := am_E_getfield (by decide +kernel : am_dc 44 45 = some (.getfield 219)) (by decide +kernel) rfl
theorem x_44_48  : am_E d 44 Q (48, L, st, g) ↔ am_K d 44 Q (am_S 44 (.invokevirtual 240) 48 L st g) := am_E_x (by decide +kernel : am_dc 44 48 = some (.invokevirtual 240))
theorem x_44_51   : am_E d 44 Q (51, L, .int x :: st, g) ↔ am_E d 44 Q (am_cmp .ne x 0 62 54, L, st, g) := am_E_if (by decide +kernel : am_dc 44 51 = some (.ifCond .ne (11))) rfl rfl
theorem x_44_54  : am_E d 44 Q (54, L, st, g) ↔ am_K d 44 Q (am_S 44 (.new 102) 54 L st g) := am_E_x (by decide +kernel : am_dc 44 54 = some (.new 102))
theorem x_44_57   : am_E d 44 Q (57, L, v :: st, g) ↔ if v.category = 1 then am_E d 44 Q (58, L, v :: v :: st, g) else False := am_E_dup (by decide +kernel : am_dc 44 57 = some (.dup)) rfl
theorem x_44_58  : am_E d 44 Q (58, L, st, g) ↔ am_K d 44 Q (am_S 44 (.invokespecial 104) 58 L st g) := am_E_x (by decide +kernel : am_dc 44 58 = some (.invokespecial 104))
theorem x_44_62   : am_E d 44 Q (62, L, st, g) ↔ am_K d 44 Q (am_ldA 63 L st g 0) := am_E_aload_n (by decide +kernel : am_dc 44 62 = some (.aload_n 0)) rfl rfl
theorem x_44_63   : am_E d 44 Q (63, L, .ref a :: st, g) ↔ am_kv d 44 Q 66 L st g (am_gf g a 0 3) := am_E_getfield (by decide +kernel : am_dc 44 63 = some (.getfield 41)) (by decide +kernel) rfl
theorem x_44_66   : am_E d 44 Q (66, L, st, g) ↔ am_K d 44 Q (am_ldI 67 L st g 1) := am_E_iload_n (by decide +kernel : am_dc 44 66 = some (.iload_n 1)) rfl rfl
theorem x_44_67  : am_E d 44 Q (67, L, st, g) ↔ am_K d 44 Q (am_S 44 (.invokevirtual 183) 67 L st g) := am_E_x (by decide +kernel : am_dc 44 67 = some (.invokevirtual 183))
theorem x_44_70   : am_E d 44 Q (70, L, st, g) ↔ am_K d 44 Q (am_ldA 71 L st g 0) := am_E_aload_n (by decide +kernel : am_dc 44 70 = some (.aload_n 0)) rfl rfl
theorem x_44_71   : am_E d 44 Q (71, L, .ref a :: st, g) ↔ am_kv d 44 Q 74 L st g (am_gf g a 0 5) := am_E_getfield (by decide +kernel : am_dc 44 71 = some (.getfield 57)) (by decide +kernel) rfl
theorem x_44_74   : am_E d 44 Q (74, L, st, g) ↔ am_K d 44 Q (am_ldI 75 L st g 1) := am_E_iload_n (by decide +kernel : am_dc 44 74 = some (.iload_n 1)) rfl rfl
theorem x_44_75   : am_E d 44 Q (75, L, st, g) ↔ am_K d 44 Q (am_ldI 76 L st g 2) := am_E_iload_n (by decide +kernel : am_dc 44 75 = some (.iload_n 2)) rfl rfl
theorem x_44_76  : am_E d 44 Q (76, L, st, g) ↔ am_K d 44 Q (am_S 44 (.invokevirtual 244) 76 L st g) := am_E_x (by decide +kernel : am_dc 44 76 = some (.invokevirtual 244))
theorem x_44_79   : am_E d 44 Q (79, L, st, g) ↔ am_K d 44 Q (am_ldA 80 L st g 0) := am_E_aload_n (by decide +kernel : am_dc 44 79 = some (.aload_n 0)) rfl rfl
theorem x_44_80   : am_E d 44 Q (80, L, .ref a :: st, g) ↔ am_kv d 44 Q 83 L st g (am_gf g a 0 4) := am_E_getfield (by decide +kernel : am_dc 44 80 = some (.getfield 50)) (by decide +kernel) rfl
theorem x_44_83   : am_E d 44 Q (83, L, st, g) ↔ am_K d 44 Q (am_ldA 84 L st g 0) := am_E_aload_n (by decide +kernel : am_dc 44 83 = some (.aload_n 0)) rfl rfl
theorem x_44_84   : am_E d 44 Q (84, L, .ref a :: st, g) ↔ am_kv d 44 Q 87 L st g (am_gf g a 0 5) := am_E_getfield (by decide +kernel : am_dc 44 84 = some (.getfield 57)) (by decide +kernel) rfl
theorem x_44_87   : am_E d 44 Q (87, L, .ref a :: st, g) ↔ am_kv d 44 Q 90 L st g (am_gf g a 9 5) := am_E_getfield (by decide +kernel : am_dc 44 87 = some (.getfield 247)) (by decide +kernel) rfl
theorem x_44_90   (hok : (am_ok (am_ft 1 9).1 v && (!(am_ft 1 9).2 || (am_ini 44 && am_co 1 == am_o 44)) && decide (1 < 13)) = true) : am_E d 44 Q (90, L, v :: .ref a :: st, g) ↔ am_kg d 44 Q 93 L st (am_pf g a 1 9 v) := am_E_putfield (by decide +kernel : am_dc 44 90 = some (.putfield 216)) (by decide +kernel) rfl hok
theorem x_44_93   : am_E d 44 Q (93, L, st, g) ↔ am_K d 44 Q (am_ldA 94 L st g 0) := am_E_aload_n (by decide +kernel : am_dc 44 93 = some (.aload_n 0)) rfl rfl
theorem x_44_94   : am_E d 44 Q (94, L, .ref a :: st, g) ↔ am_kv d 44 Q 97 L st g (am_gf g a 0 5) := am_E_getfield (by decide +kernel : am_dc 44 94 = some (.getfield 57)) (by decide +kernel) rfl
theorem x_44_97   : am_E d 44 Q (97, L, .ref a :: st, g) ↔ am_kv d 44 Q 100 L st g (am_gf g a 9 5) := am_E_getfield (by decide +kernel : am_dc 44 97 = some (.getfield 247)) (by decide +kernel) rfl
theorem x_44_100  : am_E d 44 Q (100, L, [.int x], g) ↔ if am_ok (FieldType.int) (.int x) = true then Q (.inl (some (.int x))) g else False := am_E_ireturn (by decide +kernel : am_dc 44 100 = some (.ireturn)) (by decide +kernel)
theorem v_44_168 : am_iv 44 168 = some (1, 26, 2) := by decide +kernel
theorem w_44_86 : am_nw 44 86 = none := by decide +kernel
theorem e_44_86 : am_xw 44 86 = some (0, 88) := by decide +kernel
theorem v_44_171 : am_iv 44 171 = some (0, 54, 1) := by decide +kernel
theorem w_44_89 : am_nw 44 89 = none := by decide +kernel
theorem e_44_89 : am_xw 44 89 = some (1, 91) := by decide +kernel
theorem f_44_57 : am_fl 44 57 = some (0, 5) := by decide +kernel
theorem f_44_78 : am_fl 44 78 = some (0, 9) := by decide +kernel
theorem f_44_50 : am_fl 44 50 = some (0, 4) := by decide +kernel
theorem f_44_219 : am_fl 44 219 = some (1, 8) := by decide +kernel
theorem v_44_240 : am_iv 44 240 = some (1, 134, 4) := by decide +kernel
theorem w_44_102 : am_nw 44 102 = none := by decide +kernel
theorem e_44_102 : am_xw 44 102 = some (2, 104) := by decide +kernel
theorem f_44_41 : am_fl 44 41 = some (0, 3) := by decide +kernel
theorem v_44_183 : am_iv 44 183 = some (1, 87, 2) := by decide +kernel
theorem v_44_244 : am_iv 44 244 = some (1, 140, 3) := by decide +kernel
theorem f_44_247 : am_fl 44 247 = some (9, 5) := by decide +kernel
theorem f_44_216 : am_fl 44 216 = some (1, 9) := by decide +kernel
theorem t_44 : am_t 44 = some (FieldType.int) := by decide +kernel
theorem h_44 : am_h 44 = [] := by decide +kernel
theorem m_44 : am_m 44 = 3 := by decide +kernel
theorem x_45_0   : am_E d 45 Q (0, L, st, g) ↔ am_K d 45 Q (am_ldA 1 L st g 0) := am_E_aload_n (by decide +kernel : am_dc 45 0 = some (.aload_n 0)) rfl rfl
theorem x_45_1   : am_E d 45 Q (1, L, st, g) ↔ am_K d 45 Q (am_ldI 2 L st g 1) := am_E_iload_n (by decide +kernel : am_dc 45 1 = some (.iload_n 1)) rfl rfl
theorem x_45_2  : am_E d 45 Q (2, L, st, g) ↔ am_K d 45 Q (am_S 45 (.invokevirtual 191) 2 L st g) := am_E_x (by decide +kernel : am_dc 45 2 = some (.invokevirtual 191))
theorem x_45_5  : am_E d 45 Q (5, L, st, g) ↔ am_K d 45 Q (am_S 45 (.invokestatic 195) 5 L st g) := am_E_x (by decide +kernel : am_dc 45 5 = some (.invokestatic 195))
theorem x_45_8  : am_E d 45 Q (8, L, [.int x], g) ↔ if am_ok (FieldType.int) (.int x) = true then Q (.inl (some (.int x))) g else False := am_E_ireturn (by decide +kernel : am_dc 45 8 = some (.ireturn)) (by decide +kernel)
theorem v_45_191 : am_iv 45 191 = some (1, 28, 2) := by decide +kernel
theorem v_45_195 : am_iv 45 195 = some (0, 55, 1) := by decide +kernel
theorem t_45 : am_t 45 = some (FieldType.int) := by decide +kernel
theorem h_45 : am_h 45 = [] := by decide +kernel
theorem m_45 : am_m 45 = 2 := by decide +kernel
theorem x_46_0   : am_E d 46 Q (0, L, st, g) ↔ am_K d 46 Q (am_ldA 1 L st g 0) := am_E_aload_n (by decide +kernel : am_dc 46 0 = some (.aload_n 0)) rfl rfl
theorem x_46_1   : am_E d 46 Q (1, L, .ref a :: st, g) ↔ am_kv d 46 Q 4 L st g (am_gf g a 0 4) := am_E_getfield (by decide +kernel : am_dc 46 1 = some (.getfield 50)) (by decide +kernel) rfl
theorem x_46_4   : am_E d 46 Q (4, L, .ref a :: st, g) ↔ am_kv d 46 Q 7 L st g (am_gf g a 1 9) := am_E_getfield (by decide +kernel : am_dc 46 4 = some (.getfield 216)) (by decide +kernel) rfl
theorem x_46_7  : am_E d 46 Q (7, L, [.int x], g) ↔ if am_ok (FieldType.int) (.int x) = true then Q (.inl (some (.int x))) g else False := am_E_ireturn (by decide +kernel : am_dc 46 7 = some (.ireturn)) (by decide +kernel)
theorem f_46_50 : am_fl 46 50 = some (0, 4) := by decide +kernel
theorem f_46_216 : am_fl 46 216 = some (1, 9) := by decide +kernel
theorem t_46 : am_t 46 = some (FieldType.int) := by decide +kernel
theorem h_46 : am_h 46 = [] := by decide +kernel
theorem m_46 : am_m 46 = 1 := by decide +kernel
theorem x_47_0   : am_E d 47 Q (0, L, st, g) ↔ am_K d 47 Q (am_ldA 1 L st g 0) := am_E_aload_n (by decide +kernel : am_dc 47 0 = some (.aload_n 0)) rfl rfl
theorem x_47_1   : am_E d 47 Q (1, L, .ref a :: st, g) ↔ am_kv d 47 Q 4 L st g (am_gf g a 0 6) := am_E_getfield (by decide +kernel : am_dc 47 1 = some (.getfield 61)) (by decide +kernel) rfl
theorem x_47_4   : am_E d 47 Q (4, L, st, g) ↔ am_K d 47 Q (am_ldI 5 L st g 1) := am_E_iload_n (by decide +kernel : am_dc 47 4 = some (.iload_n 1)) rfl rfl
theorem x_47_5  : am_E d 47 Q (5, L, st, g) ↔ am_K d 47 Q (am_S 47 (.invokevirtual 148) 5 L st g) := am_E_x (by decide +kernel : am_dc 47 5 = some (.invokevirtual 148))
theorem x_47_8  : am_E d 47 Q (8, L, [.int x], g) ↔ if am_ok (FieldType.boolean) (.int x) = true then Q (.inl (some (.int x))) g else False := am_E_ireturn (by decide +kernel : am_dc 47 8 = some (.ireturn)) (by decide +kernel)
theorem f_47_61 : am_fl 47 61 = some (0, 6) := by decide +kernel
theorem v_47_148 : am_iv 47 148 = some (1, 91, 2) := by decide +kernel
theorem t_47 : am_t 47 = some (FieldType.boolean) := by decide +kernel
theorem h_47 : am_h 47 = [] := by decide +kernel
theorem m_47 : am_m 47 = 2 := by decide +kernel
theorem x_48_0   : am_E d 48 Q (0, L, st, g) ↔ am_K d 48 Q (am_ldA 1 L st g 0) := am_E_aload_n (by decide +kernel : am_dc 48 0 = some (.aload_n 0)) rfl rfl
theorem x_48_1   : am_E d 48 Q (1, L, .ref a :: st, g) ↔ am_kv d 48 Q 4 L st g (am_gf g a 0 3) := am_E_getfield (by decide +kernel : am_dc 48 1 = some (.getfield 41)) (by decide +kernel) rfl
theorem x_48_4   : am_E d 48 Q (4, L, .ref a :: st, g) ↔ am_kv d 48 Q 7 L st g (am_gf g a 3 4) := am_E_getfield (by decide +kernel : am_dc 48 4 = some (.getfield 248)) (by decide +kernel) rfl
theorem x_48_7   : am_E d 48 Q (7, L, .int x :: st, g) ↔ am_E d 48 Q (am_cmp .ne x 0 18 10, L, st, g) := am_E_if (by decide +kernel : am_dc 48 7 = some (.ifCond .ne (11))) rfl rfl
theorem x_48_10  : am_E d 48 Q (10, L, st, g) ↔ am_K d 48 Q (am_S 48 (.new 102) 10 L st g) := am_E_x (by decide +kernel : am_dc 48 10 = some (.new 102))
theorem x_48_13   : am_E d 48 Q (13, L, v :: st, g) ↔ if v.category = 1 then am_E d 48 Q (14, L, v :: v :: st, g) else False := am_E_dup (by decide +kernel : am_dc 48 13 = some (.dup)) rfl
theorem x_48_14  : am_E d 48 Q (14, L, st, g) ↔ am_K d 48 Q (am_S 48 (.invokespecial 104) 14 L st g) := am_E_x (by decide +kernel : am_dc 48 14 = some (.invokespecial 104))
theorem x_48_18   : am_E d 48 Q (18, L, st, g) ↔ am_K d 48 Q (am_ldA 19 L st g 0) := am_E_aload_n (by decide +kernel : am_dc 48 18 = some (.aload_n 0)) rfl rfl
theorem x_48_19   : am_E d 48 Q (19, L, .ref a :: st, g) ↔ am_kv d 48 Q 22 L st g (am_gf g a 0 3) := am_E_getfield (by decide +kernel : am_dc 48 19 = some (.getfield 41)) (by decide +kernel) rfl
theorem x_48_22  : am_E d 48 Q (22, L, st, g) ↔ am_K d 48 Q (am_S 48 (.invokevirtual 251) 22 L st g) := am_E_x (by decide +kernel : am_dc 48 22 = some (.invokevirtual 251))
theorem x_48_25   : am_E d 48 Q (25, L, st, g) ↔ am_K d 48 Q (am_ldA 26 L st g 0) := am_E_aload_n (by decide +kernel : am_dc 48 25 = some (.aload_n 0)) rfl rfl
theorem x_48_26   : am_E d 48 Q (26, L, .ref a :: st, g) ↔ am_kv d 48 Q 29 L st g (am_gf g a 0 3) := am_E_getfield (by decide +kernel : am_dc 48 26 = some (.getfield 41)) (by decide +kernel) rfl
theorem x_48_29   : am_E d 48 Q (29, L, .ref a :: st, g) ↔ am_kv d 48 Q 32 L st g (am_gf g a 3 4) := am_E_getfield (by decide +kernel : am_dc 48 29 = some (.getfield 248)) (by decide +kernel) rfl
theorem x_48_32  : am_E d 48 Q (32, L, [.int x], g) ↔ if am_ok (FieldType.int) (.int x) = true then Q (.inl (some (.int x))) g else False := am_E_ireturn (by decide +kernel : am_dc 48 32 = some (.ireturn)) (by decide +kernel)
theorem f_48_41 : am_fl 48 41 = some (0, 3) := by decide +kernel
theorem f_48_248 : am_fl 48 248 = some (3, 4) := by decide +kernel
theorem w_48_102 : am_nw 48 102 = none := by decide +kernel
theorem e_48_102 : am_xw 48 102 = some (2, 104) := by decide +kernel
theorem v_48_251 : am_iv 48 251 = some (1, 88, 1) := by decide +kernel
theorem t_48 : am_t 48 = some (FieldType.int) := by decide +kernel
theorem h_48 : am_h 48 = [] := by decide +kernel
theorem m_48 : am_m 48 = 1 := by decide +kernel
theorem x_49_0   : am_E d 49 Q (0, L, st, g) ↔ am_K d 49 Q (am_ldA 1 L st g 0) := am_E_aload_n (by decide +kernel : am_dc 49 0 = some (.aload_n 0)) rfl rfl
theorem x_49_1   : am_E d 49 Q (1, L, st, g) ↔ am_K d 49 Q (am_ldI 2 L st g 1) := am_E_iload_n (by decide +kernel : am_dc 49 1 = some (.iload_n 1)) rfl rfl
theorem x_49_2  : am_E d 49 Q (2, L, st, g) ↔ am_K d 49 Q (am_S 49 (.invokevirtual 191) 2 L st g) := am_E_x (by decide +kernel : am_dc 49 2 = some (.invokevirtual 191))
theorem x_49_5  : am_E d 49 Q (5, L, st, g) ↔ am_K d 49 Q (am_S 49 (.invokestatic 199) 5 L st g) := am_E_x (by decide +kernel : am_dc 49 5 = some (.invokestatic 199))
theorem x_49_8   : am_E d 49 Q (8, L, .long u :: st, g) ↔ am_E d 49 Q (9, L, .int u.toInt32 :: st, g) := am_E_l2i (by decide +kernel : am_dc 49 8 = some (.l2i)) rfl
theorem x_49_9  : am_E d 49 Q (9, L, [.int x], g) ↔ if am_ok (FieldType.int) (.int x) = true then Q (.inl (some (.int x))) g else False := am_E_ireturn (by decide +kernel : am_dc 49 9 = some (.ireturn)) (by decide +kernel)
theorem v_49_191 : am_iv 49 191 = some (1, 28, 2) := by decide +kernel
theorem v_49_199 : am_iv 49 199 = some (0, 57, 1) := by decide +kernel
theorem t_49 : am_t 49 = some (FieldType.int) := by decide +kernel
theorem h_49 : am_h 49 = [] := by decide +kernel
theorem m_49 : am_m 49 = 2 := by decide +kernel
theorem x_50_0   : am_E d 50 Q (0, L, st, g) ↔ am_K d 50 Q (am_ldA 1 L st g 0) := am_E_aload_n (by decide +kernel : am_dc 50 0 = some (.aload_n 0)) rfl rfl
theorem x_50_1   : am_E d 50 Q (1, L, .ref a :: st, g) ↔ am_kv d 50 Q 4 L st g (am_gf g a 0 0) := am_E_getfield (by decide +kernel : am_dc 50 1 = some (.getfield 22)) (by decide +kernel) rfl
theorem x_50_4   : am_E d 50 Q (4, L, st, g) ↔ am_K d 50 Q (am_ldA 5 L st g 0) := am_E_aload_n (by decide +kernel : am_dc 50 4 = some (.aload_n 0)) rfl rfl
theorem x_50_5   : am_E d 50 Q (5, L, .ref a :: st, g) ↔ am_kv d 50 Q 8 L st g (am_gf g a 0 9) := am_E_getfield (by decide +kernel : am_dc 50 5 = some (.getfield 78)) (by decide +kernel) rfl
theorem x_50_8  : am_E d 50 Q (8, L, st, g) ↔ am_K d 50 Q (am_S 50 (.invokevirtual 222) 8 L st g) := am_E_x (by decide +kernel : am_dc 50 8 = some (.invokevirtual 222))
theorem x_50_11   : am_E d 50 Q (11, L, .int x :: st, g) ↔ am_E d 50 Q (am_cmp .ne x 0 22 14, L, st, g) := am_E_if (by decide +kernel : am_dc 50 11 = some (.ifCond .ne (11))) rfl rfl
theorem x_50_14  : am_E d 50 Q (14, L, st, g) ↔ am_K d 50 Q (am_S 50 (.new 86) 14 L st g) := am_E_x (by decide +kernel : am_dc 50 14 = some (.new 86))
theorem x_50_17   : am_E d 50 Q (17, L, v :: st, g) ↔ if v.category = 1 then am_E d 50 Q (18, L, v :: v :: st, g) else False := am_E_dup (by decide +kernel : am_dc 50 17 = some (.dup)) rfl
theorem x_50_18  : am_E d 50 Q (18, L, st, g) ↔ am_K d 50 Q (am_S 50 (.invokespecial 88) 18 L st g) := am_E_x (by decide +kernel : am_dc 50 18 = some (.invokespecial 88))
theorem x_50_22   : am_E d 50 Q (22, L, st, g) ↔ am_K d 50 Q (am_ldA 23 L st g 0) := am_E_aload_n (by decide +kernel : am_dc 50 22 = some (.aload_n 0)) rfl rfl
theorem x_50_23   : am_E d 50 Q (23, L, .ref a :: st, g) ↔ am_kv d 50 Q 26 L st g (am_gf g a 0 1) := am_E_getfield (by decide +kernel : am_dc 50 23 = some (.getfield 28)) (by decide +kernel) rfl
theorem x_50_26   : am_E d 50 Q (26, L, st, g) ↔ am_K d 50 Q (am_ldA 27 L st g 0) := am_E_aload_n (by decide +kernel : am_dc 50 26 = some (.aload_n 0)) rfl rfl
theorem x_50_27   : am_E d 50 Q (27, L, .ref a :: st, g) ↔ am_kv d 50 Q 30 L st g (am_gf g a 0 0) := am_E_getfield (by decide +kernel : am_dc 50 27 = some (.getfield 22)) (by decide +kernel) rfl
theorem x_50_30   : am_E d 50 Q (30, L, st, g) ↔ am_K d 50 Q (am_ldA 31 L st g 0) := am_E_aload_n (by decide +kernel : am_dc 50 30 = some (.aload_n 0)) rfl rfl
theorem x_50_31  : am_E d 50 Q (31, L, st, g) ↔ am_K d 50 Q (am_S 50 (.invokevirtual 177) 31 L st g) := am_E_x (by decide +kernel : am_dc 50 31 = some (.invokevirtual 177))
theorem x_50_34  : am_E d 50 Q (34, L, st, g) ↔ am_K d 50 Q (am_S 50 (.invokevirtual 226) 34 L st g) := am_E_x (by decide +kernel : am_dc 50 34 = some (.invokevirtual 226))
theorem x_50_37  : am_E d 50 Q (37, L, [.int x], g) ↔ if am_ok (FieldType.int) (.int x) = true then Q (.inl (some (.int x))) g else False := am_E_ireturn (by decide +kernel : am_dc 50 37 = some (.ireturn)) (by decide +kernel)
theorem f_50_22 : am_fl 50 22 = some (0, 0) := by decide +kernel
theorem f_50_78 : am_fl 50 78 = some (0, 9) := by decide +kernel
theorem v_50_222 : am_iv 50 222 = some (1, 127, 2) := by decide +kernel
theorem w_50_86 : am_nw 50 86 = none := by decide +kernel
theorem e_50_86 : am_xw 50 86 = some (0, 88) := by decide +kernel
theorem f_50_28 : am_fl 50 28 = some (0, 1) := by decide +kernel
theorem v_50_177 : am_iv 50 177 = some (1, 29, 1) := by decide +kernel
theorem v_50_226 : am_iv 50 226 = some (1, 120, 3) := by decide +kernel
theorem t_50 : am_t 50 = some (FieldType.int) := by decide +kernel
theorem h_50 : am_h 50 = [] := by decide +kernel
theorem m_50 : am_m 50 = 1 := by decide +kernel
theorem x_51_0   : am_E d 51 Q (0, L, st, g) ↔ am_K d 51 Q (am_ldL 1 L st g 1) := am_E_lload_n (by decide +kernel : am_dc 51 0 = some (.lload_n 1)) rfl rfl
theorem x_51_1  : am_E d 51 Q (1, L, st, g) ↔ am_K d 51 Q (am_S 51 (.invokestatic 17) 1 L st g) := am_E_x (by decide +kernel : am_dc 51 1 = some (.invokestatic 17))
theorem x_51_4   : am_E d 51 Q (4, L, st, g) ↔ am_K d 51 Q (am_ldL 5 L st g 3) := am_E_lload_n (by decide +kernel : am_dc 51 4 = some (.lload_n 3)) rfl rfl
theorem x_51_5  : am_E d 51 Q (5, L, st, g) ↔ am_K d 51 Q (am_S 51 (.invokestatic 17) 5 L st g) := am_E_x (by decide +kernel : am_dc 51 5 = some (.invokestatic 17))
theorem x_51_8  : am_E d 51 Q (8, L, st, g) ↔ am_K d 51 Q (am_S 51 (.invokestatic 35) 8 L st g) := am_E_x (by decide +kernel : am_dc 51 8 = some (.invokestatic 35))
theorem x_51_11   : am_E d 51 Q (11, L, st, g) ↔ am_K d 51 Q (am_stI 13 L st g 5) := am_E_istore (by decide +kernel : am_dc 51 11 = some (.istore 5)) rfl
theorem x_51_13   : am_E d 51 Q (13, L, st, g) ↔ am_K d 51 Q (am_ldI 15 L st g 5) := am_E_iload (by decide +kernel : am_dc 51 13 = some (.iload 5)) rfl
theorem x_51_15   : am_E d 51 Q (15, L, st, g) ↔ am_E d 51 Q (16, L, .int (1) :: st, g) := am_E_iconst (by decide +kernel : am_dc 51 15 = some (.iconst (1))) (by decide) rfl
theorem x_51_16   : am_E d 51 Q (16, L, .int y :: .int x :: st, g) ↔ am_E d 51 Q (am_cmp .le x y 25 19, L, st, g) := am_E_ic (by decide +kernel : am_dc 51 16 = some (.if_icmp .le (9))) rfl rfl
theorem x_51_19   : am_E d 51 Q (19, L, st, g) ↔ am_K d 51 Q (am_ldI 21 L st g 5) := am_E_iload (by decide +kernel : am_dc 51 19 = some (.iload 5)) rfl
theorem x_51_21  : am_E d 51 Q (21, L, st, g) ↔ am_K d 51 Q (am_S 51 (.invokestatic 25) 21 L st g) := am_E_x (by decide +kernel : am_dc 51 21 = some (.invokestatic 25))
theorem x_51_24  : am_E d 51 Q (24, L, [.long u], g) ↔ Q (.inl (some (.long u))) g := am_E_lreturn (by decide +kernel : am_dc 51 24 = some (.lreturn)) (by decide +kernel)
theorem x_51_25   : am_E d 51 Q (25, L, st, g) ↔ am_K d 51 Q (am_ldL 26 L st g 1) := am_E_lload_n (by decide +kernel : am_dc 51 25 = some (.lload_n 1)) rfl rfl
theorem x_51_26  : am_E d 51 Q (26, L, st, g) ↔ am_K d 51 Q (am_S 51 (.invokestatic 38) 26 L st g) := am_E_x (by decide +kernel : am_dc 51 26 = some (.invokestatic 38))
theorem x_51_29   : am_E d 51 Q (29, L, st, g) ↔ am_K d 51 Q (am_stL 31 L st g 6) := am_E_lstore (by decide +kernel : am_dc 51 29 = some (.lstore 6)) rfl
theorem x_51_31   : am_E d 51 Q (31, L, st, g) ↔ am_K d 51 Q (am_ldL 32 L st g 3) := am_E_lload_n (by decide +kernel : am_dc 51 31 = some (.lload_n 3)) rfl rfl
theorem x_51_32  : am_E d 51 Q (32, L, st, g) ↔ am_K d 51 Q (am_S 51 (.invokestatic 38) 32 L st g) := am_E_x (by decide +kernel : am_dc 51 32 = some (.invokestatic 38))
theorem x_51_35   : am_E d 51 Q (35, L, st, g) ↔ am_K d 51 Q (am_stL 37 L st g 8) := am_E_lstore (by decide +kernel : am_dc 51 35 = some (.lstore 8)) rfl
theorem x_51_37   : am_E d 51 Q (37, L, st, g) ↔ am_K d 51 Q (am_ldI 38 L st g 0) := am_E_iload_n (by decide +kernel : am_dc 51 37 = some (.iload_n 0)) rfl rfl
theorem x_51_38  : am_E d 51 Q (38, L, st, g) ↔ am_K d 51 Q (am_S 51 (.tableswitch (59) (1) (3) #[(26), (35), (44)]) 38 L st g) := am_E_x (by decide +kernel : am_dc 51 38 = some (.tableswitch (59) (1) (3) #[(26), (35), (44)]))
theorem x_51_64   : am_E d 51 Q (64, L, st, g) ↔ am_K d 51 Q (am_ldL 66 L st g 6) := am_E_lload (by decide +kernel : am_dc 51 64 = some (.lload 6)) rfl
theorem x_51_66   : am_E d 51 Q (66, L, st, g) ↔ am_K d 51 Q (am_ldL 68 L st g 8) := am_E_lload (by decide +kernel : am_dc 51 66 = some (.lload 8)) rfl
theorem x_51_68   : am_E d 51 Q (68, L, .long w :: .long u :: st, g) ↔ am_E d 51 Q (69, L, .long (u + w) :: st, g) := am_E_ladd (by decide +kernel : am_dc 51 68 = some (.ladd)) rfl
theorem x_51_69  : am_E d 51 Q (69, L, st, g) ↔ am_K d 51 Q (am_S 51 (.invokestatic 42) 69 L st g) := am_E_x (by decide +kernel : am_dc 51 69 = some (.invokestatic 42))
theorem x_51_72  : am_E d 51 Q (72, L, [.long u], g) ↔ Q (.inl (some (.long u))) g := am_E_lreturn (by decide +kernel : am_dc 51 72 = some (.lreturn)) (by decide +kernel)
theorem x_51_73   : am_E d 51 Q (73, L, st, g) ↔ am_K d 51 Q (am_ldL 75 L st g 6) := am_E_lload (by decide +kernel : am_dc 51 73 = some (.lload 6)) rfl
theorem x_51_75   : am_E d 51 Q (75, L, st, g) ↔ am_K d 51 Q (am_ldL 77 L st g 8) := am_E_lload (by decide +kernel : am_dc 51 75 = some (.lload 8)) rfl
theorem x_51_77   : am_E d 51 Q (77, L, .long w :: .long u :: st, g) ↔ am_E d 51 Q (78, L, .long (u - w) :: st, g) := am_E_lsub (by decide +kernel : am_dc 51 77 = some (.lsub)) rfl
theorem x_51_78  : am_E d 51 Q (78, L, st, g) ↔ am_K d 51 Q (am_S 51 (.invokestatic 42) 78 L st g) := am_E_x (by decide +kernel : am_dc 51 78 = some (.invokestatic 42))
theorem x_51_81  : am_E d 51 Q (81, L, [.long u], g) ↔ Q (.inl (some (.long u))) g := am_E_lreturn (by decide +kernel : am_dc 51 81 = some (.lreturn)) (by decide +kernel)
theorem x_51_82   : am_E d 51 Q (82, L, st, g) ↔ am_K d 51 Q (am_ldL 84 L st g 6) := am_E_lload (by decide +kernel : am_dc 51 82 = some (.lload 6)) rfl
theorem x_51_84   : am_E d 51 Q (84, L, st, g) ↔ am_K d 51 Q (am_ldL 86 L st g 8) := am_E_lload (by decide +kernel : am_dc 51 84 = some (.lload 8)) rfl
theorem x_51_86   : am_E d 51 Q (86, L, .long w :: .long u :: st, g) ↔ am_E d 51 Q (87, L, .long (u * w) :: st, g) := am_E_lmul (by decide +kernel : am_dc 51 86 = some (.lmul)) rfl
theorem x_51_87  : am_E d 51 Q (87, L, st, g) ↔ am_K d 51 Q (am_S 51 (.ldc2_w 45) 87 L st g) := am_E_x (by decide +kernel : am_dc 51 87 = some (.ldc2_w 45))
theorem x_51_90  : am_E d 51 Q (90, L, st, g) ↔ am_K d 51 Q (am_S 51 (.invokestatic 47) 90 L st g) := am_E_x (by decide +kernel : am_dc 51 90 = some (.invokestatic 47))
theorem x_51_93  : am_E d 51 Q (93, L, st, g) ↔ am_K d 51 Q (am_S 51 (.invokestatic 42) 93 L st g) := am_E_x (by decide +kernel : am_dc 51 93 = some (.invokestatic 42))
theorem x_51_96  : am_E d 51 Q (96, L, [.long u], g) ↔ Q (.inl (some (.long u))) g := am_E_lreturn (by decide +kernel : am_dc 51 96 = some (.lreturn)) (by decide +kernel)
theorem x_51_97   : am_E d 51 Q (97, L, st, g) ↔ am_K d 51 Q (am_ldL 99 L st g 8) := am_E_lload (by decide +kernel : am_dc 51 97 = some (.lload 8)) rfl
theorem x_51_99   : am_E d 51 Q (99, L, st, g) ↔ am_E d 51 Q (100, L, .long (0) :: st, g) := am_E_lconst (by decide +kernel : am_dc 51 99 = some (.lconst 0)) (by decide) rfl
theorem x_51_100   : am_E d 51 Q (100, L, .long w :: .long u :: st, g) ↔ am_E d 51 Q (101, L, .int (lg_cmp u w) :: st, g) := am_E_lcmp (by decide +kernel : am_dc 51 100 = some (.lcmp)) rfl
theorem x_51_101   : am_E d 51 Q (101, L, .int x :: st, g) ↔ am_E d 51 Q (am_cmp .ne x 0 111 104, L, st, g) := am_E_if (by decide +kernel : am_dc 51 101 = some (.ifCond .ne (10))) rfl rfl
theorem x_51_104   : am_E d 51 Q (104, L, st, g) ↔ am_E d 51 Q (105, L, .int (4) :: st, g) := am_E_iconst (by decide +kernel : am_dc 51 104 = some (.iconst (4))) (by decide) rfl
theorem x_51_105  : am_E d 51 Q (105, L, st, g) ↔ am_K d 51 Q (am_S 51 (.invokestatic 25) 105 L st g) := am_E_x (by decide +kernel : am_dc 51 105 = some (.invokestatic 25))
theorem x_51_108   : am_E d 51 Q (108, L, st, g) ↔ am_E d 51 Q (125, L, st, g) := am_E_gt (by decide +kernel : am_dc 51 108 = some (.goto (17))) rfl rfl
theorem x_51_111   : am_E d 51 Q (111, L, st, g) ↔ am_K d 51 Q (am_ldL 113 L st g 6) := am_E_lload (by decide +kernel : am_dc 51 111 = some (.lload 6)) rfl
theorem x_51_113  : am_E d 51 Q (113, L, st, g) ↔ am_K d 51 Q (am_S 51 (.ldc2_w 45) 113 L st g) := am_E_x (by decide +kernel : am_dc 51 113 = some (.ldc2_w 45))
theorem x_51_116   : am_E d 51 Q (116, L, .long w :: .long u :: st, g) ↔ am_E d 51 Q (117, L, .long (u * w) :: st, g) := am_E_lmul (by decide +kernel : am_dc 51 116 = some (.lmul)) rfl
theorem x_51_117   : am_E d 51 Q (117, L, st, g) ↔ am_K d 51 Q (am_ldL 119 L st g 8) := am_E_lload (by decide +kernel : am_dc 51 117 = some (.lload 8)) rfl
theorem x_51_119  : am_E d 51 Q (119, L, st, g) ↔ am_K d 51 Q (am_S 51 (.invokestatic 47) 119 L st g) := am_E_x (by decide +kernel : am_dc 51 119 = some (.invokestatic 47))
theorem x_51_122  : am_E d 51 Q (122, L, st, g) ↔ am_K d 51 Q (am_S 51 (.invokestatic 42) 122 L st g) := am_E_x (by decide +kernel : am_dc 51 122 = some (.invokestatic 42))
theorem x_51_125  : am_E d 51 Q (125, L, [.long u], g) ↔ Q (.inl (some (.long u))) g := am_E_lreturn (by decide +kernel : am_dc 51 125 = some (.lreturn)) (by decide +kernel)
theorem v_51_17 : am_iv 51 17 = some (0, 55, 1) := by decide +kernel
theorem v_51_35 : am_iv 51 35 = some (0, 59, 2) := by decide +kernel
theorem v_51_25 : am_iv 51 25 = some (0, 56, 1) := by decide +kernel
theorem v_51_38 : am_iv 51 38 = some (0, 57, 1) := by decide +kernel
theorem v_51_42 : am_iv 51 42 = some (0, 52, 1) := by decide +kernel
theorem k_51_45 : am_cl8 51 45 = some (1000) := by decide +kernel
theorem v_51_47 : am_iv 51 47 = some (0, 58, 2) := by decide +kernel
theorem t_51 : am_t 51 = some (FieldType.long) := by decide +kernel
theorem h_51 : am_h 51 = [] := by decide +kernel
theorem m_51 : am_m 51 = 10 := by decide +kernel
theorem x_52_0   : am_E d 52 Q (0, L, st, g) ↔ am_K d 52 Q (am_ldL 1 L st g 0) := am_E_lload_n (by decide +kernel : am_dc 52 0 = some (.lload_n 0)) rfl rfl
theorem x_52_1  : am_E d 52 Q (1, L, st, g) ↔ am_K d 52 Q (am_S 52 (.invokestatic 21) 1 L st g) := am_E_x (by decide +kernel : am_dc 52 1 = some (.invokestatic 21))
theorem x_52_4   : am_E d 52 Q (4, L, .int x :: st, g) ↔ am_E d 52 Q (am_cmp .eq x 0 11 7, L, st, g) := am_E_if (by decide +kernel : am_dc 52 4 = some (.ifCond .eq (7))) rfl rfl
theorem x_52_7   : am_E d 52 Q (7, L, st, g) ↔ am_K d 52 Q (am_ldL 8 L st g 0) := am_E_lload_n (by decide +kernel : am_dc 52 7 = some (.lload_n 0)) rfl rfl
theorem x_52_8   : am_E d 52 Q (8, L, st, g) ↔ am_E d 52 Q (15, L, st, g) := am_E_gt (by decide +kernel : am_dc 52 8 = some (.goto (7))) rfl rfl
theorem x_52_11   : am_E d 52 Q (11, L, st, g) ↔ am_E d 52 Q (12, L, .int (3) :: st, g) := am_E_iconst (by decide +kernel : am_dc 52 11 = some (.iconst (3))) (by decide) rfl
theorem x_52_12  : am_E d 52 Q (12, L, st, g) ↔ am_K d 52 Q (am_S 52 (.invokestatic 25) 12 L st g) := am_E_x (by decide +kernel : am_dc 52 12 = some (.invokestatic 25))
theorem x_52_15  : am_E d 52 Q (15, L, [.long u], g) ↔ Q (.inl (some (.long u))) g := am_E_lreturn (by decide +kernel : am_dc 52 15 = some (.lreturn)) (by decide +kernel)
theorem v_52_21 : am_iv 52 21 = some (0, 54, 1) := by decide +kernel
theorem v_52_25 : am_iv 52 25 = some (0, 56, 1) := by decide +kernel
theorem t_52 : am_t 52 = some (FieldType.long) := by decide +kernel
theorem h_52 : am_h 52 = [] := by decide +kernel
theorem m_52 : am_m 52 = 2 := by decide +kernel
theorem x_53_0   : am_E d 53 Q (0, L, st, g) ↔ am_K d 53 Q (am_ldL 1 L st g 0) := am_E_lload_n (by decide +kernel : am_dc 53 0 = some (.lload_n 0)) rfl rfl
theorem x_53_1  : am_E d 53 Q (1, L, st, g) ↔ am_K d 53 Q (am_S 53 (.invokestatic 17) 1 L st g) := am_E_x (by decide +kernel : am_dc 53 1 = some (.invokestatic 17))
theorem x_53_4   : am_E d 53 Q (4, L, st, g) ↔ am_E d 53 Q (5, L, .int (1) :: st, g) := am_E_iconst (by decide +kernel : am_dc 53 4 = some (.iconst (1))) (by decide) rfl
theorem x_53_5   : am_E d 53 Q (5, L, .int y :: .int x :: st, g) ↔ am_E d 53 Q (am_cmp .le x y 12 8, L, st, g) := am_E_ic (by decide +kernel : am_dc 53 5 = some (.if_icmp .le (7))) rfl rfl
theorem x_53_8   : am_E d 53 Q (8, L, st, g) ↔ am_E d 53 Q (9, L, .int (1) :: st, g) := am_E_iconst (by decide +kernel : am_dc 53 8 = some (.iconst (1))) (by decide) rfl
theorem x_53_9   : am_E d 53 Q (9, L, st, g) ↔ am_E d 53 Q (13, L, st, g) := am_E_gt (by decide +kernel : am_dc 53 9 = some (.goto (4))) rfl rfl
theorem x_53_12   : am_E d 53 Q (12, L, st, g) ↔ am_E d 53 Q (13, L, .int (0) :: st, g) := am_E_iconst (by decide +kernel : am_dc 53 12 = some (.iconst (0))) (by decide) rfl
theorem x_53_13  : am_E d 53 Q (13, L, [.int x], g) ↔ if am_ok (FieldType.boolean) (.int x) = true then Q (.inl (some (.int x))) g else False := am_E_ireturn (by decide +kernel : am_dc 53 13 = some (.ireturn)) (by decide +kernel)
theorem v_53_17 : am_iv 53 17 = some (0, 55, 1) := by decide +kernel
theorem t_53 : am_t 53 = some (FieldType.boolean) := by decide +kernel
theorem h_53 : am_h 53 = [] := by decide +kernel
theorem m_53 : am_m 53 = 2 := by decide +kernel
theorem x_54_0   : am_E d 54 Q (0, L, st, g) ↔ am_K d 54 Q (am_ldL 1 L st g 0) := am_E_lload_n (by decide +kernel : am_dc 54 0 = some (.lload_n 0)) rfl rfl
theorem x_54_1  : am_E d 54 Q (1, L, st, g) ↔ am_K d 54 Q (am_S 54 (.ldc2_w 9) 1 L st g) := am_E_x (by decide +kernel : am_dc 54 1 = some (.ldc2_w 9))
theorem x_54_4   : am_E d 54 Q (4, L, .long w :: .long u :: st, g) ↔ am_E d 54 Q (5, L, .int (lg_cmp u w) :: st, g) := am_E_lcmp (by decide +kernel : am_dc 54 4 = some (.lcmp)) rfl
theorem x_54_5   : am_E d 54 Q (5, L, .int x :: st, g) ↔ am_E d 54 Q (am_cmp .lt x 0 20 8, L, st, g) := am_E_if (by decide +kernel : am_dc 54 5 = some (.ifCond .lt (15))) rfl rfl
theorem x_54_8   : am_E d 54 Q (8, L, st, g) ↔ am_K d 54 Q (am_ldL 9 L st g 0) := am_E_lload_n (by decide +kernel : am_dc 54 8 = some (.lload_n 0)) rfl rfl
theorem x_54_9  : am_E d 54 Q (9, L, st, g) ↔ am_K d 54 Q (am_S 54 (.ldc2_w 11) 9 L st g) := am_E_x (by decide +kernel : am_dc 54 9 = some (.ldc2_w 11))
theorem x_54_12   : am_E d 54 Q (12, L, .long w :: .long u :: st, g) ↔ am_E d 54 Q (13, L, .int (lg_cmp u w) :: st, g) := am_E_lcmp (by decide +kernel : am_dc 54 12 = some (.lcmp)) rfl
theorem x_54_13   : am_E d 54 Q (13, L, .int x :: st, g) ↔ am_E d 54 Q (am_cmp .gt x 0 20 16, L, st, g) := am_E_if (by decide +kernel : am_dc 54 13 = some (.ifCond .gt (7))) rfl rfl
theorem x_54_16   : am_E d 54 Q (16, L, st, g) ↔ am_E d 54 Q (17, L, .int (1) :: st, g) := am_E_iconst (by decide +kernel : am_dc 54 16 = some (.iconst (1))) (by decide) rfl
theorem x_54_17   : am_E d 54 Q (17, L, st, g) ↔ am_E d 54 Q (21, L, st, g) := am_E_gt (by decide +kernel : am_dc 54 17 = some (.goto (4))) rfl rfl
theorem x_54_20   : am_E d 54 Q (20, L, st, g) ↔ am_E d 54 Q (21, L, .int (0) :: st, g) := am_E_iconst (by decide +kernel : am_dc 54 20 = some (.iconst (0))) (by decide) rfl
theorem x_54_21  : am_E d 54 Q (21, L, [.int x], g) ↔ if am_ok (FieldType.boolean) (.int x) = true then Q (.inl (some (.int x))) g else False := am_E_ireturn (by decide +kernel : am_dc 54 21 = some (.ireturn)) (by decide +kernel)
theorem k_54_9 : am_cl8 54 9 = some (-2000000000) := by decide +kernel
theorem k_54_11 : am_cl8 54 11 = some (2000000000) := by decide +kernel
theorem t_54 : am_t 54 = some (FieldType.boolean) := by decide +kernel
theorem h_54 : am_h 54 = [] := by decide +kernel
theorem m_54 : am_m 54 = 2 := by decide +kernel
theorem x_55_0   : am_E d 55 Q (0, L, st, g) ↔ am_K d 55 Q (am_ldL 1 L st g 0) := am_E_lload_n (by decide +kernel : am_dc 55 0 = some (.lload_n 0)) rfl rfl
theorem x_55_1  : am_E d 55 Q (1, L, st, g) ↔ am_K d 55 Q (am_S 55 (.ldc2_w 15) 1 L st g) := am_E_x (by decide +kernel : am_dc 55 1 = some (.ldc2_w 15))
theorem x_55_4   : am_E d 55 Q (4, L, .long w :: .long u :: st, g) ↔ am_E d 55 Q (5, L, .int (lg_cmp u w) :: st, g) := am_E_lcmp (by decide +kernel : am_dc 55 4 = some (.lcmp)) rfl
theorem x_55_5   : am_E d 55 Q (5, L, .int x :: st, g) ↔ am_E d 55 Q (am_cmp .ge x 0 12 8, L, st, g) := am_E_if (by decide +kernel : am_dc 55 5 = some (.ifCond .ge (7))) rfl rfl
theorem x_55_8   : am_E d 55 Q (8, L, st, g) ↔ am_E d 55 Q (9, L, .int (0) :: st, g) := am_E_iconst (by decide +kernel : am_dc 55 8 = some (.iconst (0))) (by decide) rfl
theorem x_55_9   : am_E d 55 Q (9, L, st, g) ↔ am_E d 55 Q (18, L, st, g) := am_E_gt (by decide +kernel : am_dc 55 9 = some (.goto (9))) rfl rfl
theorem x_55_12   : am_E d 55 Q (12, L, st, g) ↔ am_K d 55 Q (am_ldL 13 L st g 0) := am_E_lload_n (by decide +kernel : am_dc 55 12 = some (.lload_n 0)) rfl rfl
theorem x_55_13  : am_E d 55 Q (13, L, st, g) ↔ am_K d 55 Q (am_S 55 (.ldc2_w 15) 13 L st g) := am_E_x (by decide +kernel : am_dc 55 13 = some (.ldc2_w 15))
theorem x_55_16   : am_E d 55 Q (16, L, .long w :: .long u :: st, g) ↔ am_E d 55 Q (17, L, .long (u - w) :: st, g) := am_E_lsub (by decide +kernel : am_dc 55 16 = some (.lsub)) rfl
theorem x_55_17   : am_E d 55 Q (17, L, .long u :: st, g) ↔ am_E d 55 Q (18, L, .int u.toInt32 :: st, g) := am_E_l2i (by decide +kernel : am_dc 55 17 = some (.l2i)) rfl
theorem x_55_18  : am_E d 55 Q (18, L, [.int x], g) ↔ if am_ok (FieldType.int) (.int x) = true then Q (.inl (some (.int x))) g else False := am_E_ireturn (by decide +kernel : am_dc 55 18 = some (.ireturn)) (by decide +kernel)
theorem k_55_15 : am_cl8 55 15 = some (1152921504606846976) := by decide +kernel
theorem t_55 : am_t 55 = some (FieldType.int) := by decide +kernel
theorem h_55 : am_h 55 = [] := by decide +kernel
theorem m_55 : am_m 55 = 2 := by decide +kernel
theorem x_56_0  : am_E d 56 Q (0, L, st, g) ↔ am_K d 56 Q (am_S 56 (.ldc2_w 15) 0 L st g) := am_E_x (by decide +kernel : am_dc 56 0 = some (.ldc2_w 15))
theorem x_56_3   : am_E d 56 Q (3, L, st, g) ↔ am_K d 56 Q (am_ldI 4 L st g 0) := am_E_iload_n (by decide +kernel : am_dc 56 3 = some (.iload_n 0)) rfl rfl
theorem x_56_4   : am_E d 56 Q (4, L, .int x :: st, g) ↔ am_E d 56 Q (5, L, .long x.toInt64 :: st, g) := am_E_i2l (by decide +kernel : am_dc 56 4 = some (.i2l)) rfl
theorem x_56_5   : am_E d 56 Q (5, L, .long w :: .long u :: st, g) ↔ am_E d 56 Q (6, L, .long (u + w) :: st, g) := am_E_ladd (by decide +kernel : am_dc 56 5 = some (.ladd)) rfl
theorem x_56_6  : am_E d 56 Q (6, L, [.long u], g) ↔ Q (.inl (some (.long u))) g := am_E_lreturn (by decide +kernel : am_dc 56 6 = some (.lreturn)) (by decide +kernel)
theorem k_56_15 : am_cl8 56 15 = some (1152921504606846976) := by decide +kernel
theorem t_56 : am_t 56 = some (FieldType.long) := by decide +kernel
theorem h_56 : am_h 56 = [] := by decide +kernel
theorem m_56 : am_m 56 = 1 := by decide +kernel
theorem x_57_0   : am_E d 57 Q (0, L, st, g) ↔ am_K d 57 Q (am_ldL 1 L st g 0) := am_E_lload_n (by decide +kernel : am_dc 57 0 = some (.lload_n 0)) rfl rfl
theorem x_57_1  : am_E d 57 Q (1, L, st, g) ↔ am_K d 57 Q (am_S 57 (.ldc2_w 15) 1 L st g) := am_E_x (by decide +kernel : am_dc 57 1 = some (.ldc2_w 15))
theorem x_57_4   : am_E d 57 Q (4, L, .long w :: .long u :: st, g) ↔ am_E d 57 Q (5, L, .int (lg_cmp u w) :: st, g) := am_E_lcmp (by decide +kernel : am_dc 57 4 = some (.lcmp)) rfl
theorem x_57_5   : am_E d 57 Q (5, L, .int x :: st, g) ↔ am_E d 57 Q (am_cmp .ge x 0 12 8, L, st, g) := am_E_if (by decide +kernel : am_dc 57 5 = some (.ifCond .ge (7))) rfl rfl
theorem x_57_8   : am_E d 57 Q (8, L, st, g) ↔ am_K d 57 Q (am_ldL 9 L st g 0) := am_E_lload_n (by decide +kernel : am_dc 57 8 = some (.lload_n 0)) rfl rfl
theorem x_57_9   : am_E d 57 Q (9, L, st, g) ↔ am_E d 57 Q (13, L, st, g) := am_E_gt (by decide +kernel : am_dc 57 9 = some (.goto (4))) rfl rfl
theorem x_57_12   : am_E d 57 Q (12, L, st, g) ↔ am_E d 57 Q (13, L, .long (0) :: st, g) := am_E_lconst (by decide +kernel : am_dc 57 12 = some (.lconst 0)) (by decide) rfl
theorem x_57_13  : am_E d 57 Q (13, L, [.long u], g) ↔ Q (.inl (some (.long u))) g := am_E_lreturn (by decide +kernel : am_dc 57 13 = some (.lreturn)) (by decide +kernel)
theorem k_57_15 : am_cl8 57 15 = some (1152921504606846976) := by decide +kernel
theorem t_57 : am_t 57 = some (FieldType.long) := by decide +kernel
theorem h_57 : am_h 57 = [] := by decide +kernel
theorem m_57 : am_m 57 = 2 := by decide +kernel
theorem x_58_0   : am_E d 58 Q (0, L, st, g) ↔ am_K d 58 Q (am_ldL 1 L st g 0) := am_E_lload_n (by decide +kernel : am_dc 58 0 = some (.lload_n 0)) rfl rfl
theorem x_58_1  : am_E d 58 Q (1, L, st, g) ↔ am_K d 58 Q (am_S 58 (.invokestatic 51) 1 L st g) := am_E_x (by decide +kernel : am_dc 58 1 = some (.invokestatic 51))
theorem x_58_4   : am_E d 58 Q (4, L, st, g) ↔ am_K d 58 Q (am_stL 6 L st g 4) := am_E_lstore (by decide +kernel : am_dc 58 4 = some (.lstore 4)) rfl
theorem x_58_6   : am_E d 58 Q (6, L, st, g) ↔ am_K d 58 Q (am_ldL 7 L st g 2) := am_E_lload_n (by decide +kernel : am_dc 58 6 = some (.lload_n 2)) rfl rfl
theorem x_58_7  : am_E d 58 Q (7, L, st, g) ↔ am_K d 58 Q (am_S 58 (.invokestatic 51) 7 L st g) := am_E_x (by decide +kernel : am_dc 58 7 = some (.invokestatic 51))
theorem x_58_10   : am_E d 58 Q (10, L, st, g) ↔ am_K d 58 Q (am_stL 12 L st g 6) := am_E_lstore (by decide +kernel : am_dc 58 10 = some (.lstore 6)) rfl
theorem x_58_12   : am_E d 58 Q (12, L, st, g) ↔ am_K d 58 Q (am_ldL 14 L st g 6) := am_E_lload (by decide +kernel : am_dc 58 12 = some (.lload 6)) rfl
theorem x_58_14   : am_E d 58 Q (14, L, st, g) ↔ am_E d 58 Q (15, L, .long (0) :: st, g) := am_E_lconst (by decide +kernel : am_dc 58 14 = some (.lconst 0)) (by decide) rfl
theorem x_58_15   : am_E d 58 Q (15, L, .long w :: .long u :: st, g) ↔ am_E d 58 Q (16, L, .int (lg_cmp u w) :: st, g) := am_E_lcmp (by decide +kernel : am_dc 58 15 = some (.lcmp)) rfl
theorem x_58_16   : am_E d 58 Q (16, L, .int x :: st, g) ↔ am_E d 58 Q (am_cmp .ne x 0 21 19, L, st, g) := am_E_if (by decide +kernel : am_dc 58 16 = some (.ifCond .ne (5))) rfl rfl
theorem x_58_19   : am_E d 58 Q (19, L, st, g) ↔ am_E d 58 Q (20, L, .long (0) :: st, g) := am_E_lconst (by decide +kernel : am_dc 58 19 = some (.lconst 0)) (by decide) rfl
theorem x_58_20  : am_E d 58 Q (20, L, [.long u], g) ↔ Q (.inl (some (.long u))) g := am_E_lreturn (by decide +kernel : am_dc 58 20 = some (.lreturn)) (by decide +kernel)
theorem x_58_21  : am_E d 58 Q (21, L, st, g) ↔ am_K d 58 Q (am_S 58 (.ldc2_w 54) 21 L st g) := am_E_x (by decide +kernel : am_dc 58 21 = some (.ldc2_w 54))
theorem x_58_24   : am_E d 58 Q (24, L, st, g) ↔ am_K d 58 Q (am_ldL 26 L st g 4) := am_E_lload (by decide +kernel : am_dc 58 24 = some (.lload 4)) rfl
theorem x_58_26   : am_E d 58 Q (26, L, .long w :: .long u :: st, g) ↔ am_E d 58 Q (27, L, .long (u * w) :: st, g) := am_E_lmul (by decide +kernel : am_dc 58 26 = some (.lmul)) rfl
theorem x_58_27   : am_E d 58 Q (27, L, st, g) ↔ am_K d 58 Q (am_ldL 29 L st g 6) := am_E_lload (by decide +kernel : am_dc 58 27 = some (.lload 6)) rfl
theorem x_58_29   : am_E d 58 Q (29, L, .long w :: .long u :: st, g) ↔ am_E d 58 Q (30, L, .long (u + w) :: st, g) := am_E_ladd (by decide +kernel : am_dc 58 29 = some (.ladd)) rfl
theorem x_58_30  : am_E d 58 Q (30, L, st, g) ↔ am_K d 58 Q (am_S 58 (.ldc2_w 54) 30 L st g) := am_E_x (by decide +kernel : am_dc 58 30 = some (.ldc2_w 54))
theorem x_58_33   : am_E d 58 Q (33, L, st, g) ↔ am_K d 58 Q (am_ldL 35 L st g 6) := am_E_lload (by decide +kernel : am_dc 58 33 = some (.lload 6)) rfl
theorem x_58_35   : am_E d 58 Q (35, L, .long w :: .long u :: st, g) ↔ am_E d 58 Q (36, L, .long (u * w) :: st, g) := am_E_lmul (by decide +kernel : am_dc 58 35 = some (.lmul)) rfl
theorem x_58_36   : am_E d 58 Q (36, L, .long w :: .long u :: st, g) ↔ if w = 0 then False else am_E d 58 Q (37, L, .long (u / w) :: st, g) := am_E_ldiv (by decide +kernel : am_dc 58 36 = some (.ldiv)) rfl
theorem x_58_37   : am_E d 58 Q (37, L, st, g) ↔ am_K d 58 Q (am_stL 39 L st g 8) := am_E_lstore (by decide +kernel : am_dc 58 37 = some (.lstore 8)) rfl
theorem x_58_39   : am_E d 58 Q (39, L, st, g) ↔ am_K d 58 Q (am_ldL 40 L st g 0) := am_E_lload_n (by decide +kernel : am_dc 58 39 = some (.lload_n 0)) rfl rfl
theorem x_58_40   : am_E d 58 Q (40, L, st, g) ↔ am_E d 58 Q (41, L, .long (0) :: st, g) := am_E_lconst (by decide +kernel : am_dc 58 40 = some (.lconst 0)) (by decide) rfl
theorem x_58_41   : am_E d 58 Q (41, L, .long w :: .long u :: st, g) ↔ am_E d 58 Q (42, L, .int (lg_cmp u w) :: st, g) := am_E_lcmp (by decide +kernel : am_dc 58 41 = some (.lcmp)) rfl
theorem x_58_42   : am_E d 58 Q (42, L, .int x :: st, g) ↔ am_E d 58 Q (am_cmp .ge x 0 49 45, L, st, g) := am_E_if (by decide +kernel : am_dc 58 42 = some (.ifCond .ge (7))) rfl rfl
theorem x_58_45   : am_E d 58 Q (45, L, st, g) ↔ am_E d 58 Q (46, L, .int (1) :: st, g) := am_E_iconst (by decide +kernel : am_dc 58 45 = some (.iconst (1))) (by decide) rfl
theorem x_58_46   : am_E d 58 Q (46, L, st, g) ↔ am_E d 58 Q (50, L, st, g) := am_E_gt (by decide +kernel : am_dc 58 46 = some (.goto (4))) rfl rfl
theorem x_58_49   : am_E d 58 Q (49, L, st, g) ↔ am_E d 58 Q (50, L, .int (0) :: st, g) := am_E_iconst (by decide +kernel : am_dc 58 49 = some (.iconst (0))) (by decide) rfl
theorem x_58_50   : am_E d 58 Q (50, L, st, g) ↔ am_K d 58 Q (am_ldL 51 L st g 2) := am_E_lload_n (by decide +kernel : am_dc 58 50 = some (.lload_n 2)) rfl rfl
theorem x_58_51   : am_E d 58 Q (51, L, st, g) ↔ am_E d 58 Q (52, L, .long (0) :: st, g) := am_E_lconst (by decide +kernel : am_dc 58 51 = some (.lconst 0)) (by decide) rfl
theorem x_58_52   : am_E d 58 Q (52, L, .long w :: .long u :: st, g) ↔ am_E d 58 Q (53, L, .int (lg_cmp u w) :: st, g) := am_E_lcmp (by decide +kernel : am_dc 58 52 = some (.lcmp)) rfl
theorem x_58_53   : am_E d 58 Q (53, L, .int x :: st, g) ↔ am_E d 58 Q (am_cmp .ge x 0 60 56, L, st, g) := am_E_if (by decide +kernel : am_dc 58 53 = some (.ifCond .ge (7))) rfl rfl
theorem x_58_56   : am_E d 58 Q (56, L, st, g) ↔ am_E d 58 Q (57, L, .int (1) :: st, g) := am_E_iconst (by decide +kernel : am_dc 58 56 = some (.iconst (1))) (by decide) rfl
theorem x_58_57   : am_E d 58 Q (57, L, st, g) ↔ am_E d 58 Q (61, L, st, g) := am_E_gt (by decide +kernel : am_dc 58 57 = some (.goto (4))) rfl rfl
theorem x_58_60   : am_E d 58 Q (60, L, st, g) ↔ am_E d 58 Q (61, L, .int (0) :: st, g) := am_E_iconst (by decide +kernel : am_dc 58 60 = some (.iconst (0))) (by decide) rfl
theorem x_58_61   : am_E d 58 Q (61, L, .int y :: .int x :: st, g) ↔ am_E d 58 Q (am_cmp .eq x y 70 64, L, st, g) := am_E_ic (by decide +kernel : am_dc 58 61 = some (.if_icmp .eq (9))) rfl rfl
theorem x_58_64   : am_E d 58 Q (64, L, st, g) ↔ am_K d 58 Q (am_ldL 66 L st g 8) := am_E_lload (by decide +kernel : am_dc 58 64 = some (.lload 8)) rfl
theorem x_58_66   : am_E d 58 Q (66, L, .long u :: st, g) ↔ am_E d 58 Q (67, L, .long (-u) :: st, g) := am_E_lneg (by decide +kernel : am_dc 58 66 = some (.lneg)) rfl
theorem x_58_67   : am_E d 58 Q (67, L, st, g) ↔ am_E d 58 Q (72, L, st, g) := am_E_gt (by decide +kernel : am_dc 58 67 = some (.goto (5))) rfl rfl
theorem x_58_70   : am_E d 58 Q (70, L, st, g) ↔ am_K d 58 Q (am_ldL 72 L st g 8) := am_E_lload (by decide +kernel : am_dc 58 70 = some (.lload 8)) rfl
theorem x_58_72  : am_E d 58 Q (72, L, [.long u], g) ↔ Q (.inl (some (.long u))) g := am_E_lreturn (by decide +kernel : am_dc 58 72 = some (.lreturn)) (by decide +kernel)
theorem v_58_51 : am_iv 58 51 = some (0, 267, 1) := by decide +kernel
theorem k_58_54 : am_cl8 58 54 = some (2) := by decide +kernel
theorem t_58 : am_t 58 = some (FieldType.long) := by decide +kernel
theorem h_58 : am_h 58 = [] := by decide +kernel
theorem m_58 : am_m 58 = 10 := by decide +kernel
theorem x_59_0   : am_E d 59 Q (0, L, st, g) ↔ am_K d 59 Q (am_ldI 1 L st g 0) := am_E_iload_n (by decide +kernel : am_dc 59 0 = some (.iload_n 0)) rfl rfl
theorem x_59_1   : am_E d 59 Q (1, L, st, g) ↔ am_E d 59 Q (2, L, .int (1) :: st, g) := am_E_iconst (by decide +kernel : am_dc 59 1 = some (.iconst (1))) (by decide) rfl
theorem x_59_2   : am_E d 59 Q (2, L, .int y :: .int x :: st, g) ↔ am_E d 59 Q (am_cmp .gt x y 7 5, L, st, g) := am_E_ic (by decide +kernel : am_dc 59 2 = some (.if_icmp .gt (5))) rfl rfl
theorem x_59_5   : am_E d 59 Q (5, L, st, g) ↔ am_K d 59 Q (am_ldI 6 L st g 1) := am_E_iload_n (by decide +kernel : am_dc 59 5 = some (.iload_n 1)) rfl rfl
theorem x_59_6  : am_E d 59 Q (6, L, [.int x], g) ↔ if am_ok (FieldType.int) (.int x) = true then Q (.inl (some (.int x))) g else False := am_E_ireturn (by decide +kernel : am_dc 59 6 = some (.ireturn)) (by decide +kernel)
theorem x_59_7   : am_E d 59 Q (7, L, st, g) ↔ am_K d 59 Q (am_ldI 8 L st g 1) := am_E_iload_n (by decide +kernel : am_dc 59 7 = some (.iload_n 1)) rfl rfl
theorem x_59_8   : am_E d 59 Q (8, L, st, g) ↔ am_E d 59 Q (9, L, .int (1) :: st, g) := am_E_iconst (by decide +kernel : am_dc 59 8 = some (.iconst (1))) (by decide) rfl
theorem x_59_9   : am_E d 59 Q (9, L, .int y :: .int x :: st, g) ↔ am_E d 59 Q (am_cmp .gt x y 16 12, L, st, g) := am_E_ic (by decide +kernel : am_dc 59 9 = some (.if_icmp .gt (7))) rfl rfl
theorem x_59_12   : am_E d 59 Q (12, L, st, g) ↔ am_K d 59 Q (am_ldI 13 L st g 0) := am_E_iload_n (by decide +kernel : am_dc 59 12 = some (.iload_n 0)) rfl rfl
theorem x_59_13   : am_E d 59 Q (13, L, st, g) ↔ am_E d 59 Q (21, L, st, g) := am_E_gt (by decide +kernel : am_dc 59 13 = some (.goto (8))) rfl rfl
theorem x_59_16   : am_E d 59 Q (16, L, st, g) ↔ am_K d 59 Q (am_ldI 17 L st g 0) := am_E_iload_n (by decide +kernel : am_dc 59 16 = some (.iload_n 0)) rfl rfl
theorem x_59_17   : am_E d 59 Q (17, L, st, g) ↔ am_K d 59 Q (am_ldI 18 L st g 1) := am_E_iload_n (by decide +kernel : am_dc 59 17 = some (.iload_n 1)) rfl rfl
theorem x_59_18  : am_E d 59 Q (18, L, st, g) ↔ am_K d 59 Q (am_S 59 (.invokestatic 29) 18 L st g) := am_E_x (by decide +kernel : am_dc 59 18 = some (.invokestatic 29))
theorem x_59_21  : am_E d 59 Q (21, L, [.int x], g) ↔ if am_ok (FieldType.int) (.int x) = true then Q (.inl (some (.int x))) g else False := am_E_ireturn (by decide +kernel : am_dc 59 21 = some (.ireturn)) (by decide +kernel)
theorem v_59_29 : am_iv 59 29 = some (0, 269, 2) := by decide +kernel
theorem t_59 : am_t 59 = some (FieldType.int) := by decide +kernel
theorem h_59 : am_h 59 = [] := by decide +kernel
theorem m_59 : am_m 59 = 2 := by decide +kernel
theorem x_60_0  : am_E d 60 Q (0, L, st, g) ↔ am_K d 60 Q (am_S 60 (.new 56) 0 L st g) := am_E_x (by decide +kernel : am_dc 60 0 = some (.new 56))
theorem x_60_3   : am_E d 60 Q (3, L, v :: st, g) ↔ if v.category = 1 then am_E d 60 Q (4, L, v :: v :: st, g) else False := am_E_dup (by decide +kernel : am_dc 60 3 = some (.dup)) rfl
theorem x_60_4  : am_E d 60 Q (4, L, st, g) ↔ am_K d 60 Q (am_S 60 (.invokespecial 58) 4 L st g) := am_E_x (by decide +kernel : am_dc 60 4 = some (.invokespecial 58))
theorem x_60_7   : am_E d 60 Q (7, L, st, g) ↔ am_K d 60 Q (am_stA 8 L st g 2) := am_E_astore_n (by decide +kernel : am_dc 60 7 = some (.astore_n 2)) rfl rfl
theorem x_60_8   : am_E d 60 Q (8, L, st, g) ↔ am_K d 60 Q (am_ldL 9 L st g 0) := am_E_lload_n (by decide +kernel : am_dc 60 8 = some (.lload_n 0)) rfl rfl
theorem x_60_9  : am_E d 60 Q (9, L, st, g) ↔ am_K d 60 Q (am_S 60 (.invokestatic 17) 9 L st g) := am_E_x (by decide +kernel : am_dc 60 9 = some (.invokestatic 17))
theorem x_60_12  : am_E d 60 Q (12, L, st, g) ↔ am_K d 60 Q (am_S 60 (.tableswitch (70) (0) (3) #[(32), (40), (50), (60)]) 12 L st g) := am_E_x (by decide +kernel : am_dc 60 12 = some (.tableswitch (70) (0) (3) #[(32), (40), (50), (60)]))
theorem x_60_44   : am_E d 60 Q (44, L, st, g) ↔ am_K d 60 Q (am_ldA 45 L st g 2) := am_E_aload_n (by decide +kernel : am_dc 60 44 = some (.aload_n 2)) rfl rfl
theorem x_60_45   : am_E d 60 Q (45, L, st, g) ↔ am_K d 60 Q (am_ldL 46 L st g 0) := am_E_lload_n (by decide +kernel : am_dc 60 45 = some (.lload_n 0)) rfl rfl
theorem x_60_46  : am_E d 60 Q (46, L, st, g) ↔ am_K d 60 Q (am_S 60 (.invokestatic 59) 46 L st g) := am_E_x (by decide +kernel : am_dc 60 46 = some (.invokestatic 59))
theorem x_60_49   : am_E d 60 Q (49, L, st, g) ↔ am_E d 60 Q (89, L, st, g) := am_E_gt (by decide +kernel : am_dc 60 49 = some (.goto (40))) rfl rfl
theorem x_60_52   : am_E d 60 Q (52, L, st, g) ↔ am_K d 60 Q (am_ldA 53 L st g 2) := am_E_aload_n (by decide +kernel : am_dc 60 52 = some (.aload_n 2)) rfl rfl
theorem x_60_53  : am_E d 60 Q (53, L, st, g) ↔ am_K d 60 Q (am_S 60 (.ldc 63) 53 L st g) := am_E_x (by decide +kernel : am_dc 60 53 = some (.ldc 63))
theorem x_60_55  : am_E d 60 Q (55, L, st, g) ↔ am_K d 60 Q (am_S 60 (.invokevirtual 65) 55 L st g) := am_E_x (by decide +kernel : am_dc 60 55 = some (.invokevirtual 65))
theorem x_60_58   : am_E d 60 Q (58, L, v :: st, g) ↔ if v.category = 1 then am_E d 60 Q (59, L, st, g) else False := am_E_pop (by decide +kernel : am_dc 60 58 = some (.pop)) rfl
theorem x_60_59   : am_E d 60 Q (59, L, st, g) ↔ am_E d 60 Q (89, L, st, g) := am_E_gt (by decide +kernel : am_dc 60 59 = some (.goto (30))) rfl rfl
theorem x_60_62   : am_E d 60 Q (62, L, st, g) ↔ am_K d 60 Q (am_ldA 63 L st g 2) := am_E_aload_n (by decide +kernel : am_dc 60 62 = some (.aload_n 2)) rfl rfl
theorem x_60_63  : am_E d 60 Q (63, L, st, g) ↔ am_K d 60 Q (am_S 60 (.ldc 69) 63 L st g) := am_E_x (by decide +kernel : am_dc 60 63 = some (.ldc 69))
theorem x_60_65  : am_E d 60 Q (65, L, st, g) ↔ am_K d 60 Q (am_S 60 (.invokevirtual 65) 65 L st g) := am_E_x (by decide +kernel : am_dc 60 65 = some (.invokevirtual 65))
theorem x_60_68   : am_E d 60 Q (68, L, v :: st, g) ↔ if v.category = 1 then am_E d 60 Q (69, L, st, g) else False := am_E_pop (by decide +kernel : am_dc 60 68 = some (.pop)) rfl
theorem x_60_69   : am_E d 60 Q (69, L, st, g) ↔ am_E d 60 Q (89, L, st, g) := am_E_gt (by decide +kernel : am_dc 60 69 = some (.goto (20))) rfl rfl
theorem x_60_72   : am_E d 60 Q (72, L, st, g) ↔ am_K d 60 Q (am_ldA 73 L st g 2) := am_E_aload_n (by decide +kernel : am_dc 60 72 = some (.aload_n 2)) rfl rfl
theorem x_60_73  : am_E d 60 Q (73, L, st, g) ↔ am_K d 60 Q (am_S 60 (.ldc 71) 73 L st g) := am_E_x (by decide +kernel : am_dc 60 73 = some (.ldc 71))
theorem x_60_75  : am_E d 60 Q (75, L, st, g) ↔ am_K d 60 Q (am_S 60 (.invokevirtual 65) 75 L st g) := am_E_x (by decide +kernel : am_dc 60 75 = some (.invokevirtual 65))
theorem x_60_78   : am_E d 60 Q (78, L, v :: st, g) ↔ if v.category = 1 then am_E d 60 Q (79, L, st, g) else False := am_E_pop (by decide +kernel : am_dc 60 78 = some (.pop)) rfl
theorem x_60_79   : am_E d 60 Q (79, L, st, g) ↔ am_E d 60 Q (89, L, st, g) := am_E_gt (by decide +kernel : am_dc 60 79 = some (.goto (10))) rfl rfl
theorem x_60_82   : am_E d 60 Q (82, L, st, g) ↔ am_K d 60 Q (am_ldA 83 L st g 2) := am_E_aload_n (by decide +kernel : am_dc 60 82 = some (.aload_n 2)) rfl rfl
theorem x_60_83  : am_E d 60 Q (83, L, st, g) ↔ am_K d 60 Q (am_S 60 (.ldc 73) 83 L st g) := am_E_x (by decide +kernel : am_dc 60 83 = some (.ldc 73))
theorem x_60_85  : am_E d 60 Q (85, L, st, g) ↔ am_K d 60 Q (am_S 60 (.invokevirtual 65) 85 L st g) := am_E_x (by decide +kernel : am_dc 60 85 = some (.invokevirtual 65))
theorem x_60_88   : am_E d 60 Q (88, L, v :: st, g) ↔ if v.category = 1 then am_E d 60 Q (89, L, st, g) else False := am_E_pop (by decide +kernel : am_dc 60 88 = some (.pop)) rfl
theorem x_60_89   : am_E d 60 Q (89, L, st, g) ↔ am_K d 60 Q (am_ldA 90 L st g 2) := am_E_aload_n (by decide +kernel : am_dc 60 89 = some (.aload_n 2)) rfl rfl
theorem x_60_90  : am_E d 60 Q (90, L, [.ref a], g) ↔ if am_ok ((FieldType.object "java/lang/StringBuilder")) (.ref a) = true then Q (.inl (some (.ref a))) g else False := am_E_areturn (by decide +kernel : am_dc 60 90 = some (.areturn)) (by decide +kernel)
theorem w_60_56 : am_nw 60 56 = some 12 := by decide +kernel
theorem v_60_58 : am_iv 60 58 = some (2, 281, 1) := by decide +kernel
theorem v_60_17 : am_iv 60 17 = some (0, 55, 1) := by decide +kernel
theorem v_60_59 : am_iv 60 59 = some (0, 61, 2) := by decide +kernel
theorem k_60_63 : am_ci 60 63 = none := by decide +kernel
theorem t_60_63 : am_cs 60 63 = some 5 := by decide +kernel
theorem v_60_65 : am_iv 60 65 = some (1, 284, 2) := by decide +kernel
theorem k_60_69 : am_ci 60 69 = none := by decide +kernel
theorem t_60_69 : am_cs 60 69 = some 6 := by decide +kernel
theorem k_60_71 : am_ci 60 71 = none := by decide +kernel
theorem t_60_71 : am_cs 60 71 = some 7 := by decide +kernel
theorem k_60_73 : am_ci 60 73 = none := by decide +kernel
theorem t_60_73 : am_cs 60 73 = some 8 := by decide +kernel
theorem t_60 : am_t 60 = some ((FieldType.object "java/lang/StringBuilder")) := by decide +kernel
theorem h_60 : am_h 60 = [] := by decide +kernel
theorem m_60 : am_m 60 = 3 := by decide +kernel
theorem x_61_0   : am_E d 61 Q (0, L, st, g) ↔ am_K d 61 Q (am_ldL 1 L st g 1) := am_E_lload_n (by decide +kernel : am_dc 61 0 = some (.lload_n 1)) rfl rfl
theorem x_61_1  : am_E d 61 Q (1, L, st, g) ↔ am_K d 61 Q (am_S 61 (.invokestatic 51) 1 L st g) := am_E_x (by decide +kernel : am_dc 61 1 = some (.invokestatic 51))
theorem x_61_4   : am_E d 61 Q (4, L, .long u :: st, g) ↔ am_E d 61 Q (5, L, .int u.toInt32 :: st, g) := am_E_l2i (by decide +kernel : am_dc 61 4 = some (.l2i)) rfl
theorem x_61_5   : am_E d 61 Q (5, L, st, g) ↔ am_K d 61 Q (am_stI 6 L st g 3) := am_E_istore_n (by decide +kernel : am_dc 61 5 = some (.istore_n 3)) rfl rfl
theorem x_61_6   : am_E d 61 Q (6, L, st, g) ↔ am_K d 61 Q (am_ldL 7 L st g 1) := am_E_lload_n (by decide +kernel : am_dc 61 6 = some (.lload_n 1)) rfl rfl
theorem x_61_7   : am_E d 61 Q (7, L, st, g) ↔ am_E d 61 Q (8, L, .long (0) :: st, g) := am_E_lconst (by decide +kernel : am_dc 61 7 = some (.lconst 0)) (by decide) rfl
theorem x_61_8   : am_E d 61 Q (8, L, .long w :: .long u :: st, g) ↔ am_E d 61 Q (9, L, .int (lg_cmp u w) :: st, g) := am_E_lcmp (by decide +kernel : am_dc 61 8 = some (.lcmp)) rfl
theorem x_61_9   : am_E d 61 Q (9, L, .int x :: st, g) ↔ am_E d 61 Q (am_cmp .ge x 0 19 12, L, st, g) := am_E_if (by decide +kernel : am_dc 61 9 = some (.ifCond .ge (10))) rfl rfl
theorem x_61_12   : am_E d 61 Q (12, L, st, g) ↔ am_K d 61 Q (am_ldA 13 L st g 0) := am_E_aload_n (by decide +kernel : am_dc 61 12 = some (.aload_n 0)) rfl rfl
theorem x_61_13   : am_E d 61 Q (13, L, st, g) ↔ am_E d 61 Q (15, L, .int (45) :: st, g) := am_E_bipush (by decide +kernel : am_dc 61 13 = some (.bipush (45))) (by decide) rfl
theorem x_61_15  : am_E d 61 Q (15, L, st, g) ↔ am_K d 61 Q (am_S 61 (.invokevirtual 75) 15 L st g) := am_E_x (by decide +kernel : am_dc 61 15 = some (.invokevirtual 75))
theorem x_61_18   : am_E d 61 Q (18, L, v :: st, g) ↔ if v.category = 1 then am_E d 61 Q (19, L, st, g) else False := am_E_pop (by decide +kernel : am_dc 61 18 = some (.pop)) rfl
theorem x_61_19   : am_E d 61 Q (19, L, st, g) ↔ am_K d 61 Q (am_ldA 20 L st g 0) := am_E_aload_n (by decide +kernel : am_dc 61 19 = some (.aload_n 0)) rfl rfl
theorem x_61_20   : am_E d 61 Q (20, L, st, g) ↔ am_K d 61 Q (am_ldI 21 L st g 3) := am_E_iload_n (by decide +kernel : am_dc 61 20 = some (.iload_n 3)) rfl rfl
theorem x_61_21   : am_E d 61 Q (21, L, st, g) ↔ am_E d 61 Q (24, L, .int (1000) :: st, g) := am_E_sipush (by decide +kernel : am_dc 61 21 = some (.sipush (1000))) (by decide) rfl
theorem x_61_24   : am_E d 61 Q (24, L, .int y :: .int x :: st, g) ↔ if y = 0 then False else am_E d 61 Q (25, L, .int (x / y) :: st, g) := am_E_idiv (by decide +kernel : am_dc 61 24 = some (.idiv)) rfl
theorem x_61_25  : am_E d 61 Q (25, L, st, g) ↔ am_K d 61 Q (am_S 61 (.invokevirtual 78) 25 L st g) := am_E_x (by decide +kernel : am_dc 61 25 = some (.invokevirtual 78))
theorem x_61_28   : am_E d 61 Q (28, L, v :: st, g) ↔ if v.category = 1 then am_E d 61 Q (29, L, st, g) else False := am_E_pop (by decide +kernel : am_dc 61 28 = some (.pop)) rfl
theorem x_61_29   : am_E d 61 Q (29, L, st, g) ↔ am_K d 61 Q (am_ldI 30 L st g 3) := am_E_iload_n (by decide +kernel : am_dc 61 29 = some (.iload_n 3)) rfl rfl
theorem x_61_30   : am_E d 61 Q (30, L, st, g) ↔ am_E d 61 Q (33, L, .int (1000) :: st, g) := am_E_sipush (by decide +kernel : am_dc 61 30 = some (.sipush (1000))) (by decide) rfl
theorem x_61_33   : am_E d 61 Q (33, L, .int y :: .int x :: st, g) ↔ if y = 0 then False else am_E d 61 Q (34, L, .int (x - x / y * y) :: st, g) := am_E_irem (by decide +kernel : am_dc 61 33 = some (.irem)) rfl
theorem x_61_34   : am_E d 61 Q (34, L, st, g) ↔ am_K d 61 Q (am_stI 36 L st g 4) := am_E_istore (by decide +kernel : am_dc 61 34 = some (.istore 4)) rfl
theorem x_61_36   : am_E d 61 Q (36, L, st, g) ↔ am_K d 61 Q (am_ldI 38 L st g 4) := am_E_iload (by decide +kernel : am_dc 61 36 = some (.iload 4)) rfl
theorem x_61_38   : am_E d 61 Q (38, L, .int x :: st, g) ↔ am_E d 61 Q (am_cmp .eq x 0 48 41, L, st, g) := am_E_if (by decide +kernel : am_dc 61 38 = some (.ifCond .eq (10))) rfl rfl
theorem x_61_41   : am_E d 61 Q (41, L, st, g) ↔ am_K d 61 Q (am_ldA 42 L st g 0) := am_E_aload_n (by decide +kernel : am_dc 61 41 = some (.aload_n 0)) rfl rfl
theorem x_61_42   : am_E d 61 Q (42, L, st, g) ↔ am_E d 61 Q (44, L, .int (46) :: st, g) := am_E_bipush (by decide +kernel : am_dc 61 42 = some (.bipush (46))) (by decide) rfl
theorem x_61_44  : am_E d 61 Q (44, L, st, g) ↔ am_K d 61 Q (am_S 61 (.invokevirtual 75) 44 L st g) := am_E_x (by decide +kernel : am_dc 61 44 = some (.invokevirtual 75))
theorem x_61_47   : am_E d 61 Q (47, L, v :: st, g) ↔ if v.category = 1 then am_E d 61 Q (48, L, st, g) else False := am_E_pop (by decide +kernel : am_dc 61 47 = some (.pop)) rfl
theorem x_61_48   : am_E d 61 Q (48, L, st, g) ↔ am_E d 61 Q (50, L, .int (100) :: st, g) := am_E_bipush (by decide +kernel : am_dc 61 48 = some (.bipush (100))) (by decide) rfl
theorem x_61_50   : am_E d 61 Q (50, L, st, g) ↔ am_K d 61 Q (am_stI 52 L st g 5) := am_E_istore (by decide +kernel : am_dc 61 50 = some (.istore 5)) rfl
theorem x_61_52   : am_E d 61 Q (52, L, st, g) ↔ am_K d 61 Q (am_ldI 54 L st g 5) := am_E_iload (by decide +kernel : am_dc 61 52 = some (.iload 5)) rfl
theorem x_61_54   : am_E d 61 Q (54, L, .int x :: st, g) ↔ am_E d 61 Q (am_cmp .le x 0 89 57, L, st, g) := am_E_if (by decide +kernel : am_dc 61 54 = some (.ifCond .le (35))) rfl rfl
theorem x_61_57   : am_E d 61 Q (57, L, st, g) ↔ am_K d 61 Q (am_ldI 59 L st g 4) := am_E_iload (by decide +kernel : am_dc 61 57 = some (.iload 4)) rfl
theorem x_61_59   : am_E d 61 Q (59, L, .int x :: st, g) ↔ am_E d 61 Q (am_cmp .eq x 0 89 62, L, st, g) := am_E_if (by decide +kernel : am_dc 61 59 = some (.ifCond .eq (30))) rfl rfl
theorem x_61_62   : am_E d 61 Q (62, L, st, g) ↔ am_K d 61 Q (am_ldA 63 L st g 0) := am_E_aload_n (by decide +kernel : am_dc 61 62 = some (.aload_n 0)) rfl rfl
theorem x_61_63   : am_E d 61 Q (63, L, st, g) ↔ am_K d 61 Q (am_ldI 65 L st g 4) := am_E_iload (by decide +kernel : am_dc 61 63 = some (.iload 4)) rfl
theorem x_61_65   : am_E d 61 Q (65, L, st, g) ↔ am_K d 61 Q (am_ldI 67 L st g 5) := am_E_iload (by decide +kernel : am_dc 61 65 = some (.iload 5)) rfl
theorem x_61_67   : am_E d 61 Q (67, L, .int y :: .int x :: st, g) ↔ if y = 0 then False else am_E d 61 Q (68, L, .int (x / y) :: st, g) := am_E_idiv (by decide +kernel : am_dc 61 67 = some (.idiv)) rfl
theorem x_61_68  : am_E d 61 Q (68, L, st, g) ↔ am_K d 61 Q (am_S 61 (.invokevirtual 78) 68 L st g) := am_E_x (by decide +kernel : am_dc 61 68 = some (.invokevirtual 78))
theorem x_61_71   : am_E d 61 Q (71, L, v :: st, g) ↔ if v.category = 1 then am_E d 61 Q (72, L, st, g) else False := am_E_pop (by decide +kernel : am_dc 61 71 = some (.pop)) rfl
theorem x_61_72   : am_E d 61 Q (72, L, st, g) ↔ am_K d 61 Q (am_ldI 74 L st g 4) := am_E_iload (by decide +kernel : am_dc 61 72 = some (.iload 4)) rfl
theorem x_61_74   : am_E d 61 Q (74, L, st, g) ↔ am_K d 61 Q (am_ldI 76 L st g 5) := am_E_iload (by decide +kernel : am_dc 61 74 = some (.iload 5)) rfl
theorem x_61_76   : am_E d 61 Q (76, L, .int y :: .int x :: st, g) ↔ if y = 0 then False else am_E d 61 Q (77, L, .int (x - x / y * y) :: st, g) := am_E_irem (by decide +kernel : am_dc 61 76 = some (.irem)) rfl
theorem x_61_77   : am_E d 61 Q (77, L, st, g) ↔ am_K d 61 Q (am_stI 79 L st g 4) := am_E_istore (by decide +kernel : am_dc 61 77 = some (.istore 4)) rfl
theorem x_61_79   : am_E d 61 Q (79, L, st, g) ↔ am_K d 61 Q (am_ldI 81 L st g 5) := am_E_iload (by decide +kernel : am_dc 61 79 = some (.iload 5)) rfl
theorem x_61_81   : am_E d 61 Q (81, L, st, g) ↔ am_E d 61 Q (83, L, .int (10) :: st, g) := am_E_bipush (by decide +kernel : am_dc 61 81 = some (.bipush (10))) (by decide) rfl
theorem x_61_83   : am_E d 61 Q (83, L, .int y :: .int x :: st, g) ↔ if y = 0 then False else am_E d 61 Q (84, L, .int (x / y) :: st, g) := am_E_idiv (by decide +kernel : am_dc 61 83 = some (.idiv)) rfl
theorem x_61_84   : am_E d 61 Q (84, L, st, g) ↔ am_K d 61 Q (am_stI 86 L st g 5) := am_E_istore (by decide +kernel : am_dc 61 84 = some (.istore 5)) rfl
theorem x_61_86   : am_E d 61 Q (86, L, st, g) ↔ am_E d 61 Q (52, L, st, g) := am_E_gt (by decide +kernel : am_dc 61 86 = some (.goto (-34))) rfl rfl
theorem x_61_89  : am_E d 61 Q (89, L, [], g) ↔ Q (.inl none) g := am_E_return (by decide +kernel : am_dc 61 89 = some (.return_)) (by decide +kernel)
theorem v_61_51 : am_iv 61 51 = some (0, 267, 1) := by decide +kernel
theorem v_61_75 : am_iv 61 75 = some (1, 282, 2) := by decide +kernel
theorem v_61_78 : am_iv 61 78 = some (1, 283, 2) := by decide +kernel
theorem t_61 : am_t 61 = none := by decide +kernel
theorem h_61 : am_h 61 = [] := by decide +kernel
theorem m_61 : am_m 61 = 6 := by decide +kernel
theorem x_62_0   : am_E d 62 Q (0, L, st, g) ↔ am_K d 62 Q (am_ldA 1 L st g 0) := am_E_aload_n (by decide +kernel : am_dc 62 0 = some (.aload_n 0)) rfl rfl
theorem x_62_1  : am_E d 62 Q (1, L, st, g) ↔ am_K d 62 Q (am_S 62 (.invokespecial 5) 1 L st g) := am_E_x (by decide +kernel : am_dc 62 1 = some (.invokespecial 5))
theorem x_62_4   : am_E d 62 Q (4, L, st, g) ↔ am_K d 62 Q (am_ldA 5 L st g 0) := am_E_aload_n (by decide +kernel : am_dc 62 4 = some (.aload_n 0)) rfl rfl
theorem x_62_5   : am_E d 62 Q (5, L, st, g) ↔ am_E d 62 Q (8, L, .int (216) :: st, g) := am_E_sipush (by decide +kernel : am_dc 62 5 = some (.sipush (216))) (by decide) rfl
theorem x_62_8  : am_E d 62 Q (8, L, st, g) ↔ am_K d 62 Q (am_S 62 (.newarray .int) 8 L st g) := am_E_x (by decide +kernel : am_dc 62 8 = some (.newarray .int))
theorem x_62_10   (hok : (am_ok (am_ft 1 3).1 v && (!(am_ft 1 3).2 || (am_ini 62 && am_co 1 == am_o 62)) && decide (1 < 13)) = true) : am_E d 62 Q (10, L, v :: .ref a :: st, g) ↔ am_kg d 62 Q 13 L st (am_pf g a 1 3 v) := am_E_putfield (by decide +kernel : am_dc 62 10 = some (.putfield 11)) (by decide +kernel) rfl hok
theorem x_62_13   : am_E d 62 Q (13, L, st, g) ↔ am_K d 62 Q (am_ldA 14 L st g 0) := am_E_aload_n (by decide +kernel : am_dc 62 13 = some (.aload_n 0)) rfl rfl
theorem x_62_14   : am_E d 62 Q (14, L, st, g) ↔ am_E d 62 Q (17, L, .int (200) :: st, g) := am_E_sipush (by decide +kernel : am_dc 62 14 = some (.sipush (200))) (by decide) rfl
theorem x_62_17  : am_E d 62 Q (17, L, st, g) ↔ am_K d 62 Q (am_S 62 (.newarray .long) 17 L st g) := am_E_x (by decide +kernel : am_dc 62 17 = some (.newarray .long))
theorem x_62_19   (hok : (am_ok (am_ft 1 4).1 v && (!(am_ft 1 4).2 || (am_ini 62 && am_co 1 == am_o 62)) && decide (1 < 13)) = true) : am_E d 62 Q (19, L, v :: .ref a :: st, g) ↔ am_kg d 62 Q 22 L st (am_pf g a 1 4 v) := am_E_putfield (by decide +kernel : am_dc 62 19 = some (.putfield 15)) (by decide +kernel) rfl hok
theorem x_62_22   : am_E d 62 Q (22, L, st, g) ↔ am_K d 62 Q (am_ldA 23 L st g 0) := am_E_aload_n (by decide +kernel : am_dc 62 22 = some (.aload_n 0)) rfl rfl
theorem x_62_23   : am_E d 62 Q (23, L, st, g) ↔ am_E d 62 Q (26, L, .int (300) :: st, g) := am_E_sipush (by decide +kernel : am_dc 62 23 = some (.sipush (300))) (by decide) rfl
theorem x_62_26   (hok : (am_ok (am_ft 1 8).1 v && (!(am_ft 1 8).2 || (am_ini 62 && am_co 1 == am_o 62)) && decide (1 < 13)) = true) : am_E d 62 Q (26, L, v :: .ref a :: st, g) ↔ am_kg d 62 Q 29 L st (am_pf g a 1 8 v) := am_E_putfield (by decide +kernel : am_dc 62 26 = some (.putfield 19)) (by decide +kernel) rfl hok
theorem x_62_29   : am_E d 62 Q (29, L, st, g) ↔ am_K d 62 Q (am_ldA 30 L st g 0) := am_E_aload_n (by decide +kernel : am_dc 62 29 = some (.aload_n 0)) rfl rfl
theorem x_62_30   : am_E d 62 Q (30, L, st, g) ↔ am_K d 62 Q (am_ldA 31 L st g 1) := am_E_aload_n (by decide +kernel : am_dc 62 30 = some (.aload_n 1)) rfl rfl
theorem x_62_31   (hok : (am_ok (am_ft 1 0).1 v && (!(am_ft 1 0).2 || (am_ini 62 && am_co 1 == am_o 62)) && decide (1 < 13)) = true) : am_E d 62 Q (31, L, v :: .ref a :: st, g) ↔ am_kg d 62 Q 34 L st (am_pf g a 1 0 v) := am_E_putfield (by decide +kernel : am_dc 62 31 = some (.putfield 23)) (by decide +kernel) rfl hok
theorem x_62_34   : am_E d 62 Q (34, L, st, g) ↔ am_K d 62 Q (am_ldA 35 L st g 0) := am_E_aload_n (by decide +kernel : am_dc 62 34 = some (.aload_n 0)) rfl rfl
theorem x_62_35   : am_E d 62 Q (35, L, st, g) ↔ am_K d 62 Q (am_ldA 36 L st g 2) := am_E_aload_n (by decide +kernel : am_dc 62 35 = some (.aload_n 2)) rfl rfl
theorem x_62_36   (hok : (am_ok (am_ft 1 1).1 v && (!(am_ft 1 1).2 || (am_ini 62 && am_co 1 == am_o 62)) && decide (1 < 13)) = true) : am_E d 62 Q (36, L, v :: .ref a :: st, g) ↔ am_kg d 62 Q 39 L st (am_pf g a 1 1 v) := am_E_putfield (by decide +kernel : am_dc 62 36 = some (.putfield 27)) (by decide +kernel) rfl hok
theorem x_62_39   : am_E d 62 Q (39, L, st, g) ↔ am_K d 62 Q (am_ldA 40 L st g 0) := am_E_aload_n (by decide +kernel : am_dc 62 39 = some (.aload_n 0)) rfl rfl
theorem x_62_40   : am_E d 62 Q (40, L, st, g) ↔ am_K d 62 Q (am_ldA 41 L st g 3) := am_E_aload_n (by decide +kernel : am_dc 62 40 = some (.aload_n 3)) rfl rfl
theorem x_62_41   (hok : (am_ok (am_ft 1 2).1 v && (!(am_ft 1 2).2 || (am_ini 62 && am_co 1 == am_o 62)) && decide (1 < 13)) = true) : am_E d 62 Q (41, L, v :: .ref a :: st, g) ↔ am_kg d 62 Q 44 L st (am_pf g a 1 2 v) := am_E_putfield (by decide +kernel : am_dc 62 41 = some (.putfield 31)) (by decide +kernel) rfl hok
theorem x_62_44  : am_E d 62 Q (44, L, [], g) ↔ Q (.inl none) g := am_E_return (by decide +kernel : am_dc 62 44 = some (.return_)) (by decide +kernel)
theorem v_62_5 : am_iv 62 5 = some (3, 0, 1) := by decide +kernel
theorem f_62_11 : am_fl 62 11 = some (1, 3) := by decide +kernel
theorem f_62_15 : am_fl 62 15 = some (1, 4) := by decide +kernel
theorem f_62_19 : am_fl 62 19 = some (1, 8) := by decide +kernel
theorem f_62_23 : am_fl 62 23 = some (1, 0) := by decide +kernel
theorem f_62_27 : am_fl 62 27 = some (1, 1) := by decide +kernel
theorem f_62_31 : am_fl 62 31 = some (1, 2) := by decide +kernel
theorem t_62 : am_t 62 = none := by decide +kernel
theorem h_62 : am_h 62 = [] := by decide +kernel
theorem m_62 : am_m 62 = 4 := by decide +kernel
theorem x_63_0   : am_E d 63 Q (0, L, st, g) ↔ am_K d 63 Q (am_ldA 1 L st g 0) := am_E_aload_n (by decide +kernel : am_dc 63 0 = some (.aload_n 0)) rfl rfl
theorem x_63_1   : am_E d 63 Q (1, L, .ref a :: st, g) ↔ am_kv d 63 Q 4 L st g (am_gf g a 1 0) := am_E_getfield (by decide +kernel : am_dc 63 1 = some (.getfield 23)) (by decide +kernel) rfl
theorem x_63_4   : am_E d 63 Q (4, L, .ref a :: st, g) ↔ am_kv d 63 Q 7 L st g (am_gf g a 8 0) := am_E_getfield (by decide +kernel : am_dc 63 4 = some (.getfield 100)) (by decide +kernel) rfl
theorem x_63_7   : am_E d 63 Q (7, L, st, g) ↔ am_K d 63 Q (am_ldI 8 L st g 2) := am_E_iload_n (by decide +kernel : am_dc 63 7 = some (.iload_n 2)) rfl rfl
theorem x_63_8   : am_E d 63 Q (8, L, .int x :: .ref a :: st, g) ↔ am_kv d 63 Q 9 L st g (am_iat .aaload g a x) := am_E_aaload (by decide +kernel : am_dc 63 8 = some (.aaload)) rfl
theorem x_63_9   : am_E d 63 Q (9, L, st, g) ↔ am_K d 63 Q (am_stA 11 L st g 4) := am_E_astore (by decide +kernel : am_dc 63 9 = some (.astore 4)) rfl
theorem x_63_11   : am_E d 63 Q (11, L, st, g) ↔ am_K d 63 Q (am_ldI 12 L st g 1) := am_E_iload_n (by decide +kernel : am_dc 63 11 = some (.iload_n 1)) rfl rfl
theorem x_63_12   : am_E d 63 Q (12, L, st, g) ↔ am_K d 63 Q (am_ldI 13 L st g 2) := am_E_iload_n (by decide +kernel : am_dc 63 12 = some (.iload_n 2)) rfl rfl
theorem x_63_13  : am_E d 63 Q (13, L, st, g) ↔ am_K d 63 Q (am_S 63 (.invokestatic 104) 13 L st g) := am_E_x (by decide +kernel : am_dc 63 13 = some (.invokestatic 104))
theorem x_63_16   : am_E d 63 Q (16, L, st, g) ↔ am_K d 63 Q (am_stI 18 L st g 5) := am_E_istore (by decide +kernel : am_dc 63 16 = some (.istore 5)) rfl
theorem x_63_18   : am_E d 63 Q (18, L, st, g) ↔ am_E d 63 Q (19, L, .long (0) :: st, g) := am_E_lconst (by decide +kernel : am_dc 63 18 = some (.lconst 0)) (by decide) rfl
theorem x_63_19   : am_E d 63 Q (19, L, st, g) ↔ am_K d 63 Q (am_stL 21 L st g 6) := am_E_lstore (by decide +kernel : am_dc 63 19 = some (.lstore 6)) rfl
theorem x_63_21   : am_E d 63 Q (21, L, st, g) ↔ am_E d 63 Q (22, L, .int (0) :: st, g) := am_E_iconst (by decide +kernel : am_dc 63 21 = some (.iconst (0))) (by decide) rfl
theorem x_63_22   : am_E d 63 Q (22, L, st, g) ↔ am_K d 63 Q (am_stI 24 L st g 8) := am_E_istore (by decide +kernel : am_dc 63 22 = some (.istore 8)) rfl
theorem x_63_24   : am_E d 63 Q (24, L, st, g) ↔ am_E d 63 Q (25, L, .int (0) :: st, g) := am_E_iconst (by decide +kernel : am_dc 63 24 = some (.iconst (0))) (by decide) rfl
theorem x_63_25   : am_E d 63 Q (25, L, st, g) ↔ am_K d 63 Q (am_stI 27 L st g 9) := am_E_istore (by decide +kernel : am_dc 63 25 = some (.istore 9)) rfl
theorem x_63_27   : am_E d 63 Q (27, L, st, g) ↔ am_K d 63 Q (am_ldI 29 L st g 9) := am_E_iload (by decide +kernel : am_dc 63 27 = some (.iload 9)) rfl
theorem x_63_29   : am_E d 63 Q (29, L, st, g) ↔ am_E d 63 Q (31, L, .int (6) :: st, g) := am_E_bipush (by decide +kernel : am_dc 63 29 = some (.bipush (6))) (by decide) rfl
theorem x_63_31   : am_E d 63 Q (31, L, .int y :: .int x :: st, g) ↔ am_E d 63 Q (am_cmp .ge x y 90 34, L, st, g) := am_E_ic (by decide +kernel : am_dc 63 31 = some (.if_icmp .ge (59))) rfl rfl
theorem x_63_34   : am_E d 63 Q (34, L, st, g) ↔ am_K d 63 Q (am_ldA 36 L st g 4) := am_E_aload (by decide +kernel : am_dc 63 34 = some (.aload 4)) rfl
theorem x_63_36   : am_E d 63 Q (36, L, st, g) ↔ am_K d 63 Q (am_ldI 38 L st g 9) := am_E_iload (by decide +kernel : am_dc 63 36 = some (.iload 9)) rfl
theorem x_63_38   : am_E d 63 Q (38, L, st, g) ↔ am_K d 63 Q (am_ldI 40 L st g 5) := am_E_iload (by decide +kernel : am_dc 63 38 = some (.iload 5)) rfl
theorem x_63_40  : am_E d 63 Q (40, L, st, g) ↔ am_K d 63 Q (am_S 63 (.invokevirtual 139) 40 L st g) := am_E_x (by decide +kernel : am_dc 63 40 = some (.invokevirtual 139))
theorem x_63_43   : am_E d 63 Q (43, L, .int x :: st, g) ↔ am_E d 63 Q (am_cmp .eq x 0 84 46, L, st, g) := am_E_if (by decide +kernel : am_dc 63 43 = some (.ifCond .eq (41))) rfl rfl
theorem x_63_46   : am_E d 63 Q (46, L, st, g) ↔ am_K d 63 Q (am_ldA 47 L st g 0) := am_E_aload_n (by decide +kernel : am_dc 63 46 = some (.aload_n 0)) rfl rfl
theorem x_63_47   : am_E d 63 Q (47, L, st, g) ↔ am_K d 63 Q (am_ldI 48 L st g 1) := am_E_iload_n (by decide +kernel : am_dc 63 47 = some (.iload_n 1)) rfl rfl
theorem x_63_48   : am_E d 63 Q (48, L, st, g) ↔ am_K d 63 Q (am_ldI 49 L st g 2) := am_E_iload_n (by decide +kernel : am_dc 63 48 = some (.iload_n 2)) rfl rfl
theorem x_63_49   : am_E d 63 Q (49, L, st, g) ↔ am_K d 63 Q (am_ldI 51 L st g 9) := am_E_iload (by decide +kernel : am_dc 63 49 = some (.iload 9)) rfl
theorem x_63_51  : am_E d 63 Q (51, L, st, g) ↔ am_K d 63 Q (am_S 63 (.invokestatic 121) 51 L st g) := am_E_x (by decide +kernel : am_dc 63 51 = some (.invokestatic 121))
theorem x_63_54   : am_E d 63 Q (54, L, st, g) ↔ am_K d 63 Q (am_ldI 55 L st g 3) := am_E_iload_n (by decide +kernel : am_dc 63 54 = some (.iload_n 3)) rfl rfl
theorem x_63_55   : am_E d 63 Q (55, L, st, g) ↔ am_E d 63 Q (56, L, .int (1) :: st, g) := am_E_iconst (by decide +kernel : am_dc 63 55 = some (.iconst (1))) (by decide) rfl
theorem x_63_56   : am_E d 63 Q (56, L, .int y :: .int x :: st, g) ↔ am_E d 63 Q (57, L, .int (x + y) :: st, g) := am_E_iadd (by decide +kernel : am_dc 63 56 = some (.iadd)) rfl
theorem x_63_57  : am_E d 63 Q (57, L, st, g) ↔ am_K d 63 Q (am_S 63 (.invokevirtual 50) 57 L st g) := am_E_x (by decide +kernel : am_dc 63 57 = some (.invokevirtual 50))
theorem x_63_60   : am_E d 63 Q (60, L, st, g) ↔ am_K d 63 Q (am_stL 62 L st g 10) := am_E_lstore (by decide +kernel : am_dc 63 60 = some (.lstore 10)) rfl
theorem x_63_62   : am_E d 63 Q (62, L, st, g) ↔ am_K d 63 Q (am_ldL 64 L st g 6) := am_E_lload (by decide +kernel : am_dc 63 62 = some (.lload 6)) rfl
theorem x_63_64   : am_E d 63 Q (64, L, st, g) ↔ am_K d 63 Q (am_ldL 66 L st g 10) := am_E_lload (by decide +kernel : am_dc 63 64 = some (.lload 10)) rfl
theorem x_63_66  : am_E d 63 Q (66, L, st, g) ↔ am_K d 63 Q (am_S 63 (.invokestatic 147) 66 L st g) := am_E_x (by decide +kernel : am_dc 63 66 = some (.invokestatic 147))
theorem x_63_69   : am_E d 63 Q (69, L, .long w :: .long u :: st, g) ↔ am_E d 63 Q (70, L, .long (u + w) :: st, g) := am_E_ladd (by decide +kernel : am_dc 63 69 = some (.ladd)) rfl
theorem x_63_70   : am_E d 63 Q (70, L, st, g) ↔ am_K d 63 Q (am_stL 72 L st g 6) := am_E_lstore (by decide +kernel : am_dc 63 70 = some (.lstore 6)) rfl
theorem x_63_72   : am_E d 63 Q (72, L, st, g) ↔ am_K d 63 Q (am_ldI 74 L st g 8) := am_E_iload (by decide +kernel : am_dc 63 72 = some (.iload 8)) rfl
theorem x_63_74   : am_E d 63 Q (74, L, st, g) ↔ am_K d 63 Q (am_ldL 76 L st g 10) := am_E_lload (by decide +kernel : am_dc 63 74 = some (.lload 10)) rfl
theorem x_63_76  : am_E d 63 Q (76, L, st, g) ↔ am_K d 63 Q (am_S 63 (.invokestatic 150) 76 L st g) := am_E_x (by decide +kernel : am_dc 63 76 = some (.invokestatic 150))
theorem x_63_79  : am_E d 63 Q (79, L, st, g) ↔ am_K d 63 Q (am_S 63 (.invokestatic 154) 79 L st g) := am_E_x (by decide +kernel : am_dc 63 79 = some (.invokestatic 154))
theorem x_63_82   : am_E d 63 Q (82, L, st, g) ↔ am_K d 63 Q (am_stI 84 L st g 8) := am_E_istore (by decide +kernel : am_dc 63 82 = some (.istore 8)) rfl
theorem x_63_84   (hk : L.getD 9 none = some (.int x)) (hl : 9 < L.length) : am_E d 63 Q (84, L, st, g) ↔ am_E d 63 Q (87, am_s1 L 9 (.int (x + (1))), st, g) := am_E_iinc (by decide +kernel : am_dc 63 84 = some (.iinc 9 (1))) (by decide) rfl hk hl
theorem x_63_87   : am_E d 63 Q (87, L, st, g) ↔ am_E d 63 Q (27, L, st, g) := am_E_gt (by decide +kernel : am_dc 63 87 = some (.goto (-60))) rfl rfl
theorem x_63_90   : am_E d 63 Q (90, L, st, g) ↔ am_K d 63 Q (am_ldI 92 L st g 8) := am_E_iload (by decide +kernel : am_dc 63 90 = some (.iload 8)) rfl
theorem x_63_92   : am_E d 63 Q (92, L, st, g) ↔ am_E d 63 Q (93, L, .int (1) :: st, g) := am_E_iconst (by decide +kernel : am_dc 63 92 = some (.iconst (1))) (by decide) rfl
theorem x_63_93   : am_E d 63 Q (93, L, .int y :: .int x :: st, g) ↔ am_E d 63 Q (am_cmp .le x y 104 96, L, st, g) := am_E_ic (by decide +kernel : am_dc 63 93 = some (.if_icmp .le (11))) rfl rfl
theorem x_63_96   : am_E d 63 Q (96, L, st, g) ↔ am_K d 63 Q (am_ldI 98 L st g 8) := am_E_iload (by decide +kernel : am_dc 63 96 = some (.iload 8)) rfl
theorem x_63_98  : am_E d 63 Q (98, L, st, g) ↔ am_K d 63 Q (am_S 63 (.invokestatic 57) 98 L st g) := am_E_x (by decide +kernel : am_dc 63 98 = some (.invokestatic 57))
theorem x_63_101   : am_E d 63 Q (101, L, st, g) ↔ am_E d 63 Q (106, L, st, g) := am_E_gt (by decide +kernel : am_dc 63 101 = some (.goto (5))) rfl rfl
theorem x_63_104   : am_E d 63 Q (104, L, st, g) ↔ am_K d 63 Q (am_ldL 106 L st g 6) := am_E_lload (by decide +kernel : am_dc 63 104 = some (.lload 6)) rfl
theorem x_63_106  : am_E d 63 Q (106, L, [.long u], g) ↔ Q (.inl (some (.long u))) g := am_E_lreturn (by decide +kernel : am_dc 63 106 = some (.lreturn)) (by decide +kernel)
theorem f_63_23 : am_fl 63 23 = some (1, 0) := by decide +kernel
theorem f_63_100 : am_fl 63 100 = some (8, 0) := by decide +kernel
theorem v_63_104 : am_iv 63 104 = some (0, 131, 2) := by decide +kernel
theorem v_63_139 : am_iv 63 139 = some (1, 149, 3) := by decide +kernel
theorem v_63_121 : am_iv 63 121 = some (0, 132, 3) := by decide +kernel
theorem v_63_50 : am_iv 63 50 = some (1, 75, 3) := by decide +kernel
theorem v_63_147 : am_iv 63 147 = some (0, 57, 1) := by decide +kernel
theorem v_63_150 : am_iv 63 150 = some (0, 55, 1) := by decide +kernel
theorem v_63_154 : am_iv 63 154 = some (0, 59, 2) := by decide +kernel
theorem v_63_57 : am_iv 63 57 = some (0, 56, 1) := by decide +kernel
theorem t_63 : am_t 63 = some (FieldType.long) := by decide +kernel
theorem h_63 : am_h 63 = [] := by decide +kernel
theorem m_63 : am_m 63 = 12 := by decide +kernel
theorem x_64_0   : am_E d 64 Q (0, L, st, g) ↔ am_K d 64 Q (am_ldA 1 L st g 0) := am_E_aload_n (by decide +kernel : am_dc 64 0 = some (.aload_n 0)) rfl rfl
theorem x_64_1   : am_E d 64 Q (1, L, .ref a :: st, g) ↔ am_kv d 64 Q 4 L st g (am_gf g a 1 3) := am_E_getfield (by decide +kernel : am_dc 64 1 = some (.getfield 11)) (by decide +kernel) rfl
theorem x_64_4   : am_E d 64 Q (4, L, st, g) ↔ am_E d 64 Q (5, L, .int (0) :: st, g) := am_E_iconst (by decide +kernel : am_dc 64 4 = some (.iconst (0))) (by decide) rfl
theorem x_64_5  : am_E d 64 Q (5, L, st, g) ↔ am_K d 64 Q (am_S 64 (.invokestatic 35) 5 L st g) := am_E_x (by decide +kernel : am_dc 64 5 = some (.invokestatic 35))
theorem x_64_8   : am_E d 64 Q (8, L, st, g) ↔ am_K d 64 Q (am_ldA 9 L st g 0) := am_E_aload_n (by decide +kernel : am_dc 64 8 = some (.aload_n 0)) rfl rfl
theorem x_64_9   : am_E d 64 Q (9, L, st, g) ↔ am_E d 64 Q (10, L, .int (0) :: st, g) := am_E_iconst (by decide +kernel : am_dc 64 9 = some (.iconst (0))) (by decide) rfl
theorem x_64_10   (hok : (am_ok (am_ft 1 5).1 v && (!(am_ft 1 5).2 || (am_ini 64 && am_co 1 == am_o 64)) && decide (1 < 13)) = true) : am_E d 64 Q (10, L, v :: .ref a :: st, g) ↔ am_kg d 64 Q 13 L st (am_pf g a 1 5 v) := am_E_putfield (by decide +kernel : am_dc 64 10 = some (.putfield 41)) (by decide +kernel) rfl hok
theorem x_64_13   : am_E d 64 Q (13, L, st, g) ↔ am_K d 64 Q (am_ldA 14 L st g 0) := am_E_aload_n (by decide +kernel : am_dc 64 13 = some (.aload_n 0)) rfl rfl
theorem x_64_14   : am_E d 64 Q (14, L, st, g) ↔ am_E d 64 Q (15, L, .int (0) :: st, g) := am_E_iconst (by decide +kernel : am_dc 64 14 = some (.iconst (0))) (by decide) rfl
theorem x_64_15   (hok : (am_ok (am_ft 1 7).1 v && (!(am_ft 1 7).2 || (am_ini 64 && am_co 1 == am_o 64)) && decide (1 < 13)) = true) : am_E d 64 Q (15, L, v :: .ref a :: st, g) ↔ am_kg d 64 Q 18 L st (am_pf g a 1 7 v) := am_E_putfield (by decide +kernel : am_dc 64 15 = some (.putfield 44)) (by decide +kernel) rfl hok
theorem x_64_18   : am_E d 64 Q (18, L, st, g) ↔ am_K d 64 Q (am_ldA 19 L st g 0) := am_E_aload_n (by decide +kernel : am_dc 64 18 = some (.aload_n 0)) rfl rfl
theorem x_64_19   : am_E d 64 Q (19, L, st, g) ↔ am_K d 64 Q (am_ldI 20 L st g 1) := am_E_iload_n (by decide +kernel : am_dc 64 19 = some (.iload_n 1)) rfl rfl
theorem x_64_20   (hok : (am_ok (am_ft 1 6).1 v && (!(am_ft 1 6).2 || (am_ini 64 && am_co 1 == am_o 64)) && decide (1 < 13)) = true) : am_E d 64 Q (20, L, v :: .ref a :: st, g) ↔ am_kg d 64 Q 23 L st (am_pf g a 1 6 v) := am_E_putfield (by decide +kernel : am_dc 64 20 = some (.putfield 47)) (by decide +kernel) rfl hok
theorem x_64_23   : am_E d 64 Q (23, L, st, g) ↔ am_K d 64 Q (am_ldA 24 L st g 0) := am_E_aload_n (by decide +kernel : am_dc 64 23 = some (.aload_n 0)) rfl rfl
theorem x_64_24   : am_E d 64 Q (24, L, st, g) ↔ am_K d 64 Q (am_ldI 25 L st g 2) := am_E_iload_n (by decide +kernel : am_dc 64 24 = some (.iload_n 2)) rfl rfl
theorem x_64_25   : am_E d 64 Q (25, L, st, g) ↔ am_E d 64 Q (26, L, .int (1) :: st, g) := am_E_iconst (by decide +kernel : am_dc 64 25 = some (.iconst (1))) (by decide) rfl
theorem x_64_26  : am_E d 64 Q (26, L, st, g) ↔ am_K d 64 Q (am_S 64 (.invokevirtual 50) 26 L st g) := am_E_x (by decide +kernel : am_dc 64 26 = some (.invokevirtual 50))
theorem x_64_29   : am_E d 64 Q (29, L, st, g) ↔ am_K d 64 Q (am_stL 30 L st g 3) := am_E_lstore_n (by decide +kernel : am_dc 64 29 = some (.lstore_n 3)) rfl rfl
theorem x_64_30   : am_E d 64 Q (30, L, st, g) ↔ am_K d 64 Q (am_ldA 31 L st g 0) := am_E_aload_n (by decide +kernel : am_dc 64 30 = some (.aload_n 0)) rfl rfl
theorem x_64_31   : am_E d 64 Q (31, L, st, g) ↔ am_K d 64 Q (am_ldA 32 L st g 0) := am_E_aload_n (by decide +kernel : am_dc 64 31 = some (.aload_n 0)) rfl rfl
theorem x_64_32   : am_E d 64 Q (32, L, .ref a :: st, g) ↔ am_kv d 64 Q 35 L st g (am_gf g a 1 7) := am_E_getfield (by decide +kernel : am_dc 64 32 = some (.getfield 44)) (by decide +kernel) rfl
theorem x_64_35   (hok : (am_ok (am_ft 1 9).1 v && (!(am_ft 1 9).2 || (am_ini 64 && am_co 1 == am_o 64)) && decide (1 < 13)) = true) : am_E d 64 Q (35, L, v :: .ref a :: st, g) ↔ am_kg d 64 Q 38 L st (am_pf g a 1 9 v) := am_E_putfield (by decide +kernel : am_dc 64 35 = some (.putfield 54)) (by decide +kernel) rfl hok
theorem x_64_38   : am_E d 64 Q (38, L, st, g) ↔ am_K d 64 Q (am_ldL 39 L st g 3) := am_E_lload_n (by decide +kernel : am_dc 64 38 = some (.lload_n 3)) rfl rfl
theorem x_64_39  : am_E d 64 Q (39, L, [.long u], g) ↔ Q (.inl (some (.long u))) g := am_E_lreturn (by decide +kernel : am_dc 64 39 = some (.lreturn)) (by decide +kernel)
theorem f_64_11 : am_fl 64 11 = some (1, 3) := by decide +kernel
theorem v_64_35 : am_iv 64 35 = some (0, 311, 2) := by decide +kernel
theorem f_64_41 : am_fl 64 41 = some (1, 5) := by decide +kernel
theorem f_64_44 : am_fl 64 44 = some (1, 7) := by decide +kernel
theorem f_64_47 : am_fl 64 47 = some (1, 6) := by decide +kernel
theorem v_64_50 : am_iv 64 50 = some (1, 75, 3) := by decide +kernel
theorem f_64_54 : am_fl 64 54 = some (1, 9) := by decide +kernel
theorem t_64 : am_t 64 = some (FieldType.long) := by decide +kernel
theorem h_64 : am_h 64 = [] := by decide +kernel
theorem m_64 : am_m 64 = 5 := by decide +kernel
theorem x_65_0   : am_E d 65 Q (0, L, st, g) ↔ am_K d 65 Q (am_ldA 1 L st g 1) := am_E_aload_n (by decide +kernel : am_dc 65 0 = some (.aload_n 1)) rfl rfl
theorem x_65_1   : am_E d 65 Q (1, L, .ref a :: st, g) ↔ am_kv d 65 Q 4 L st g (am_gf g a 6 3) := am_E_getfield (by decide +kernel : am_dc 65 1 = some (.getfield 170)) (by decide +kernel) rfl
theorem x_65_4   : am_E d 65 Q (4, L, st, g) ↔ am_K d 65 Q (am_ldI 5 L st g 2) := am_E_iload_n (by decide +kernel : am_dc 65 4 = some (.iload_n 2)) rfl rfl
theorem x_65_5   : am_E d 65 Q (5, L, .int x :: .ref a :: st, g) ↔ am_kv d 65 Q 6 L st g (am_iat .iaload g a x) := am_E_iaload (by decide +kernel : am_dc 65 5 = some (.iaload)) rfl
theorem x_65_6   : am_E d 65 Q (6, L, st, g) ↔ am_K d 65 Q (am_stI 7 L st g 3) := am_E_istore_n (by decide +kernel : am_dc 65 6 = some (.istore_n 3)) rfl rfl
theorem x_65_7   : am_E d 65 Q (7, L, st, g) ↔ am_K d 65 Q (am_ldA 8 L st g 0) := am_E_aload_n (by decide +kernel : am_dc 65 7 = some (.aload_n 0)) rfl rfl
theorem x_65_8  : am_E d 65 Q (8, L, st, g) ↔ am_K d 65 Q (am_S 65 (.invokevirtual 166) 8 L st g) := am_E_x (by decide +kernel : am_dc 65 8 = some (.invokevirtual 166))
theorem x_65_11   : am_E d 65 Q (11, L, st, g) ↔ am_K d 65 Q (am_stL 13 L st g 4) := am_E_lstore (by decide +kernel : am_dc 65 11 = some (.lstore 4)) rfl
theorem x_65_13   : am_E d 65 Q (13, L, st, g) ↔ am_K d 65 Q (am_ldL 15 L st g 4) := am_E_lload (by decide +kernel : am_dc 65 13 = some (.lload 4)) rfl
theorem x_65_15  : am_E d 65 Q (15, L, st, g) ↔ am_K d 65 Q (am_S 65 (.invokestatic 131) 15 L st g) := am_E_x (by decide +kernel : am_dc 65 15 = some (.invokestatic 131))
theorem x_65_18   : am_E d 65 Q (18, L, .int x :: st, g) ↔ am_E d 65 Q (am_cmp .eq x 0 36 21, L, st, g) := am_E_if (by decide +kernel : am_dc 65 18 = some (.ifCond .eq (18))) rfl rfl
theorem x_65_21   : am_E d 65 Q (21, L, st, g) ↔ am_K d 65 Q (am_ldA 22 L st g 0) := am_E_aload_n (by decide +kernel : am_dc 65 21 = some (.aload_n 0)) rfl rfl
theorem x_65_22   : am_E d 65 Q (22, L, st, g) ↔ am_K d 65 Q (am_ldL 24 L st g 4) := am_E_lload (by decide +kernel : am_dc 65 22 = some (.lload 4)) rfl
theorem x_65_24  : am_E d 65 Q (24, L, st, g) ↔ am_K d 65 Q (am_S 65 (.invokevirtual 176) 24 L st g) := am_E_x (by decide +kernel : am_dc 65 24 = some (.invokevirtual 176))
theorem x_65_27   : am_E d 65 Q (27, L, st, g) ↔ am_K d 65 Q (am_ldA 28 L st g 1) := am_E_aload_n (by decide +kernel : am_dc 65 27 = some (.aload_n 1)) rfl rfl
theorem x_65_28   : am_E d 65 Q (28, L, .ref a :: st, g) ↔ am_kv d 65 Q 31 L st g (am_gf g a 6 3) := am_E_getfield (by decide +kernel : am_dc 65 28 = some (.getfield 170)) (by decide +kernel) rfl
theorem x_65_31   : am_E d 65 Q (31, L, st, g) ↔ am_K d 65 Q (am_ldI 32 L st g 3) := am_E_iload_n (by decide +kernel : am_dc 65 31 = some (.iload_n 3)) rfl rfl
theorem x_65_32   : am_E d 65 Q (32, L, st, g) ↔ am_E d 65 Q (33, L, .int (1) :: st, g) := am_E_iconst (by decide +kernel : am_dc 65 32 = some (.iconst (1))) (by decide) rfl
theorem x_65_33   : am_E d 65 Q (33, L, .int y :: .int x :: st, g) ↔ am_E d 65 Q (34, L, .int (x - y) :: st, g) := am_E_isub (by decide +kernel : am_dc 65 33 = some (.isub)) rfl
theorem x_65_34   : am_E d 65 Q (34, L, .int x :: .ref a :: st, g) ↔ am_kv d 65 Q 35 L st g (am_iat .iaload g a x) := am_E_iaload (by decide +kernel : am_dc 65 34 = some (.iaload)) rfl
theorem x_65_35  : am_E d 65 Q (35, L, [.int x], g) ↔ if am_ok (FieldType.int) (.int x) = true then Q (.inl (some (.int x))) g else False := am_E_ireturn (by decide +kernel : am_dc 65 35 = some (.ireturn)) (by decide +kernel)
theorem x_65_36   : am_E d 65 Q (36, L, st, g) ↔ am_K d 65 Q (am_ldL 38 L st g 4) := am_E_lload (by decide +kernel : am_dc 65 36 = some (.lload 4)) rfl
theorem x_65_38  : am_E d 65 Q (38, L, st, g) ↔ am_K d 65 Q (am_S 65 (.invokestatic 147) 38 L st g) := am_E_x (by decide +kernel : am_dc 65 38 = some (.invokestatic 147))
theorem x_65_41   : am_E d 65 Q (41, L, st, g) ↔ am_E d 65 Q (42, L, .long (0) :: st, g) := am_E_lconst (by decide +kernel : am_dc 65 41 = some (.lconst 0)) (by decide) rfl
theorem x_65_42   : am_E d 65 Q (42, L, .long w :: .long u :: st, g) ↔ am_E d 65 Q (43, L, .int (lg_cmp u w) :: st, g) := am_E_lcmp (by decide +kernel : am_dc 65 42 = some (.lcmp)) rfl
theorem x_65_43   : am_E d 65 Q (43, L, .int x :: st, g) ↔ am_E d 65 Q (am_cmp .le x 0 52 46, L, st, g) := am_E_if (by decide +kernel : am_dc 65 43 = some (.ifCond .le (9))) rfl rfl
theorem x_65_46   : am_E d 65 Q (46, L, st, g) ↔ am_K d 65 Q (am_ldI 47 L st g 2) := am_E_iload_n (by decide +kernel : am_dc 65 46 = some (.iload_n 2)) rfl rfl
theorem x_65_47   : am_E d 65 Q (47, L, st, g) ↔ am_E d 65 Q (48, L, .int (1) :: st, g) := am_E_iconst (by decide +kernel : am_dc 65 47 = some (.iconst (1))) (by decide) rfl
theorem x_65_48   : am_E d 65 Q (48, L, .int y :: .int x :: st, g) ↔ am_E d 65 Q (49, L, .int (x + y) :: st, g) := am_E_iadd (by decide +kernel : am_dc 65 48 = some (.iadd)) rfl
theorem x_65_49   : am_E d 65 Q (49, L, st, g) ↔ am_E d 65 Q (53, L, st, g) := am_E_gt (by decide +kernel : am_dc 65 49 = some (.goto (4))) rfl rfl
theorem x_65_52   : am_E d 65 Q (52, L, st, g) ↔ am_K d 65 Q (am_ldI 53 L st g 3) := am_E_iload_n (by decide +kernel : am_dc 65 52 = some (.iload_n 3)) rfl rfl
theorem x_65_53  : am_E d 65 Q (53, L, [.int x], g) ↔ if am_ok (FieldType.int) (.int x) = true then Q (.inl (some (.int x))) g else False := am_E_ireturn (by decide +kernel : am_dc 65 53 = some (.ireturn)) (by decide +kernel)
theorem f_65_170 : am_fl 65 170 = some (6, 3) := by decide +kernel
theorem v_65_166 : am_iv 65 166 = some (1, 69, 1) := by decide +kernel
theorem v_65_131 : am_iv 65 131 = some (0, 53, 1) := by decide +kernel
theorem v_65_176 : am_iv 65 176 = some (1, 70, 2) := by decide +kernel
theorem v_65_147 : am_iv 65 147 = some (0, 57, 1) := by decide +kernel
theorem t_65 : am_t 65 = some (FieldType.int) := by decide +kernel
theorem h_65 : am_h 65 = [] := by decide +kernel
theorem m_65 : am_m 65 = 6 := by decide +kernel
theorem x_66_0   : am_E d 66 Q (0, L, st, g) ↔ am_E d 66 Q (1, L, .int (0) :: st, g) := am_E_iconst (by decide +kernel : am_dc 66 0 = some (.iconst (0))) (by decide) rfl
theorem x_66_1   : am_E d 66 Q (1, L, st, g) ↔ am_K d 66 Q (am_stI 3 L st g 4) := am_E_istore (by decide +kernel : am_dc 66 1 = some (.istore 4)) rfl
theorem x_66_3   : am_E d 66 Q (3, L, st, g) ↔ am_E d 66 Q (4, L, .int (0) :: st, g) := am_E_iconst (by decide +kernel : am_dc 66 3 = some (.iconst (0))) (by decide) rfl
theorem x_66_4   : am_E d 66 Q (4, L, st, g) ↔ am_K d 66 Q (am_stI 6 L st g 5) := am_E_istore (by decide +kernel : am_dc 66 4 = some (.istore 5)) rfl
theorem x_66_6   : am_E d 66 Q (6, L, st, g) ↔ am_K d 66 Q (am_ldI 8 L st g 5) := am_E_iload (by decide +kernel : am_dc 66 6 = some (.iload 5)) rfl
theorem x_66_8   : am_E d 66 Q (8, L, st, g) ↔ am_E d 66 Q (10, L, .int (24) :: st, g) := am_E_bipush (by decide +kernel : am_dc 66 8 = some (.bipush (24))) (by decide) rfl
theorem x_66_10   : am_E d 66 Q (10, L, .int y :: .int x :: st, g) ↔ am_E d 66 Q (am_cmp .ge x y 39 13, L, st, g) := am_E_ic (by decide +kernel : am_dc 66 10 = some (.if_icmp .ge (29))) rfl rfl
theorem x_66_13   : am_E d 66 Q (13, L, st, g) ↔ am_K d 66 Q (am_ldI 15 L st g 4) := am_E_iload (by decide +kernel : am_dc 66 13 = some (.iload 4)) rfl
theorem x_66_15   : am_E d 66 Q (15, L, st, g) ↔ am_K d 66 Q (am_ldA 16 L st g 1) := am_E_aload_n (by decide +kernel : am_dc 66 15 = some (.aload_n 1)) rfl rfl
theorem x_66_16   : am_E d 66 Q (16, L, .ref a :: st, g) ↔ am_kv d 66 Q 19 L st g (am_gf g a 6 4) := am_E_getfield (by decide +kernel : am_dc 66 16 = some (.getfield 159)) (by decide +kernel) rfl
theorem x_66_19   : am_E d 66 Q (19, L, .int y :: .int x :: st, g) ↔ am_E d 66 Q (am_cmp .ge x y 39 22, L, st, g) := am_E_ic (by decide +kernel : am_dc 66 19 = some (.if_icmp .ge (20))) rfl rfl
theorem x_66_22   : am_E d 66 Q (22, L, st, g) ↔ am_K d 66 Q (am_ldA 23 L st g 0) := am_E_aload_n (by decide +kernel : am_dc 66 22 = some (.aload_n 0)) rfl rfl
theorem x_66_23   : am_E d 66 Q (23, L, st, g) ↔ am_K d 66 Q (am_ldA 24 L st g 1) := am_E_aload_n (by decide +kernel : am_dc 66 23 = some (.aload_n 1)) rfl rfl
theorem x_66_24   : am_E d 66 Q (24, L, st, g) ↔ am_K d 66 Q (am_ldI 26 L st g 4) := am_E_iload (by decide +kernel : am_dc 66 24 = some (.iload 4)) rfl
theorem x_66_26   : am_E d 66 Q (26, L, st, g) ↔ am_K d 66 Q (am_ldI 27 L st g 2) := am_E_iload_n (by decide +kernel : am_dc 66 26 = some (.iload_n 2)) rfl rfl
theorem x_66_27   : am_E d 66 Q (27, L, st, g) ↔ am_K d 66 Q (am_ldI 28 L st g 3) := am_E_iload_n (by decide +kernel : am_dc 66 27 = some (.iload_n 3)) rfl rfl
theorem x_66_28  : am_E d 66 Q (28, L, st, g) ↔ am_K d 66 Q (am_S 66 (.invokevirtual 162) 28 L st g) := am_E_x (by decide +kernel : am_dc 66 28 = some (.invokevirtual 162))
theorem x_66_31   : am_E d 66 Q (31, L, st, g) ↔ am_K d 66 Q (am_stI 33 L st g 4) := am_E_istore (by decide +kernel : am_dc 66 31 = some (.istore 4)) rfl
theorem x_66_33   (hk : L.getD 5 none = some (.int x)) (hl : 5 < L.length) : am_E d 66 Q (33, L, st, g) ↔ am_E d 66 Q (36, am_s1 L 5 (.int (x + (1))), st, g) := am_E_iinc (by decide +kernel : am_dc 66 33 = some (.iinc 5 (1))) (by decide) rfl hk hl
theorem x_66_36   : am_E d 66 Q (36, L, st, g) ↔ am_E d 66 Q (6, L, st, g) := am_E_gt (by decide +kernel : am_dc 66 36 = some (.goto (-30))) rfl rfl
theorem x_66_39   : am_E d 66 Q (39, L, st, g) ↔ am_K d 66 Q (am_ldA 40 L st g 0) := am_E_aload_n (by decide +kernel : am_dc 66 39 = some (.aload_n 0)) rfl rfl
theorem x_66_40  : am_E d 66 Q (40, L, st, g) ↔ am_K d 66 Q (am_S 66 (.invokevirtual 166) 40 L st g) := am_E_x (by decide +kernel : am_dc 66 40 = some (.invokevirtual 166))
theorem x_66_43  : am_E d 66 Q (43, L, [.long u], g) ↔ Q (.inl (some (.long u))) g := am_E_lreturn (by decide +kernel : am_dc 66 43 = some (.lreturn)) (by decide +kernel)
theorem f_66_159 : am_fl 66 159 = some (6, 4) := by decide +kernel
theorem v_66_162 : am_iv 66 162 = some (1, 68, 5) := by decide +kernel
theorem v_66_166 : am_iv 66 166 = some (1, 69, 1) := by decide +kernel
theorem t_66 : am_t 66 = some (FieldType.long) := by decide +kernel
theorem h_66 : am_h 66 = [] := by decide +kernel
theorem m_66 : am_m 66 = 6 := by decide +kernel
theorem x_67_0   : am_E d 67 Q (0, L, st, g) ↔ am_K d 67 Q (am_ldA 1 L st g 0) := am_E_aload_n (by decide +kernel : am_dc 67 0 = some (.aload_n 0)) rfl rfl
theorem x_67_1   : am_E d 67 Q (1, L, st, g) ↔ am_K d 67 Q (am_ldI 2 L st g 1) := am_E_iload_n (by decide +kernel : am_dc 67 1 = some (.iload_n 1)) rfl rfl
theorem x_67_2   : am_E d 67 Q (2, L, st, g) ↔ am_K d 67 Q (am_ldI 3 L st g 2) := am_E_iload_n (by decide +kernel : am_dc 67 2 = some (.iload_n 2)) rfl rfl
theorem x_67_3   : am_E d 67 Q (3, L, st, g) ↔ am_K d 67 Q (am_ldI 4 L st g 3) := am_E_iload_n (by decide +kernel : am_dc 67 3 = some (.iload_n 3)) rfl rfl
theorem x_67_4  : am_E d 67 Q (4, L, st, g) ↔ am_K d 67 Q (am_S 67 (.invokevirtual 128) 4 L st g) := am_E_x (by decide +kernel : am_dc 67 4 = some (.invokevirtual 128))
theorem x_67_7   : am_E d 67 Q (7, L, st, g) ↔ am_K d 67 Q (am_stL 9 L st g 4) := am_E_lstore (by decide +kernel : am_dc 67 7 = some (.lstore 4)) rfl
theorem x_67_9   : am_E d 67 Q (9, L, st, g) ↔ am_K d 67 Q (am_ldL 11 L st g 4) := am_E_lload (by decide +kernel : am_dc 67 9 = some (.lload 4)) rfl
theorem x_67_11  : am_E d 67 Q (11, L, st, g) ↔ am_K d 67 Q (am_S 67 (.invokestatic 131) 11 L st g) := am_E_x (by decide +kernel : am_dc 67 11 = some (.invokestatic 131))
theorem x_67_14   : am_E d 67 Q (14, L, .int x :: st, g) ↔ am_E d 67 Q (am_cmp .eq x 0 20 17, L, st, g) := am_E_if (by decide +kernel : am_dc 67 14 = some (.ifCond .eq (6))) rfl rfl
theorem x_67_17   : am_E d 67 Q (17, L, st, g) ↔ am_K d 67 Q (am_ldL 19 L st g 4) := am_E_lload (by decide +kernel : am_dc 67 17 = some (.lload 4)) rfl
theorem x_67_19  : am_E d 67 Q (19, L, [.long u], g) ↔ Q (.inl (some (.long u))) g := am_E_lreturn (by decide +kernel : am_dc 67 19 = some (.lreturn)) (by decide +kernel)
theorem x_67_20   : am_E d 67 Q (20, L, st, g) ↔ am_K d 67 Q (am_ldA 21 L st g 0) := am_E_aload_n (by decide +kernel : am_dc 67 20 = some (.aload_n 0)) rfl rfl
theorem x_67_21   : am_E d 67 Q (21, L, .ref a :: st, g) ↔ am_kv d 67 Q 24 L st g (am_gf g a 1 0) := am_E_getfield (by decide +kernel : am_dc 67 21 = some (.getfield 23)) (by decide +kernel) rfl
theorem x_67_24   : am_E d 67 Q (24, L, .ref a :: st, g) ↔ am_kv d 67 Q 27 L st g (am_gf g a 8 0) := am_E_getfield (by decide +kernel : am_dc 67 24 = some (.getfield 100)) (by decide +kernel) rfl
theorem x_67_27   : am_E d 67 Q (27, L, st, g) ↔ am_K d 67 Q (am_ldI 28 L st g 2) := am_E_iload_n (by decide +kernel : am_dc 67 27 = some (.iload_n 2)) rfl rfl
theorem x_67_28   : am_E d 67 Q (28, L, .int x :: .ref a :: st, g) ↔ am_kv d 67 Q 29 L st g (am_iat .aaload g a x) := am_E_aaload (by decide +kernel : am_dc 67 28 = some (.aaload)) rfl
theorem x_67_29   : am_E d 67 Q (29, L, st, g) ↔ am_K d 67 Q (am_stA 31 L st g 6) := am_E_astore (by decide +kernel : am_dc 67 29 = some (.astore 6)) rfl
theorem x_67_31   : am_E d 67 Q (31, L, st, g) ↔ am_K d 67 Q (am_ldI 32 L st g 1) := am_E_iload_n (by decide +kernel : am_dc 67 31 = some (.iload_n 1)) rfl rfl
theorem x_67_32   : am_E d 67 Q (32, L, st, g) ↔ am_K d 67 Q (am_ldI 33 L st g 2) := am_E_iload_n (by decide +kernel : am_dc 67 32 = some (.iload_n 2)) rfl rfl
theorem x_67_33  : am_E d 67 Q (33, L, st, g) ↔ am_K d 67 Q (am_S 67 (.invokestatic 104) 33 L st g) := am_E_x (by decide +kernel : am_dc 67 33 = some (.invokestatic 104))
theorem x_67_36   : am_E d 67 Q (36, L, st, g) ↔ am_K d 67 Q (am_stI 38 L st g 7) := am_E_istore (by decide +kernel : am_dc 67 36 = some (.istore 7)) rfl
theorem x_67_38   : am_E d 67 Q (38, L, st, g) ↔ am_E d 67 Q (39, L, .int (0) :: st, g) := am_E_iconst (by decide +kernel : am_dc 67 38 = some (.iconst (0))) (by decide) rfl
theorem x_67_39   : am_E d 67 Q (39, L, st, g) ↔ am_K d 67 Q (am_stI 41 L st g 8) := am_E_istore (by decide +kernel : am_dc 67 39 = some (.istore 8)) rfl
theorem x_67_41   : am_E d 67 Q (41, L, st, g) ↔ am_E d 67 Q (42, L, .int (0) :: st, g) := am_E_iconst (by decide +kernel : am_dc 67 41 = some (.iconst (0))) (by decide) rfl
theorem x_67_42   : am_E d 67 Q (42, L, st, g) ↔ am_K d 67 Q (am_stI 44 L st g 9) := am_E_istore (by decide +kernel : am_dc 67 42 = some (.istore 9)) rfl
theorem x_67_44   : am_E d 67 Q (44, L, st, g) ↔ am_K d 67 Q (am_ldI 46 L st g 9) := am_E_iload (by decide +kernel : am_dc 67 44 = some (.iload 9)) rfl
theorem x_67_46   : am_E d 67 Q (46, L, st, g) ↔ am_E d 67 Q (48, L, .int (6) :: st, g) := am_E_bipush (by decide +kernel : am_dc 67 46 = some (.bipush (6))) (by decide) rfl
theorem x_67_48   : am_E d 67 Q (48, L, .int y :: .int x :: st, g) ↔ am_E d 67 Q (am_cmp .ge x y 79 51, L, st, g) := am_E_ic (by decide +kernel : am_dc 67 48 = some (.if_icmp .ge (31))) rfl rfl
theorem x_67_51   : am_E d 67 Q (51, L, st, g) ↔ am_K d 67 Q (am_ldI 53 L st g 8) := am_E_iload (by decide +kernel : am_dc 67 51 = some (.iload 8)) rfl
theorem x_67_53   : am_E d 67 Q (53, L, st, g) ↔ am_K d 67 Q (am_ldA 55 L st g 6) := am_E_aload (by decide +kernel : am_dc 67 53 = some (.aload 6)) rfl
theorem x_67_55   : am_E d 67 Q (55, L, st, g) ↔ am_K d 67 Q (am_ldI 57 L st g 9) := am_E_iload (by decide +kernel : am_dc 67 55 = some (.iload 9)) rfl
theorem x_67_57   : am_E d 67 Q (57, L, st, g) ↔ am_K d 67 Q (am_ldI 59 L st g 7) := am_E_iload (by decide +kernel : am_dc 67 57 = some (.iload 7)) rfl
theorem x_67_59  : am_E d 67 Q (59, L, st, g) ↔ am_K d 67 Q (am_S 67 (.invokevirtual 139) 59 L st g) := am_E_x (by decide +kernel : am_dc 67 59 = some (.invokevirtual 139))
theorem x_67_62   : am_E d 67 Q (62, L, .int x :: st, g) ↔ am_E d 67 Q (am_cmp .eq x 0 69 65, L, st, g) := am_E_if (by decide +kernel : am_dc 67 62 = some (.ifCond .eq (7))) rfl rfl
theorem x_67_65   : am_E d 67 Q (65, L, st, g) ↔ am_E d 67 Q (66, L, .int (1) :: st, g) := am_E_iconst (by decide +kernel : am_dc 67 65 = some (.iconst (1))) (by decide) rfl
theorem x_67_66   : am_E d 67 Q (66, L, st, g) ↔ am_E d 67 Q (70, L, st, g) := am_E_gt (by decide +kernel : am_dc 67 66 = some (.goto (4))) rfl rfl
theorem x_67_69   : am_E d 67 Q (69, L, st, g) ↔ am_E d 67 Q (70, L, .int (0) :: st, g) := am_E_iconst (by decide +kernel : am_dc 67 69 = some (.iconst (0))) (by decide) rfl
theorem x_67_70   : am_E d 67 Q (70, L, .int y :: .int x :: st, g) ↔ am_E d 67 Q (71, L, .int (x + y) :: st, g) := am_E_iadd (by decide +kernel : am_dc 67 70 = some (.iadd)) rfl
theorem x_67_71   : am_E d 67 Q (71, L, st, g) ↔ am_K d 67 Q (am_stI 73 L st g 8) := am_E_istore (by decide +kernel : am_dc 67 71 = some (.istore 8)) rfl
theorem x_67_73   (hk : L.getD 9 none = some (.int x)) (hl : 9 < L.length) : am_E d 67 Q (73, L, st, g) ↔ am_E d 67 Q (76, am_s1 L 9 (.int (x + (1))), st, g) := am_E_iinc (by decide +kernel : am_dc 67 73 = some (.iinc 9 (1))) (by decide) rfl hk hl
theorem x_67_76   : am_E d 67 Q (76, L, st, g) ↔ am_E d 67 Q (44, L, st, g) := am_E_gt (by decide +kernel : am_dc 67 76 = some (.goto (-32))) rfl rfl
theorem x_67_79   : am_E d 67 Q (79, L, st, g) ↔ am_K d 67 Q (am_ldL 81 L st g 4) := am_E_lload (by decide +kernel : am_dc 67 79 = some (.lload 4)) rfl
theorem x_67_81   : am_E d 67 Q (81, L, st, g) ↔ am_K d 67 Q (am_ldI 83 L st g 8) := am_E_iload (by decide +kernel : am_dc 67 81 = some (.iload 8)) rfl
theorem x_67_83   : am_E d 67 Q (83, L, .int x :: st, g) ↔ am_E d 67 Q (84, L, .long x.toInt64 :: st, g) := am_E_i2l (by decide +kernel : am_dc 67 83 = some (.i2l)) rfl
theorem x_67_84  : am_E d 67 Q (84, L, st, g) ↔ am_K d 67 Q (am_S 67 (.invokestatic 143) 84 L st g) := am_E_x (by decide +kernel : am_dc 67 84 = some (.invokestatic 143))
theorem x_67_87  : am_E d 67 Q (87, L, st, g) ↔ am_K d 67 Q (am_S 67 (.invokestatic 135) 87 L st g) := am_E_x (by decide +kernel : am_dc 67 87 = some (.invokestatic 135))
theorem x_67_90  : am_E d 67 Q (90, L, [.long u], g) ↔ Q (.inl (some (.long u))) g := am_E_lreturn (by decide +kernel : am_dc 67 90 = some (.lreturn)) (by decide +kernel)
theorem v_67_128 : am_iv 67 128 = some (1, 63, 4) := by decide +kernel
theorem v_67_131 : am_iv 67 131 = some (0, 53, 1) := by decide +kernel
theorem f_67_23 : am_fl 67 23 = some (1, 0) := by decide +kernel
theorem f_67_100 : am_fl 67 100 = some (8, 0) := by decide +kernel
theorem v_67_104 : am_iv 67 104 = some (0, 131, 2) := by decide +kernel
theorem v_67_139 : am_iv 67 139 = some (1, 149, 3) := by decide +kernel
theorem v_67_143 : am_iv 67 143 = some (0, 58, 2) := by decide +kernel
theorem v_67_135 : am_iv 67 135 = some (0, 52, 1) := by decide +kernel
theorem t_67 : am_t 67 = some (FieldType.long) := by decide +kernel
theorem h_67 : am_h 67 = [] := by decide +kernel
theorem m_67 : am_m 67 = 10 := by decide +kernel
theorem x_68_0   : am_E d 68 Q (0, L, st, g) ↔ am_K d 68 Q (am_ldA 1 L st g 1) := am_E_aload_n (by decide +kernel : am_dc 68 0 = some (.aload_n 1)) rfl rfl
theorem x_68_1   : am_E d 68 Q (1, L, .ref a :: st, g) ↔ am_kv d 68 Q 4 L st g (am_gf g a 6 3) := am_E_getfield (by decide +kernel : am_dc 68 1 = some (.getfield 170)) (by decide +kernel) rfl
theorem x_68_4   : am_E d 68 Q (4, L, st, g) ↔ am_K d 68 Q (am_ldI 5 L st g 2) := am_E_iload_n (by decide +kernel : am_dc 68 4 = some (.iload_n 2)) rfl rfl
theorem x_68_5   : am_E d 68 Q (5, L, .int x :: .ref a :: st, g) ↔ am_kv d 68 Q 6 L st g (am_iat .iaload g a x) := am_E_iaload (by decide +kernel : am_dc 68 5 = some (.iaload)) rfl
theorem x_68_6   : am_E d 68 Q (6, L, st, g) ↔ am_K d 68 Q (am_stI 8 L st g 5) := am_E_istore (by decide +kernel : am_dc 68 6 = some (.istore 5)) rfl
theorem x_68_8   : am_E d 68 Q (8, L, st, g) ↔ am_K d 68 Q (am_ldA 9 L st g 1) := am_E_aload_n (by decide +kernel : am_dc 68 8 = some (.aload_n 1)) rfl rfl
theorem x_68_9   : am_E d 68 Q (9, L, .ref a :: st, g) ↔ am_kv d 68 Q 12 L st g (am_gf g a 6 2) := am_E_getfield (by decide +kernel : am_dc 68 9 = some (.getfield 173)) (by decide +kernel) rfl
theorem x_68_12   : am_E d 68 Q (12, L, st, g) ↔ am_K d 68 Q (am_ldI 13 L st g 2) := am_E_iload_n (by decide +kernel : am_dc 68 12 = some (.iload_n 2)) rfl rfl
theorem x_68_13   : am_E d 68 Q (13, L, .int x :: .ref a :: st, g) ↔ am_kv d 68 Q 14 L st g (am_iat .iaload g a x) := am_E_iaload (by decide +kernel : am_dc 68 13 = some (.iaload)) rfl
theorem x_68_14  : am_E d 68 Q (14, L, st, g) ↔ am_K d 68 Q (am_S 68 (.tableswitch (75) (5) (9) #[(34), (45), (75), (65), (72)]) 14 L st g) := am_E_x (by decide +kernel : am_dc 68 14 = some (.tableswitch (75) (5) (9) #[(34), (45), (75), (65), (72)]))
theorem x_68_48   : am_E d 68 Q (48, L, st, g) ↔ am_K d 68 Q (am_ldA 49 L st g 0) := am_E_aload_n (by decide +kernel : am_dc 68 48 = some (.aload_n 0)) rfl rfl
theorem x_68_49   : am_E d 68 Q (49, L, st, g) ↔ am_K d 68 Q (am_ldI 51 L st g 5) := am_E_iload (by decide +kernel : am_dc 68 49 = some (.iload 5)) rfl
theorem x_68_51   : am_E d 68 Q (51, L, .int x :: st, g) ↔ am_E d 68 Q (52, L, .long x.toInt64 :: st, g) := am_E_i2l (by decide +kernel : am_dc 68 51 = some (.i2l)) rfl
theorem x_68_52  : am_E d 68 Q (52, L, st, g) ↔ am_K d 68 Q (am_S 68 (.invokevirtual 176) 52 L st g) := am_E_x (by decide +kernel : am_dc 68 52 = some (.invokevirtual 176))
theorem x_68_55   : am_E d 68 Q (55, L, st, g) ↔ am_K d 68 Q (am_ldI 56 L st g 2) := am_E_iload_n (by decide +kernel : am_dc 68 55 = some (.iload_n 2)) rfl rfl
theorem x_68_56   : am_E d 68 Q (56, L, st, g) ↔ am_E d 68 Q (57, L, .int (1) :: st, g) := am_E_iconst (by decide +kernel : am_dc 68 56 = some (.iconst (1))) (by decide) rfl
theorem x_68_57   : am_E d 68 Q (57, L, .int y :: .int x :: st, g) ↔ am_E d 68 Q (58, L, .int (x + y) :: st, g) := am_E_iadd (by decide +kernel : am_dc 68 57 = some (.iadd)) rfl
theorem x_68_58  : am_E d 68 Q (58, L, [.int x], g) ↔ if am_ok (FieldType.int) (.int x) = true then Q (.inl (some (.int x))) g else False := am_E_ireturn (by decide +kernel : am_dc 68 58 = some (.ireturn)) (by decide +kernel)
theorem x_68_59   : am_E d 68 Q (59, L, st, g) ↔ am_K d 68 Q (am_ldA 60 L st g 0) := am_E_aload_n (by decide +kernel : am_dc 68 59 = some (.aload_n 0)) rfl rfl
theorem x_68_60   : am_E d 68 Q (60, L, st, g) ↔ am_K d 68 Q (am_ldA 61 L st g 0) := am_E_aload_n (by decide +kernel : am_dc 68 60 = some (.aload_n 0)) rfl rfl
theorem x_68_61   : am_E d 68 Q (61, L, st, g) ↔ am_K d 68 Q (am_ldA 62 L st g 1) := am_E_aload_n (by decide +kernel : am_dc 68 61 = some (.aload_n 1)) rfl rfl
theorem x_68_62   : am_E d 68 Q (62, L, st, g) ↔ am_K d 68 Q (am_ldI 63 L st g 2) := am_E_iload_n (by decide +kernel : am_dc 68 62 = some (.iload_n 2)) rfl rfl
theorem x_68_63   : am_E d 68 Q (63, L, st, g) ↔ am_K d 68 Q (am_ldI 64 L st g 3) := am_E_iload_n (by decide +kernel : am_dc 68 63 = some (.iload_n 3)) rfl rfl
theorem x_68_64   : am_E d 68 Q (64, L, st, g) ↔ am_K d 68 Q (am_ldI 66 L st g 4) := am_E_iload (by decide +kernel : am_dc 68 64 = some (.iload 4)) rfl
theorem x_68_66  : am_E d 68 Q (66, L, st, g) ↔ am_K d 68 Q (am_S 68 (.invokevirtual 180) 66 L st g) := am_E_x (by decide +kernel : am_dc 68 66 = some (.invokevirtual 180))
theorem x_68_69  : am_E d 68 Q (69, L, st, g) ↔ am_K d 68 Q (am_S 68 (.invokevirtual 176) 69 L st g) := am_E_x (by decide +kernel : am_dc 68 69 = some (.invokevirtual 176))
theorem x_68_72   : am_E d 68 Q (72, L, st, g) ↔ am_K d 68 Q (am_ldI 73 L st g 2) := am_E_iload_n (by decide +kernel : am_dc 68 72 = some (.iload_n 2)) rfl rfl
theorem x_68_73   : am_E d 68 Q (73, L, st, g) ↔ am_E d 68 Q (74, L, .int (1) :: st, g) := am_E_iconst (by decide +kernel : am_dc 68 73 = some (.iconst (1))) (by decide) rfl
theorem x_68_74   : am_E d 68 Q (74, L, .int y :: .int x :: st, g) ↔ am_E d 68 Q (75, L, .int (x + y) :: st, g) := am_E_iadd (by decide +kernel : am_dc 68 74 = some (.iadd)) rfl
theorem x_68_75   : am_E d 68 Q (75, L, st, g) ↔ am_K d 68 Q (am_ldI 77 L st g 5) := am_E_iload (by decide +kernel : am_dc 68 75 = some (.iload 5)) rfl
theorem x_68_77   : am_E d 68 Q (77, L, .int y :: .int x :: st, g) ↔ am_E d 68 Q (78, L, .int (x + y) :: st, g) := am_E_iadd (by decide +kernel : am_dc 68 77 = some (.iadd)) rfl
theorem x_68_78  : am_E d 68 Q (78, L, [.int x], g) ↔ if am_ok (FieldType.int) (.int x) = true then Q (.inl (some (.int x))) g else False := am_E_ireturn (by decide +kernel : am_dc 68 78 = some (.ireturn)) (by decide +kernel)
theorem x_68_79   : am_E d 68 Q (79, L, st, g) ↔ am_K d 68 Q (am_ldA 80 L st g 0) := am_E_aload_n (by decide +kernel : am_dc 68 79 = some (.aload_n 0)) rfl rfl
theorem x_68_80   : am_E d 68 Q (80, L, st, g) ↔ am_K d 68 Q (am_ldA 81 L st g 1) := am_E_aload_n (by decide +kernel : am_dc 68 80 = some (.aload_n 1)) rfl rfl
theorem x_68_81   : am_E d 68 Q (81, L, st, g) ↔ am_K d 68 Q (am_ldI 82 L st g 2) := am_E_iload_n (by decide +kernel : am_dc 68 81 = some (.iload_n 2)) rfl rfl
theorem x_68_82  : am_E d 68 Q (82, L, st, g) ↔ am_K d 68 Q (am_S 68 (.invokevirtual 184) 82 L st g) := am_E_x (by decide +kernel : am_dc 68 82 = some (.invokevirtual 184))
theorem x_68_85  : am_E d 68 Q (85, L, [.int x], g) ↔ if am_ok (FieldType.int) (.int x) = true then Q (.inl (some (.int x))) g else False := am_E_ireturn (by decide +kernel : am_dc 68 85 = some (.ireturn)) (by decide +kernel)
theorem x_68_86   : am_E d 68 Q (86, L, st, g) ↔ am_K d 68 Q (am_ldI 88 L st g 5) := am_E_iload (by decide +kernel : am_dc 68 86 = some (.iload 5)) rfl
theorem x_68_88  : am_E d 68 Q (88, L, [.int x], g) ↔ if am_ok (FieldType.int) (.int x) = true then Q (.inl (some (.int x))) g else False := am_E_ireturn (by decide +kernel : am_dc 68 88 = some (.ireturn)) (by decide +kernel)
theorem x_68_89   : am_E d 68 Q (89, L, st, g) ↔ am_K d 68 Q (am_ldA 90 L st g 0) := am_E_aload_n (by decide +kernel : am_dc 68 89 = some (.aload_n 0)) rfl rfl
theorem x_68_90  : am_E d 68 Q (90, L, st, g) ↔ am_K d 68 Q (am_S 68 (.invokevirtual 166) 90 L st g) := am_E_x (by decide +kernel : am_dc 68 90 = some (.invokevirtual 166))
theorem x_68_93   : am_E d 68 Q (93, L, st, g) ↔ am_K d 68 Q (am_stL 95 L st g 6) := am_E_lstore (by decide +kernel : am_dc 68 93 = some (.lstore 6)) rfl
theorem x_68_95   : am_E d 68 Q (95, L, st, g) ↔ am_K d 68 Q (am_ldA 96 L st g 0) := am_E_aload_n (by decide +kernel : am_dc 68 95 = some (.aload_n 0)) rfl rfl
theorem x_68_96  : am_E d 68 Q (96, L, st, g) ↔ am_K d 68 Q (am_S 68 (.invokevirtual 166) 96 L st g) := am_E_x (by decide +kernel : am_dc 68 96 = some (.invokevirtual 166))
theorem x_68_99   : am_E d 68 Q (99, L, st, g) ↔ am_K d 68 Q (am_stL 101 L st g 8) := am_E_lstore (by decide +kernel : am_dc 68 99 = some (.lstore 8)) rfl
theorem x_68_101   : am_E d 68 Q (101, L, st, g) ↔ am_K d 68 Q (am_ldA 102 L st g 0) := am_E_aload_n (by decide +kernel : am_dc 68 101 = some (.aload_n 0)) rfl rfl
theorem x_68_102   : am_E d 68 Q (102, L, st, g) ↔ am_K d 68 Q (am_ldA 103 L st g 1) := am_E_aload_n (by decide +kernel : am_dc 68 102 = some (.aload_n 1)) rfl rfl
theorem x_68_103   : am_E d 68 Q (103, L, .ref a :: st, g) ↔ am_kv d 68 Q 106 L st g (am_gf g a 6 2) := am_E_getfield (by decide +kernel : am_dc 68 103 = some (.getfield 173)) (by decide +kernel) rfl
theorem x_68_106   : am_E d 68 Q (106, L, st, g) ↔ am_K d 68 Q (am_ldI 107 L st g 2) := am_E_iload_n (by decide +kernel : am_dc 68 106 = some (.iload_n 2)) rfl rfl
theorem x_68_107   : am_E d 68 Q (107, L, .int x :: .ref a :: st, g) ↔ am_kv d 68 Q 108 L st g (am_iat .iaload g a x) := am_E_iaload (by decide +kernel : am_dc 68 107 = some (.iaload)) rfl
theorem x_68_108   : am_E d 68 Q (108, L, st, g) ↔ am_K d 68 Q (am_ldL 110 L st g 8) := am_E_lload (by decide +kernel : am_dc 68 108 = some (.lload 8)) rfl
theorem x_68_110   : am_E d 68 Q (110, L, st, g) ↔ am_K d 68 Q (am_ldL 112 L st g 6) := am_E_lload (by decide +kernel : am_dc 68 110 = some (.lload 6)) rfl
theorem x_68_112  : am_E d 68 Q (112, L, st, g) ↔ am_K d 68 Q (am_S 68 (.invokestatic 188) 112 L st g) := am_E_x (by decide +kernel : am_dc 68 112 = some (.invokestatic 188))
theorem x_68_115  : am_E d 68 Q (115, L, st, g) ↔ am_K d 68 Q (am_S 68 (.invokevirtual 176) 115 L st g) := am_E_x (by decide +kernel : am_dc 68 115 = some (.invokevirtual 176))
theorem x_68_118   : am_E d 68 Q (118, L, st, g) ↔ am_K d 68 Q (am_ldI 119 L st g 2) := am_E_iload_n (by decide +kernel : am_dc 68 118 = some (.iload_n 2)) rfl rfl
theorem x_68_119   : am_E d 68 Q (119, L, st, g) ↔ am_E d 68 Q (120, L, .int (1) :: st, g) := am_E_iconst (by decide +kernel : am_dc 68 119 = some (.iconst (1))) (by decide) rfl
theorem x_68_120   : am_E d 68 Q (120, L, .int y :: .int x :: st, g) ↔ am_E d 68 Q (121, L, .int (x + y) :: st, g) := am_E_iadd (by decide +kernel : am_dc 68 120 = some (.iadd)) rfl
theorem x_68_121  : am_E d 68 Q (121, L, [.int x], g) ↔ if am_ok (FieldType.int) (.int x) = true then Q (.inl (some (.int x))) g else False := am_E_ireturn (by decide +kernel : am_dc 68 121 = some (.ireturn)) (by decide +kernel)
theorem f_68_170 : am_fl 68 170 = some (6, 3) := by decide +kernel
theorem f_68_173 : am_fl 68 173 = some (6, 2) := by decide +kernel
theorem v_68_176 : am_iv 68 176 = some (1, 70, 2) := by decide +kernel
theorem v_68_180 : am_iv 68 180 = some (1, 71, 5) := by decide +kernel
theorem v_68_184 : am_iv 68 184 = some (1, 65, 3) := by decide +kernel
theorem v_68_166 : am_iv 68 166 = some (1, 69, 1) := by decide +kernel
theorem v_68_188 : am_iv 68 188 = some (0, 51, 3) := by decide +kernel
theorem t_68 : am_t 68 = some (FieldType.int) := by decide +kernel
theorem h_68 : am_h 68 = [] := by decide +kernel
theorem m_68 : am_m 68 = 10 := by decide +kernel
theorem x_69_0   : am_E d 69 Q (0, L, st, g) ↔ am_K d 69 Q (am_ldA 1 L st g 0) := am_E_aload_n (by decide +kernel : am_dc 69 0 = some (.aload_n 0)) rfl rfl
theorem x_69_1   : am_E d 69 Q (1, L, .ref a :: st, g) ↔ am_kv d 69 Q 4 L st g (am_gf g a 1 5) := am_E_getfield (by decide +kernel : am_dc 69 1 = some (.getfield 41)) (by decide +kernel) rfl
theorem x_69_4   : am_E d 69 Q (4, L, .int x :: st, g) ↔ am_E d 69 Q (am_cmp .ne x 0 12 7, L, st, g) := am_E_if (by decide +kernel : am_dc 69 4 = some (.ifCond .ne (8))) rfl rfl
theorem x_69_7   : am_E d 69 Q (7, L, st, g) ↔ am_E d 69 Q (8, L, .int (1) :: st, g) := am_E_iconst (by decide +kernel : am_dc 69 7 = some (.iconst (1))) (by decide) rfl
theorem x_69_8  : am_E d 69 Q (8, L, st, g) ↔ am_K d 69 Q (am_S 69 (.invokestatic 57) 8 L st g) := am_E_x (by decide +kernel : am_dc 69 8 = some (.invokestatic 57))
theorem x_69_11  : am_E d 69 Q (11, L, [.long u], g) ↔ Q (.inl (some (.long u))) g := am_E_lreturn (by decide +kernel : am_dc 69 11 = some (.lreturn)) (by decide +kernel)
theorem x_69_12   : am_E d 69 Q (12, L, st, g) ↔ am_K d 69 Q (am_ldA 13 L st g 0) := am_E_aload_n (by decide +kernel : am_dc 69 12 = some (.aload_n 0)) rfl rfl
theorem x_69_13   : am_E d 69 Q (13, L, v :: st, g) ↔ if v.category = 1 then am_E d 69 Q (14, L, v :: v :: st, g) else False := am_E_dup (by decide +kernel : am_dc 69 13 = some (.dup)) rfl
theorem x_69_14   : am_E d 69 Q (14, L, .ref a :: st, g) ↔ am_kv d 69 Q 17 L st g (am_gf g a 1 5) := am_E_getfield (by decide +kernel : am_dc 69 14 = some (.getfield 41)) (by decide +kernel) rfl
theorem x_69_17   : am_E d 69 Q (17, L, st, g) ↔ am_E d 69 Q (18, L, .int (1) :: st, g) := am_E_iconst (by decide +kernel : am_dc 69 17 = some (.iconst (1))) (by decide) rfl
theorem x_69_18   : am_E d 69 Q (18, L, .int y :: .int x :: st, g) ↔ am_E d 69 Q (19, L, .int (x - y) :: st, g) := am_E_isub (by decide +kernel : am_dc 69 18 = some (.isub)) rfl
theorem x_69_19   (hok : (am_ok (am_ft 1 5).1 v && (!(am_ft 1 5).2 || (am_ini 69 && am_co 1 == am_o 69)) && decide (1 < 13)) = true) : am_E d 69 Q (19, L, v :: .ref a :: st, g) ↔ am_kg d 69 Q 22 L st (am_pf g a 1 5 v) := am_E_putfield (by decide +kernel : am_dc 69 19 = some (.putfield 41)) (by decide +kernel) rfl hok
theorem x_69_22   : am_E d 69 Q (22, L, st, g) ↔ am_K d 69 Q (am_ldA 23 L st g 0) := am_E_aload_n (by decide +kernel : am_dc 69 22 = some (.aload_n 0)) rfl rfl
theorem x_69_23   : am_E d 69 Q (23, L, .ref a :: st, g) ↔ am_kv d 69 Q 26 L st g (am_gf g a 1 4) := am_E_getfield (by decide +kernel : am_dc 69 23 = some (.getfield 15)) (by decide +kernel) rfl
theorem x_69_26   : am_E d 69 Q (26, L, st, g) ↔ am_K d 69 Q (am_ldA 27 L st g 0) := am_E_aload_n (by decide +kernel : am_dc 69 26 = some (.aload_n 0)) rfl rfl
theorem x_69_27   : am_E d 69 Q (27, L, .ref a :: st, g) ↔ am_kv d 69 Q 30 L st g (am_gf g a 1 5) := am_E_getfield (by decide +kernel : am_dc 69 27 = some (.getfield 41)) (by decide +kernel) rfl
theorem x_69_30   : am_E d 69 Q (30, L, .int x :: .ref a :: st, g) ↔ am_kv d 69 Q 31 L st g (am_iat .laload g a x) := am_E_laload (by decide +kernel : am_dc 69 30 = some (.laload)) rfl
theorem x_69_31  : am_E d 69 Q (31, L, [.long u], g) ↔ Q (.inl (some (.long u))) g := am_E_lreturn (by decide +kernel : am_dc 69 31 = some (.lreturn)) (by decide +kernel)
theorem f_69_41 : am_fl 69 41 = some (1, 5) := by decide +kernel
theorem v_69_57 : am_iv 69 57 = some (0, 56, 1) := by decide +kernel
theorem f_69_15 : am_fl 69 15 = some (1, 4) := by decide +kernel
theorem t_69 : am_t 69 = some (FieldType.long) := by decide +kernel
theorem h_69 : am_h 69 = [] := by decide +kernel
theorem m_69 : am_m 69 = 1 := by decide +kernel
theorem x_70_0   : am_E d 70 Q (0, L, st, g) ↔ am_K d 70 Q (am_ldA 1 L st g 0) := am_E_aload_n (by decide +kernel : am_dc 70 0 = some (.aload_n 0)) rfl rfl
theorem x_70_1   : am_E d 70 Q (1, L, .ref a :: st, g) ↔ am_kv d 70 Q 4 L st g (am_gf g a 1 5) := am_E_getfield (by decide +kernel : am_dc 70 1 = some (.getfield 41)) (by decide +kernel) rfl
theorem x_70_4   : am_E d 70 Q (4, L, st, g) ↔ am_E d 70 Q (7, L, .int (200) :: st, g) := am_E_sipush (by decide +kernel : am_dc 70 4 = some (.sipush (200))) (by decide) rfl
theorem x_70_7   : am_E d 70 Q (7, L, .int y :: .int x :: st, g) ↔ am_E d 70 Q (am_cmp .ge x y 30 10, L, st, g) := am_E_ic (by decide +kernel : am_dc 70 7 = some (.if_icmp .ge (23))) rfl rfl
theorem x_70_10   : am_E d 70 Q (10, L, st, g) ↔ am_K d 70 Q (am_ldA 11 L st g 0) := am_E_aload_n (by decide +kernel : am_dc 70 10 = some (.aload_n 0)) rfl rfl
theorem x_70_11   : am_E d 70 Q (11, L, .ref a :: st, g) ↔ am_kv d 70 Q 14 L st g (am_gf g a 1 4) := am_E_getfield (by decide +kernel : am_dc 70 11 = some (.getfield 15)) (by decide +kernel) rfl
theorem x_70_14   : am_E d 70 Q (14, L, st, g) ↔ am_K d 70 Q (am_ldA 15 L st g 0) := am_E_aload_n (by decide +kernel : am_dc 70 14 = some (.aload_n 0)) rfl rfl
theorem x_70_15   : am_E d 70 Q (15, L, .ref a :: st, g) ↔ am_kv d 70 Q 18 L st g (am_gf g a 1 5) := am_E_getfield (by decide +kernel : am_dc 70 15 = some (.getfield 41)) (by decide +kernel) rfl
theorem x_70_18   : am_E d 70 Q (18, L, st, g) ↔ am_K d 70 Q (am_ldL 19 L st g 1) := am_E_lload_n (by decide +kernel : am_dc 70 18 = some (.lload_n 1)) rfl rfl
theorem x_70_19   : am_E d 70 Q (19, L, v :: .int x :: .ref a :: st, g) ↔ am_kg d 70 Q 20 L st (am_sat .lastore g a x v) := am_E_lastore (by decide +kernel : am_dc 70 19 = some (.lastore)) rfl
theorem x_70_20   : am_E d 70 Q (20, L, st, g) ↔ am_K d 70 Q (am_ldA 21 L st g 0) := am_E_aload_n (by decide +kernel : am_dc 70 20 = some (.aload_n 0)) rfl rfl
theorem x_70_21   : am_E d 70 Q (21, L, v :: st, g) ↔ if v.category = 1 then am_E d 70 Q (22, L, v :: v :: st, g) else False := am_E_dup (by decide +kernel : am_dc 70 21 = some (.dup)) rfl
theorem x_70_22   : am_E d 70 Q (22, L, .ref a :: st, g) ↔ am_kv d 70 Q 25 L st g (am_gf g a 1 5) := am_E_getfield (by decide +kernel : am_dc 70 22 = some (.getfield 41)) (by decide +kernel) rfl
theorem x_70_25   : am_E d 70 Q (25, L, st, g) ↔ am_E d 70 Q (26, L, .int (1) :: st, g) := am_E_iconst (by decide +kernel : am_dc 70 25 = some (.iconst (1))) (by decide) rfl
theorem x_70_26   : am_E d 70 Q (26, L, .int y :: .int x :: st, g) ↔ am_E d 70 Q (27, L, .int (x + y) :: st, g) := am_E_iadd (by decide +kernel : am_dc 70 26 = some (.iadd)) rfl
theorem x_70_27   (hok : (am_ok (am_ft 1 5).1 v && (!(am_ft 1 5).2 || (am_ini 70 && am_co 1 == am_o 70)) && decide (1 < 13)) = true) : am_E d 70 Q (27, L, v :: .ref a :: st, g) ↔ am_kg d 70 Q 30 L st (am_pf g a 1 5 v) := am_E_putfield (by decide +kernel : am_dc 70 27 = some (.putfield 41)) (by decide +kernel) rfl hok
theorem x_70_30  : am_E d 70 Q (30, L, [], g) ↔ Q (.inl none) g := am_E_return (by decide +kernel : am_dc 70 30 = some (.return_)) (by decide +kernel)
theorem f_70_41 : am_fl 70 41 = some (1, 5) := by decide +kernel
theorem f_70_15 : am_fl 70 15 = some (1, 4) := by decide +kernel
theorem t_70 : am_t 70 = none := by decide +kernel
theorem h_70 : am_h 70 = [] := by decide +kernel
theorem m_70 : am_m 70 = 3 := by decide +kernel
theorem x_71_0   : am_E d 71 Q (0, L, st, g) ↔ am_K d 71 Q (am_ldI 1 L st g 3) := am_E_iload_n (by decide +kernel : am_dc 71 0 = some (.iload_n 3)) rfl rfl
theorem x_71_1   : am_E d 71 Q (1, L, st, g) ↔ am_K d 71 Q (am_stI 3 L st g 5) := am_E_istore (by decide +kernel : am_dc 71 1 = some (.istore 5)) rfl
theorem x_71_3   : am_E d 71 Q (3, L, st, g) ↔ am_E d 71 Q (4, L, .int (1) :: st, g) := am_E_iconst (by decide +kernel : am_dc 71 3 = some (.iconst (1))) (by decide) rfl
theorem x_71_4   : am_E d 71 Q (4, L, st, g) ↔ am_K d 71 Q (am_stI 6 L st g 6) := am_E_istore (by decide +kernel : am_dc 71 4 = some (.istore 6)) rfl
theorem x_71_6   : am_E d 71 Q (6, L, st, g) ↔ am_K d 71 Q (am_ldI 8 L st g 6) := am_E_iload (by decide +kernel : am_dc 71 6 = some (.iload 6)) rfl
theorem x_71_8   : am_E d 71 Q (8, L, st, g) ↔ am_K d 71 Q (am_ldA 9 L st g 1) := am_E_aload_n (by decide +kernel : am_dc 71 8 = some (.aload_n 1)) rfl rfl
theorem x_71_9   : am_E d 71 Q (9, L, .ref a :: st, g) ↔ am_kv d 71 Q 12 L st g (am_gf g a 6 3) := am_E_getfield (by decide +kernel : am_dc 71 9 = some (.getfield 170)) (by decide +kernel) rfl
theorem x_71_12   : am_E d 71 Q (12, L, st, g) ↔ am_K d 71 Q (am_ldI 13 L st g 2) := am_E_iload_n (by decide +kernel : am_dc 71 12 = some (.iload_n 2)) rfl rfl
theorem x_71_13   : am_E d 71 Q (13, L, .int x :: .ref a :: st, g) ↔ am_kv d 71 Q 14 L st g (am_iat .iaload g a x) := am_E_iaload (by decide +kernel : am_dc 71 13 = some (.iaload)) rfl
theorem x_71_14   : am_E d 71 Q (14, L, .int y :: .int x :: st, g) ↔ am_E d 71 Q (am_cmp .gt x y 112 17, L, st, g) := am_E_ic (by decide +kernel : am_dc 71 14 = some (.if_icmp .gt (98))) rfl rfl
theorem x_71_17   : am_E d 71 Q (17, L, st, g) ↔ am_K d 71 Q (am_ldA 18 L st g 1) := am_E_aload_n (by decide +kernel : am_dc 71 17 = some (.aload_n 1)) rfl rfl
theorem x_71_18   : am_E d 71 Q (18, L, .ref a :: st, g) ↔ am_kv d 71 Q 21 L st g (am_gf g a 6 3) := am_E_getfield (by decide +kernel : am_dc 71 18 = some (.getfield 170)) (by decide +kernel) rfl
theorem x_71_21   : am_E d 71 Q (21, L, st, g) ↔ am_K d 71 Q (am_ldI 22 L st g 2) := am_E_iload_n (by decide +kernel : am_dc 71 21 = some (.iload_n 2)) rfl rfl
theorem x_71_22   : am_E d 71 Q (22, L, st, g) ↔ am_K d 71 Q (am_ldI 24 L st g 6) := am_E_iload (by decide +kernel : am_dc 71 22 = some (.iload 6)) rfl
theorem x_71_24   : am_E d 71 Q (24, L, .int y :: .int x :: st, g) ↔ am_E d 71 Q (25, L, .int (x + y) :: st, g) := am_E_iadd (by decide +kernel : am_dc 71 24 = some (.iadd)) rfl
theorem x_71_25   : am_E d 71 Q (25, L, .int x :: .ref a :: st, g) ↔ am_kv d 71 Q 26 L st g (am_iat .iaload g a x) := am_E_iaload (by decide +kernel : am_dc 71 25 = some (.iaload)) rfl
theorem x_71_26   : am_E d 71 Q (26, L, st, g) ↔ am_K d 71 Q (am_stI 28 L st g 7) := am_E_istore (by decide +kernel : am_dc 71 26 = some (.istore 7)) rfl
theorem x_71_28   : am_E d 71 Q (28, L, st, g) ↔ am_K d 71 Q (am_ldI 30 L st g 7) := am_E_iload (by decide +kernel : am_dc 71 28 = some (.iload 7)) rfl
theorem x_71_30  : am_E d 71 Q (30, L, st, g) ↔ am_K d 71 Q (am_S 71 (.invokestatic 192) 30 L st g) := am_E_x (by decide +kernel : am_dc 71 30 = some (.invokestatic 192))
theorem x_71_33   : am_E d 71 Q (33, L, st, g) ↔ am_K d 71 Q (am_stI 35 L st g 8) := am_E_istore (by decide +kernel : am_dc 71 33 = some (.istore 8)) rfl
theorem x_71_35   : am_E d 71 Q (35, L, st, g) ↔ am_K d 71 Q (am_ldI 37 L st g 7) := am_E_iload (by decide +kernel : am_dc 71 35 = some (.iload 7)) rfl
theorem x_71_37  : am_E d 71 Q (37, L, st, g) ↔ am_K d 71 Q (am_S 71 (.invokestatic 195) 37 L st g) := am_E_x (by decide +kernel : am_dc 71 37 = some (.invokestatic 195))
theorem x_71_40   : am_E d 71 Q (40, L, st, g) ↔ am_K d 71 Q (am_stI 42 L st g 9) := am_E_istore (by decide +kernel : am_dc 71 40 = some (.istore 9)) rfl
theorem x_71_42   : am_E d 71 Q (42, L, st, g) ↔ am_K d 71 Q (am_ldI 44 L st g 9) := am_E_iload (by decide +kernel : am_dc 71 42 = some (.iload 9)) rfl
theorem x_71_44   : am_E d 71 Q (44, L, st, g) ↔ am_E d 71 Q (46, L, .int (9) :: st, g) := am_E_bipush (by decide +kernel : am_dc 71 44 = some (.bipush (9))) (by decide) rfl
theorem x_71_46   : am_E d 71 Q (46, L, .int y :: .int x :: st, g) ↔ am_E d 71 Q (am_cmp .ne x y 60 49, L, st, g) := am_E_ic (by decide +kernel : am_dc 71 46 = some (.if_icmp .ne (14))) rfl rfl
theorem x_71_49   : am_E d 71 Q (49, L, st, g) ↔ am_K d 71 Q (am_ldA 50 L st g 0) := am_E_aload_n (by decide +kernel : am_dc 71 49 = some (.aload_n 0)) rfl rfl
theorem x_71_50   : am_E d 71 Q (50, L, st, g) ↔ am_K d 71 Q (am_ldI 52 L st g 5) := am_E_iload (by decide +kernel : am_dc 71 50 = some (.iload 5)) rfl
theorem x_71_52   : am_E d 71 Q (52, L, st, g) ↔ am_K d 71 Q (am_ldI 54 L st g 8) := am_E_iload (by decide +kernel : am_dc 71 52 = some (.iload 8)) rfl
theorem x_71_54   : am_E d 71 Q (54, L, st, g) ↔ am_K d 71 Q (am_ldI 56 L st g 4) := am_E_iload (by decide +kernel : am_dc 71 54 = some (.iload 4)) rfl
theorem x_71_56  : am_E d 71 Q (56, L, st, g) ↔ am_K d 71 Q (am_S 71 (.invokevirtual 112) 56 L st g) := am_E_x (by decide +kernel : am_dc 71 56 = some (.invokevirtual 112))
theorem x_71_59  : am_E d 71 Q (59, L, [.long u], g) ↔ Q (.inl (some (.long u))) g := am_E_lreturn (by decide +kernel : am_dc 71 59 = some (.lreturn)) (by decide +kernel)
theorem x_71_60   : am_E d 71 Q (60, L, st, g) ↔ am_K d 71 Q (am_ldA 61 L st g 0) := am_E_aload_n (by decide +kernel : am_dc 71 60 = some (.aload_n 0)) rfl rfl
theorem x_71_61   : am_E d 71 Q (61, L, st, g) ↔ am_K d 71 Q (am_ldA 62 L st g 0) := am_E_aload_n (by decide +kernel : am_dc 71 61 = some (.aload_n 0)) rfl rfl
theorem x_71_62   : am_E d 71 Q (62, L, .ref a :: st, g) ↔ am_kv d 71 Q 65 L st g (am_gf g a 1 0) := am_E_getfield (by decide +kernel : am_dc 71 62 = some (.getfield 23)) (by decide +kernel) rfl
theorem x_71_65   : am_E d 71 Q (65, L, .ref a :: st, g) ↔ am_kv d 71 Q 68 L st g (am_gf g a 8 0) := am_E_getfield (by decide +kernel : am_dc 71 65 = some (.getfield 100)) (by decide +kernel) rfl
theorem x_71_68   : am_E d 71 Q (68, L, st, g) ↔ am_K d 71 Q (am_ldI 70 L st g 8) := am_E_iload (by decide +kernel : am_dc 71 68 = some (.iload 8)) rfl
theorem x_71_70   : am_E d 71 Q (70, L, .int x :: .ref a :: st, g) ↔ am_kv d 71 Q 71 L st g (am_iat .aaload g a x) := am_E_aaload (by decide +kernel : am_dc 71 70 = some (.aaload)) rfl
theorem x_71_71   : am_E d 71 Q (71, L, st, g) ↔ am_K d 71 Q (am_ldI 73 L st g 5) := am_E_iload (by decide +kernel : am_dc 71 71 = some (.iload 5)) rfl
theorem x_71_73   : am_E d 71 Q (73, L, st, g) ↔ am_K d 71 Q (am_ldI 75 L st g 8) := am_E_iload (by decide +kernel : am_dc 71 73 = some (.iload 8)) rfl
theorem x_71_75  : am_E d 71 Q (75, L, st, g) ↔ am_K d 71 Q (am_S 71 (.invokestatic 104) 75 L st g) := am_E_x (by decide +kernel : am_dc 71 75 = some (.invokestatic 104))
theorem x_71_78   : am_E d 71 Q (78, L, st, g) ↔ am_K d 71 Q (am_ldI 80 L st g 9) := am_E_iload (by decide +kernel : am_dc 71 78 = some (.iload 9)) rfl
theorem x_71_80  : am_E d 71 Q (80, L, st, g) ↔ am_K d 71 Q (am_S 71 (.invokevirtual 198) 80 L st g) := am_E_x (by decide +kernel : am_dc 71 80 = some (.invokevirtual 198))
theorem x_71_83   : am_E d 71 Q (83, L, st, g) ↔ am_K d 71 Q (am_stI 85 L st g 10) := am_E_istore (by decide +kernel : am_dc 71 83 = some (.istore 10)) rfl
theorem x_71_85   : am_E d 71 Q (85, L, st, g) ↔ am_K d 71 Q (am_ldI 87 L st g 10) := am_E_iload (by decide +kernel : am_dc 71 85 = some (.iload 10)) rfl
theorem x_71_87   : am_E d 71 Q (87, L, .int x :: st, g) ↔ am_E d 71 Q (am_cmp .ge x 0 95 90, L, st, g) := am_E_if (by decide +kernel : am_dc 71 87 = some (.ifCond .ge (8))) rfl rfl
theorem x_71_90   : am_E d 71 Q (90, L, st, g) ↔ am_E d 71 Q (91, L, .int (1) :: st, g) := am_E_iconst (by decide +kernel : am_dc 71 90 = some (.iconst (1))) (by decide) rfl
theorem x_71_91  : am_E d 71 Q (91, L, st, g) ↔ am_K d 71 Q (am_S 71 (.invokestatic 57) 91 L st g) := am_E_x (by decide +kernel : am_dc 71 91 = some (.invokestatic 57))
theorem x_71_94  : am_E d 71 Q (94, L, [.long u], g) ↔ Q (.inl (some (.long u))) g := am_E_lreturn (by decide +kernel : am_dc 71 94 = some (.lreturn)) (by decide +kernel)
theorem x_71_95   : am_E d 71 Q (95, L, st, g) ↔ am_K d 71 Q (am_ldI 97 L st g 5) := am_E_iload (by decide +kernel : am_dc 71 95 = some (.iload 5)) rfl
theorem x_71_97   : am_E d 71 Q (97, L, st, g) ↔ am_K d 71 Q (am_ldI 99 L st g 8) := am_E_iload (by decide +kernel : am_dc 71 97 = some (.iload 8)) rfl
theorem x_71_99   : am_E d 71 Q (99, L, st, g) ↔ am_K d 71 Q (am_ldI 101 L st g 10) := am_E_iload (by decide +kernel : am_dc 71 99 = some (.iload 10)) rfl
theorem x_71_101  : am_E d 71 Q (101, L, st, g) ↔ am_K d 71 Q (am_S 71 (.invokestatic 121) 101 L st g) := am_E_x (by decide +kernel : am_dc 71 101 = some (.invokestatic 121))
theorem x_71_104   : am_E d 71 Q (104, L, st, g) ↔ am_K d 71 Q (am_stI 106 L st g 5) := am_E_istore (by decide +kernel : am_dc 71 104 = some (.istore 5)) rfl
theorem x_71_106   (hk : L.getD 6 none = some (.int x)) (hl : 6 < L.length) : am_E d 71 Q (106, L, st, g) ↔ am_E d 71 Q (109, am_s1 L 6 (.int (x + (1))), st, g) := am_E_iinc (by decide +kernel : am_dc 71 106 = some (.iinc 6 (1))) (by decide) rfl hk hl
theorem x_71_109   : am_E d 71 Q (109, L, st, g) ↔ am_E d 71 Q (6, L, st, g) := am_E_gt (by decide +kernel : am_dc 71 109 = some (.goto (-103))) rfl rfl
theorem x_71_112   : am_E d 71 Q (112, L, st, g) ↔ am_K d 71 Q (am_ldA 113 L st g 0) := am_E_aload_n (by decide +kernel : am_dc 71 112 = some (.aload_n 0)) rfl rfl
theorem x_71_113   : am_E d 71 Q (113, L, st, g) ↔ am_K d 71 Q (am_ldI 115 L st g 5) := am_E_iload (by decide +kernel : am_dc 71 113 = some (.iload 5)) rfl
theorem x_71_115   : am_E d 71 Q (115, L, st, g) ↔ am_K d 71 Q (am_ldI 117 L st g 4) := am_E_iload (by decide +kernel : am_dc 71 115 = some (.iload 4)) rfl
theorem x_71_117   : am_E d 71 Q (117, L, st, g) ↔ am_E d 71 Q (118, L, .int (1) :: st, g) := am_E_iconst (by decide +kernel : am_dc 71 117 = some (.iconst (1))) (by decide) rfl
theorem x_71_118   : am_E d 71 Q (118, L, .int y :: .int x :: st, g) ↔ am_E d 71 Q (119, L, .int (x + y) :: st, g) := am_E_iadd (by decide +kernel : am_dc 71 118 = some (.iadd)) rfl
theorem x_71_119  : am_E d 71 Q (119, L, st, g) ↔ am_K d 71 Q (am_S 71 (.invokevirtual 50) 119 L st g) := am_E_x (by decide +kernel : am_dc 71 119 = some (.invokevirtual 50))
theorem x_71_122  : am_E d 71 Q (122, L, [.long u], g) ↔ Q (.inl (some (.long u))) g := am_E_lreturn (by decide +kernel : am_dc 71 122 = some (.lreturn)) (by decide +kernel)
theorem f_71_170 : am_fl 71 170 = some (6, 3) := by decide +kernel
theorem v_71_192 : am_iv 71 192 = some (0, 111, 1) := by decide +kernel
theorem v_71_195 : am_iv 71 195 = some (0, 117, 1) := by decide +kernel
theorem v_71_112 : am_iv 71 112 = some (1, 74, 4) := by decide +kernel
theorem f_71_23 : am_fl 71 23 = some (1, 0) := by decide +kernel
theorem f_71_100 : am_fl 71 100 = some (8, 0) := by decide +kernel
theorem v_71_104 : am_iv 71 104 = some (0, 131, 2) := by decide +kernel
theorem v_71_198 : am_iv 71 198 = some (1, 73, 4) := by decide +kernel
theorem v_71_57 : am_iv 71 57 = some (0, 56, 1) := by decide +kernel
theorem v_71_121 : am_iv 71 121 = some (0, 132, 3) := by decide +kernel
theorem v_71_50 : am_iv 71 50 = some (1, 75, 3) := by decide +kernel
theorem t_71 : am_t 71 = some (FieldType.long) := by decide +kernel
theorem h_71 : am_h 71 = [] := by decide +kernel
theorem m_71 : am_m 71 = 11 := by decide +kernel
theorem x_72_0   : am_E d 72 Q (0, L, st, g) ↔ am_K d 72 Q (am_ldA 1 L st g 0) := am_E_aload_n (by decide +kernel : am_dc 72 0 = some (.aload_n 0)) rfl rfl
theorem x_72_1   : am_E d 72 Q (1, L, .ref a :: st, g) ↔ am_kv d 72 Q 4 L st g (am_gf g a 1 0) := am_E_getfield (by decide +kernel : am_dc 72 1 = some (.getfield 23)) (by decide +kernel) rfl
theorem x_72_4   : am_E d 72 Q (4, L, .ref a :: st, g) ↔ am_kv d 72 Q 7 L st g (am_gf g a 8 0) := am_E_getfield (by decide +kernel : am_dc 72 4 = some (.getfield 100)) (by decide +kernel) rfl
theorem x_72_7   : am_E d 72 Q (7, L, st, g) ↔ am_K d 72 Q (am_ldI 8 L st g 2) := am_E_iload_n (by decide +kernel : am_dc 72 7 = some (.iload_n 2)) rfl rfl
theorem x_72_8   : am_E d 72 Q (8, L, .int x :: .ref a :: st, g) ↔ am_kv d 72 Q 9 L st g (am_iat .aaload g a x) := am_E_aaload (by decide +kernel : am_dc 72 8 = some (.aaload)) rfl
theorem x_72_9   : am_E d 72 Q (9, L, st, g) ↔ am_K d 72 Q (am_stA 11 L st g 4) := am_E_astore (by decide +kernel : am_dc 72 9 = some (.astore 4)) rfl
theorem x_72_11   : am_E d 72 Q (11, L, st, g) ↔ am_K d 72 Q (am_ldI 12 L st g 1) := am_E_iload_n (by decide +kernel : am_dc 72 11 = some (.iload_n 1)) rfl rfl
theorem x_72_12   : am_E d 72 Q (12, L, st, g) ↔ am_K d 72 Q (am_ldI 13 L st g 2) := am_E_iload_n (by decide +kernel : am_dc 72 12 = some (.iload_n 2)) rfl rfl
theorem x_72_13  : am_E d 72 Q (13, L, st, g) ↔ am_K d 72 Q (am_S 72 (.invokestatic 104) 13 L st g) := am_E_x (by decide +kernel : am_dc 72 13 = some (.invokestatic 104))
theorem x_72_16   : am_E d 72 Q (16, L, st, g) ↔ am_K d 72 Q (am_stI 18 L st g 5) := am_E_istore (by decide +kernel : am_dc 72 16 = some (.istore 5)) rfl
theorem x_72_18   : am_E d 72 Q (18, L, st, g) ↔ am_K d 72 Q (am_ldA 20 L st g 4) := am_E_aload (by decide +kernel : am_dc 72 18 = some (.aload 4)) rfl
theorem x_72_20   : am_E d 72 Q (20, L, .ref a :: st, g) ↔ am_kv d 72 Q 23 L st g (am_gf g a 10 1) := am_E_getfield (by decide +kernel : am_dc 72 20 = some (.getfield 107)) (by decide +kernel) rfl
theorem x_72_23   : am_E d 72 Q (23, L, st, g) ↔ am_K d 72 Q (am_ldI 25 L st g 5) := am_E_iload (by decide +kernel : am_dc 72 23 = some (.iload 5)) rfl
theorem x_72_25   : am_E d 72 Q (25, L, .int x :: .ref a :: st, g) ↔ am_kv d 72 Q 26 L st g (am_iat .iaload g a x) := am_E_iaload (by decide +kernel : am_dc 72 25 = some (.iaload)) rfl
theorem x_72_26  : am_E d 72 Q (26, L, st, g) ↔ am_K d 72 Q (am_S 72 (.tableswitch (86) (1) (4) #[(30), (38), (46), (66)]) 26 L st g) := am_E_x (by decide +kernel : am_dc 72 26 = some (.tableswitch (86) (1) (4) #[(30), (38), (46), (66)]))
theorem x_72_56   : am_E d 72 Q (56, L, st, g) ↔ am_K d 72 Q (am_ldA 57 L st g 0) := am_E_aload_n (by decide +kernel : am_dc 72 56 = some (.aload_n 0)) rfl rfl
theorem x_72_57   : am_E d 72 Q (57, L, st, g) ↔ am_K d 72 Q (am_ldI 58 L st g 1) := am_E_iload_n (by decide +kernel : am_dc 72 57 = some (.iload_n 1)) rfl rfl
theorem x_72_58   : am_E d 72 Q (58, L, st, g) ↔ am_K d 72 Q (am_ldI 59 L st g 2) := am_E_iload_n (by decide +kernel : am_dc 72 58 = some (.iload_n 2)) rfl rfl
theorem x_72_59   : am_E d 72 Q (59, L, st, g) ↔ am_K d 72 Q (am_ldI 60 L st g 3) := am_E_iload_n (by decide +kernel : am_dc 72 59 = some (.iload_n 3)) rfl rfl
theorem x_72_60  : am_E d 72 Q (60, L, st, g) ↔ am_K d 72 Q (am_S 72 (.invokevirtual 112) 60 L st g) := am_E_x (by decide +kernel : am_dc 72 60 = some (.invokevirtual 112))
theorem x_72_63  : am_E d 72 Q (63, L, [.long u], g) ↔ Q (.inl (some (.long u))) g := am_E_lreturn (by decide +kernel : am_dc 72 63 = some (.lreturn)) (by decide +kernel)
theorem x_72_64   : am_E d 72 Q (64, L, st, g) ↔ am_K d 72 Q (am_ldA 65 L st g 0) := am_E_aload_n (by decide +kernel : am_dc 72 64 = some (.aload_n 0)) rfl rfl
theorem x_72_65   : am_E d 72 Q (65, L, st, g) ↔ am_K d 72 Q (am_ldI 66 L st g 1) := am_E_iload_n (by decide +kernel : am_dc 72 65 = some (.iload_n 1)) rfl rfl
theorem x_72_66   : am_E d 72 Q (66, L, st, g) ↔ am_K d 72 Q (am_ldI 67 L st g 2) := am_E_iload_n (by decide +kernel : am_dc 72 66 = some (.iload_n 2)) rfl rfl
theorem x_72_67   : am_E d 72 Q (67, L, st, g) ↔ am_K d 72 Q (am_ldI 68 L st g 3) := am_E_iload_n (by decide +kernel : am_dc 72 67 = some (.iload_n 3)) rfl rfl
theorem x_72_68  : am_E d 72 Q (68, L, st, g) ↔ am_K d 72 Q (am_S 72 (.invokevirtual 115) 68 L st g) := am_E_x (by decide +kernel : am_dc 72 68 = some (.invokevirtual 115))
theorem x_72_71  : am_E d 72 Q (71, L, [.long u], g) ↔ Q (.inl (some (.long u))) g := am_E_lreturn (by decide +kernel : am_dc 72 71 = some (.lreturn)) (by decide +kernel)
theorem x_72_72   : am_E d 72 Q (72, L, st, g) ↔ am_K d 72 Q (am_ldA 73 L st g 0) := am_E_aload_n (by decide +kernel : am_dc 72 72 = some (.aload_n 0)) rfl rfl
theorem x_72_73   : am_E d 72 Q (73, L, st, g) ↔ am_K d 72 Q (am_ldI 74 L st g 1) := am_E_iload_n (by decide +kernel : am_dc 72 73 = some (.iload_n 1)) rfl rfl
theorem x_72_74   : am_E d 72 Q (74, L, st, g) ↔ am_K d 72 Q (am_ldI 75 L st g 2) := am_E_iload_n (by decide +kernel : am_dc 72 74 = some (.iload_n 2)) rfl rfl
theorem x_72_75   : am_E d 72 Q (75, L, st, g) ↔ am_K d 72 Q (am_ldA 77 L st g 4) := am_E_aload (by decide +kernel : am_dc 72 75 = some (.aload 4)) rfl
theorem x_72_77   : am_E d 72 Q (77, L, st, g) ↔ am_K d 72 Q (am_ldI 79 L st g 5) := am_E_iload (by decide +kernel : am_dc 72 77 = some (.iload 5)) rfl
theorem x_72_79  : am_E d 72 Q (79, L, st, g) ↔ am_K d 72 Q (am_S 72 (.invokevirtual 118) 79 L st g) := am_E_x (by decide +kernel : am_dc 72 79 = some (.invokevirtual 118))
theorem x_72_82  : am_E d 72 Q (82, L, st, g) ↔ am_K d 72 Q (am_S 72 (.invokestatic 121) 82 L st g) := am_E_x (by decide +kernel : am_dc 72 82 = some (.invokestatic 121))
theorem x_72_85   : am_E d 72 Q (85, L, st, g) ↔ am_K d 72 Q (am_ldI 86 L st g 3) := am_E_iload_n (by decide +kernel : am_dc 72 85 = some (.iload_n 3)) rfl rfl
theorem x_72_86   : am_E d 72 Q (86, L, st, g) ↔ am_E d 72 Q (87, L, .int (1) :: st, g) := am_E_iconst (by decide +kernel : am_dc 72 86 = some (.iconst (1))) (by decide) rfl
theorem x_72_87   : am_E d 72 Q (87, L, .int y :: .int x :: st, g) ↔ am_E d 72 Q (88, L, .int (x + y) :: st, g) := am_E_iadd (by decide +kernel : am_dc 72 87 = some (.iadd)) rfl
theorem x_72_88  : am_E d 72 Q (88, L, st, g) ↔ am_K d 72 Q (am_S 72 (.invokevirtual 50) 88 L st g) := am_E_x (by decide +kernel : am_dc 72 88 = some (.invokevirtual 50))
theorem x_72_91  : am_E d 72 Q (91, L, [.long u], g) ↔ Q (.inl (some (.long u))) g := am_E_lreturn (by decide +kernel : am_dc 72 91 = some (.lreturn)) (by decide +kernel)
theorem x_72_92   : am_E d 72 Q (92, L, st, g) ↔ am_K d 72 Q (am_ldA 93 L st g 0) := am_E_aload_n (by decide +kernel : am_dc 72 92 = some (.aload_n 0)) rfl rfl
theorem x_72_93   : am_E d 72 Q (93, L, st, g) ↔ am_K d 72 Q (am_ldI 94 L st g 1) := am_E_iload_n (by decide +kernel : am_dc 72 93 = some (.iload_n 1)) rfl rfl
theorem x_72_94   : am_E d 72 Q (94, L, st, g) ↔ am_K d 72 Q (am_ldI 95 L st g 2) := am_E_iload_n (by decide +kernel : am_dc 72 94 = some (.iload_n 2)) rfl rfl
theorem x_72_95   : am_E d 72 Q (95, L, st, g) ↔ am_K d 72 Q (am_ldA 97 L st g 4) := am_E_aload (by decide +kernel : am_dc 72 95 = some (.aload 4)) rfl
theorem x_72_97   : am_E d 72 Q (97, L, st, g) ↔ am_K d 72 Q (am_ldI 99 L st g 5) := am_E_iload (by decide +kernel : am_dc 72 97 = some (.iload 5)) rfl
theorem x_72_99  : am_E d 72 Q (99, L, st, g) ↔ am_K d 72 Q (am_S 72 (.invokevirtual 125) 99 L st g) := am_E_x (by decide +kernel : am_dc 72 99 = some (.invokevirtual 125))
theorem x_72_102  : am_E d 72 Q (102, L, st, g) ↔ am_K d 72 Q (am_S 72 (.invokestatic 121) 102 L st g) := am_E_x (by decide +kernel : am_dc 72 102 = some (.invokestatic 121))
theorem x_72_105   : am_E d 72 Q (105, L, st, g) ↔ am_K d 72 Q (am_ldI 106 L st g 3) := am_E_iload_n (by decide +kernel : am_dc 72 105 = some (.iload_n 3)) rfl rfl
theorem x_72_106   : am_E d 72 Q (106, L, st, g) ↔ am_E d 72 Q (107, L, .int (1) :: st, g) := am_E_iconst (by decide +kernel : am_dc 72 106 = some (.iconst (1))) (by decide) rfl
theorem x_72_107   : am_E d 72 Q (107, L, .int y :: .int x :: st, g) ↔ am_E d 72 Q (108, L, .int (x + y) :: st, g) := am_E_iadd (by decide +kernel : am_dc 72 107 = some (.iadd)) rfl
theorem x_72_108  : am_E d 72 Q (108, L, st, g) ↔ am_K d 72 Q (am_S 72 (.invokevirtual 50) 108 L st g) := am_E_x (by decide +kernel : am_dc 72 108 = some (.invokevirtual 50))
theorem x_72_111  : am_E d 72 Q (111, L, [.long u], g) ↔ Q (.inl (some (.long u))) g := am_E_lreturn (by decide +kernel : am_dc 72 111 = some (.lreturn)) (by decide +kernel)
theorem x_72_112   : am_E d 72 Q (112, L, st, g) ↔ am_E d 72 Q (113, L, .int (1) :: st, g) := am_E_iconst (by decide +kernel : am_dc 72 112 = some (.iconst (1))) (by decide) rfl
theorem x_72_113  : am_E d 72 Q (113, L, st, g) ↔ am_K d 72 Q (am_S 72 (.invokestatic 57) 113 L st g) := am_E_x (by decide +kernel : am_dc 72 113 = some (.invokestatic 57))
theorem x_72_116  : am_E d 72 Q (116, L, [.long u], g) ↔ Q (.inl (some (.long u))) g := am_E_lreturn (by decide +kernel : am_dc 72 116 = some (.lreturn)) (by decide +kernel)
theorem f_72_23 : am_fl 72 23 = some (1, 0) := by decide +kernel
theorem f_72_100 : am_fl 72 100 = some (8, 0) := by decide +kernel
theorem v_72_104 : am_iv 72 104 = some (0, 131, 2) := by decide +kernel
theorem f_72_107 : am_fl 72 107 = some (10, 1) := by decide +kernel
theorem v_72_112 : am_iv 72 112 = some (1, 74, 4) := by decide +kernel
theorem v_72_115 : am_iv 72 115 = some (1, 67, 4) := by decide +kernel
theorem v_72_118 : am_iv 72 118 = some (1, 145, 2) := by decide +kernel
theorem v_72_121 : am_iv 72 121 = some (0, 132, 3) := by decide +kernel
theorem v_72_50 : am_iv 72 50 = some (1, 75, 3) := by decide +kernel
theorem v_72_125 : am_iv 72 125 = some (1, 152, 2) := by decide +kernel
theorem v_72_57 : am_iv 72 57 = some (0, 56, 1) := by decide +kernel
theorem t_72 : am_t 72 = some (FieldType.long) := by decide +kernel
theorem h_72 : am_h 72 = [] := by decide +kernel
theorem m_72 : am_m 72 = 6 := by decide +kernel
theorem x_73_0   : am_E d 73 Q (0, L, st, g) ↔ am_K d 73 Q (am_ldI 1 L st g 3) := am_E_iload_n (by decide +kernel : am_dc 73 0 = some (.iload_n 3)) rfl rfl
theorem x_73_1  : am_E d 73 Q (1, L, st, g) ↔ am_K d 73 Q (am_S 73 (.tableswitch (48) (6) (8) #[(27), (34), (41)]) 1 L st g) := am_E_x (by decide +kernel : am_dc 73 1 = some (.tableswitch (48) (6) (8) #[(27), (34), (41)]))
theorem x_73_28   : am_E d 73 Q (28, L, st, g) ↔ am_K d 73 Q (am_ldA 29 L st g 1) := am_E_aload_n (by decide +kernel : am_dc 73 28 = some (.aload_n 1)) rfl rfl
theorem x_73_29   : am_E d 73 Q (29, L, st, g) ↔ am_K d 73 Q (am_ldI 30 L st g 2) := am_E_iload_n (by decide +kernel : am_dc 73 29 = some (.iload_n 2)) rfl rfl
theorem x_73_30   : am_E d 73 Q (30, L, st, g) ↔ am_E d 73 Q (31, L, .int (-1) :: st, g) := am_E_iconst (by decide +kernel : am_dc 73 30 = some (.iconst (-1))) (by decide) rfl
theorem x_73_31  : am_E d 73 Q (31, L, st, g) ↔ am_K d 73 Q (am_S 73 (.invokevirtual 202) 31 L st g) := am_E_x (by decide +kernel : am_dc 73 31 = some (.invokevirtual 202))
theorem x_73_34  : am_E d 73 Q (34, L, [.int x], g) ↔ if am_ok (FieldType.int) (.int x) = true then Q (.inl (some (.int x))) g else False := am_E_ireturn (by decide +kernel : am_dc 73 34 = some (.ireturn)) (by decide +kernel)
theorem x_73_35   : am_E d 73 Q (35, L, st, g) ↔ am_K d 73 Q (am_ldA 36 L st g 1) := am_E_aload_n (by decide +kernel : am_dc 73 35 = some (.aload_n 1)) rfl rfl
theorem x_73_36   : am_E d 73 Q (36, L, st, g) ↔ am_K d 73 Q (am_ldI 37 L st g 2) := am_E_iload_n (by decide +kernel : am_dc 73 36 = some (.iload_n 2)) rfl rfl
theorem x_73_37   : am_E d 73 Q (37, L, st, g) ↔ am_E d 73 Q (38, L, .int (1) :: st, g) := am_E_iconst (by decide +kernel : am_dc 73 37 = some (.iconst (1))) (by decide) rfl
theorem x_73_38  : am_E d 73 Q (38, L, st, g) ↔ am_K d 73 Q (am_S 73 (.invokevirtual 202) 38 L st g) := am_E_x (by decide +kernel : am_dc 73 38 = some (.invokevirtual 202))
theorem x_73_41  : am_E d 73 Q (41, L, [.int x], g) ↔ if am_ok (FieldType.int) (.int x) = true then Q (.inl (some (.int x))) g else False := am_E_ireturn (by decide +kernel : am_dc 73 41 = some (.ireturn)) (by decide +kernel)
theorem x_73_42   : am_E d 73 Q (42, L, st, g) ↔ am_K d 73 Q (am_ldA 43 L st g 1) := am_E_aload_n (by decide +kernel : am_dc 73 42 = some (.aload_n 1)) rfl rfl
theorem x_73_43   : am_E d 73 Q (43, L, .ref a :: st, g) ↔ am_kv d 73 Q 46 L st g (am_gf g a 10 0) := am_E_getfield (by decide +kernel : am_dc 73 43 = some (.getfield 205)) (by decide +kernel) rfl
theorem x_73_46   : am_E d 73 Q (46, L, st, g) ↔ am_K d 73 Q (am_ldI 47 L st g 2) := am_E_iload_n (by decide +kernel : am_dc 73 46 = some (.iload_n 2)) rfl rfl
theorem x_73_47   : am_E d 73 Q (47, L, .int x :: .ref a :: st, g) ↔ am_kv d 73 Q 48 L st g (am_iat .iaload g a x) := am_E_iaload (by decide +kernel : am_dc 73 47 = some (.iaload)) rfl
theorem x_73_48  : am_E d 73 Q (48, L, [.int x], g) ↔ if am_ok (FieldType.int) (.int x) = true then Q (.inl (some (.int x))) g else False := am_E_ireturn (by decide +kernel : am_dc 73 48 = some (.ireturn)) (by decide +kernel)
theorem x_73_49   : am_E d 73 Q (49, L, st, g) ↔ am_K d 73 Q (am_ldA 50 L st g 1) := am_E_aload_n (by decide +kernel : am_dc 73 49 = some (.aload_n 1)) rfl rfl
theorem x_73_50   : am_E d 73 Q (50, L, st, g) ↔ am_K d 73 Q (am_ldI 51 L st g 3) := am_E_iload_n (by decide +kernel : am_dc 73 50 = some (.iload_n 3)) rfl rfl
theorem x_73_51  : am_E d 73 Q (51, L, st, g) ↔ am_K d 73 Q (am_S 73 (.invokevirtual 208) 51 L st g) := am_E_x (by decide +kernel : am_dc 73 51 = some (.invokevirtual 208))
theorem x_73_54   : am_E d 73 Q (54, L, .int x :: st, g) ↔ am_E d 73 Q (am_cmp .eq x 0 61 57, L, st, g) := am_E_if (by decide +kernel : am_dc 73 54 = some (.ifCond .eq (7))) rfl rfl
theorem x_73_57   : am_E d 73 Q (57, L, st, g) ↔ am_K d 73 Q (am_ldI 58 L st g 3) := am_E_iload_n (by decide +kernel : am_dc 73 57 = some (.iload_n 3)) rfl rfl
theorem x_73_58   : am_E d 73 Q (58, L, st, g) ↔ am_E d 73 Q (62, L, st, g) := am_E_gt (by decide +kernel : am_dc 73 58 = some (.goto (4))) rfl rfl
theorem x_73_61   : am_E d 73 Q (61, L, st, g) ↔ am_E d 73 Q (62, L, .int (-1) :: st, g) := am_E_iconst (by decide +kernel : am_dc 73 61 = some (.iconst (-1))) (by decide) rfl
theorem x_73_62  : am_E d 73 Q (62, L, [.int x], g) ↔ if am_ok (FieldType.int) (.int x) = true then Q (.inl (some (.int x))) g else False := am_E_ireturn (by decide +kernel : am_dc 73 62 = some (.ireturn)) (by decide +kernel)
theorem v_73_202 : am_iv 73 202 = some (1, 154, 3) := by decide +kernel
theorem f_73_205 : am_fl 73 205 = some (10, 0) := by decide +kernel
theorem v_73_208 : am_iv 73 208 = some (1, 148, 2) := by decide +kernel
theorem t_73 : am_t 73 = some (FieldType.int) := by decide +kernel
theorem h_73 : am_h 73 = [] := by decide +kernel
theorem m_73 : am_m 73 = 4 := by decide +kernel
theorem x_74_0   : am_E d 74 Q (0, L, st, g) ↔ am_K d 74 Q (am_ldA 1 L st g 0) := am_E_aload_n (by decide +kernel : am_dc 74 0 = some (.aload_n 0)) rfl rfl
theorem x_74_1   : am_E d 74 Q (1, L, st, g) ↔ am_K d 74 Q (am_ldI 2 L st g 1) := am_E_iload_n (by decide +kernel : am_dc 74 1 = some (.iload_n 1)) rfl rfl
theorem x_74_2   : am_E d 74 Q (2, L, st, g) ↔ am_K d 74 Q (am_ldI 3 L st g 2) := am_E_iload_n (by decide +kernel : am_dc 74 2 = some (.iload_n 2)) rfl rfl
theorem x_74_3   : am_E d 74 Q (3, L, st, g) ↔ am_K d 74 Q (am_ldI 4 L st g 3) := am_E_iload_n (by decide +kernel : am_dc 74 3 = some (.iload_n 3)) rfl rfl
theorem x_74_4  : am_E d 74 Q (4, L, st, g) ↔ am_K d 74 Q (am_S 74 (.invokevirtual 128) 4 L st g) := am_E_x (by decide +kernel : am_dc 74 4 = some (.invokevirtual 128))
theorem x_74_7   : am_E d 74 Q (7, L, st, g) ↔ am_K d 74 Q (am_stL 9 L st g 4) := am_E_lstore (by decide +kernel : am_dc 74 7 = some (.lstore 4)) rfl
theorem x_74_9   : am_E d 74 Q (9, L, st, g) ↔ am_K d 74 Q (am_ldL 11 L st g 4) := am_E_lload (by decide +kernel : am_dc 74 9 = some (.lload 4)) rfl
theorem x_74_11  : am_E d 74 Q (11, L, st, g) ↔ am_K d 74 Q (am_S 74 (.invokestatic 131) 11 L st g) := am_E_x (by decide +kernel : am_dc 74 11 = some (.invokestatic 131))
theorem x_74_14   : am_E d 74 Q (14, L, .int x :: st, g) ↔ am_E d 74 Q (am_cmp .eq x 0 22 17, L, st, g) := am_E_if (by decide +kernel : am_dc 74 14 = some (.ifCond .eq (8))) rfl rfl
theorem x_74_17   : am_E d 74 Q (17, L, st, g) ↔ am_K d 74 Q (am_ldL 19 L st g 4) := am_E_lload (by decide +kernel : am_dc 74 17 = some (.lload 4)) rfl
theorem x_74_19   : am_E d 74 Q (19, L, st, g) ↔ am_E d 74 Q (27, L, st, g) := am_E_gt (by decide +kernel : am_dc 74 19 = some (.goto (8))) rfl rfl
theorem x_74_22   : am_E d 74 Q (22, L, st, g) ↔ am_K d 74 Q (am_ldL 24 L st g 4) := am_E_lload (by decide +kernel : am_dc 74 22 = some (.lload 4)) rfl
theorem x_74_24  : am_E d 74 Q (24, L, st, g) ↔ am_K d 74 Q (am_S 74 (.invokestatic 135) 24 L st g) := am_E_x (by decide +kernel : am_dc 74 24 = some (.invokestatic 135))
theorem x_74_27  : am_E d 74 Q (27, L, [.long u], g) ↔ Q (.inl (some (.long u))) g := am_E_lreturn (by decide +kernel : am_dc 74 27 = some (.lreturn)) (by decide +kernel)
theorem v_74_128 : am_iv 74 128 = some (1, 63, 4) := by decide +kernel
theorem v_74_131 : am_iv 74 131 = some (0, 53, 1) := by decide +kernel
theorem v_74_135 : am_iv 74 135 = some (0, 52, 1) := by decide +kernel
theorem t_74 : am_t 74 = some (FieldType.long) := by decide +kernel
theorem h_74 : am_h 74 = [] := by decide +kernel
theorem m_74 : am_m 74 = 6 := by decide +kernel
theorem x_75_0   : am_E d 75 Q (0, L, st, g) ↔ am_K d 75 Q (am_ldA 1 L st g 0) := am_E_aload_n (by decide +kernel : am_dc 75 0 = some (.aload_n 0)) rfl rfl
theorem x_75_1   : am_E d 75 Q (1, L, .ref a :: st, g) ↔ am_kv d 75 Q 4 L st g (am_gf g a 1 3) := am_E_getfield (by decide +kernel : am_dc 75 1 = some (.getfield 11)) (by decide +kernel) rfl
theorem x_75_4   : am_E d 75 Q (4, L, st, g) ↔ am_K d 75 Q (am_ldI 5 L st g 1) := am_E_iload_n (by decide +kernel : am_dc 75 4 = some (.iload_n 1)) rfl rfl
theorem x_75_5   : am_E d 75 Q (5, L, .int x :: .ref a :: st, g) ↔ am_kv d 75 Q 6 L st g (am_iat .iaload g a x) := am_E_iaload (by decide +kernel : am_dc 75 5 = some (.iaload)) rfl
theorem x_75_6   : am_E d 75 Q (6, L, .int x :: st, g) ↔ am_E d 75 Q (am_cmp .eq x 0 14 9, L, st, g) := am_E_if (by decide +kernel : am_dc 75 6 = some (.ifCond .eq (8))) rfl rfl
theorem x_75_9   : am_E d 75 Q (9, L, st, g) ↔ am_E d 75 Q (10, L, .int (2) :: st, g) := am_E_iconst (by decide +kernel : am_dc 75 9 = some (.iconst (2))) (by decide) rfl
theorem x_75_10  : am_E d 75 Q (10, L, st, g) ↔ am_K d 75 Q (am_S 75 (.invokestatic 57) 10 L st g) := am_E_x (by decide +kernel : am_dc 75 10 = some (.invokestatic 57))
theorem x_75_13  : am_E d 75 Q (13, L, [.long u], g) ↔ Q (.inl (some (.long u))) g := am_E_lreturn (by decide +kernel : am_dc 75 13 = some (.lreturn)) (by decide +kernel)
theorem x_75_14   : am_E d 75 Q (14, L, st, g) ↔ am_K d 75 Q (am_ldI 15 L st g 2) := am_E_iload_n (by decide +kernel : am_dc 75 14 = some (.iload_n 2)) rfl rfl
theorem x_75_15   : am_E d 75 Q (15, L, st, g) ↔ am_E d 75 Q (17, L, .int (20) :: st, g) := am_E_bipush (by decide +kernel : am_dc 75 15 = some (.bipush (20))) (by decide) rfl
theorem x_75_17   : am_E d 75 Q (17, L, .int y :: .int x :: st, g) ↔ am_E d 75 Q (am_cmp .gt x y 31 20, L, st, g) := am_E_ic (by decide +kernel : am_dc 75 17 = some (.if_icmp .gt (14))) rfl rfl
theorem x_75_20   : am_E d 75 Q (20, L, st, g) ↔ am_K d 75 Q (am_ldA 21 L st g 0) := am_E_aload_n (by decide +kernel : am_dc 75 20 = some (.aload_n 0)) rfl rfl
theorem x_75_21   : am_E d 75 Q (21, L, .ref a :: st, g) ↔ am_kv d 75 Q 24 L st g (am_gf g a 1 7) := am_E_getfield (by decide +kernel : am_dc 75 21 = some (.getfield 44)) (by decide +kernel) rfl
theorem x_75_24   : am_E d 75 Q (24, L, st, g) ↔ am_K d 75 Q (am_ldA 25 L st g 0) := am_E_aload_n (by decide +kernel : am_dc 75 24 = some (.aload_n 0)) rfl rfl
theorem x_75_25   : am_E d 75 Q (25, L, .ref a :: st, g) ↔ am_kv d 75 Q 28 L st g (am_gf g a 1 8) := am_E_getfield (by decide +kernel : am_dc 75 25 = some (.getfield 19)) (by decide +kernel) rfl
theorem x_75_28   : am_E d 75 Q (28, L, .int y :: .int x :: st, g) ↔ am_E d 75 Q (am_cmp .lt x y 39 31, L, st, g) := am_E_ic (by decide +kernel : am_dc 75 28 = some (.if_icmp .lt (11))) rfl rfl
theorem x_75_31  : am_E d 75 Q (31, L, st, g) ↔ am_K d 75 Q (am_S 75 (.new 63) 31 L st g) := am_E_x (by decide +kernel : am_dc 75 31 = some (.new 63))
theorem x_75_34   : am_E d 75 Q (34, L, v :: st, g) ↔ if v.category = 1 then am_E d 75 Q (35, L, v :: v :: st, g) else False := am_E_dup (by decide +kernel : am_dc 75 34 = some (.dup)) rfl
theorem x_75_35  : am_E d 75 Q (35, L, st, g) ↔ am_K d 75 Q (am_S 75 (.invokespecial 65) 35 L st g) := am_E_x (by decide +kernel : am_dc 75 35 = some (.invokespecial 65))
theorem x_75_39   : am_E d 75 Q (39, L, st, g) ↔ am_K d 75 Q (am_ldA 40 L st g 0) := am_E_aload_n (by decide +kernel : am_dc 75 39 = some (.aload_n 0)) rfl rfl
theorem x_75_40   : am_E d 75 Q (40, L, v :: st, g) ↔ if v.category = 1 then am_E d 75 Q (41, L, v :: v :: st, g) else False := am_E_dup (by decide +kernel : am_dc 75 40 = some (.dup)) rfl
theorem x_75_41   : am_E d 75 Q (41, L, .ref a :: st, g) ↔ am_kv d 75 Q 44 L st g (am_gf g a 1 7) := am_E_getfield (by decide +kernel : am_dc 75 41 = some (.getfield 44)) (by decide +kernel) rfl
theorem x_75_44   : am_E d 75 Q (44, L, st, g) ↔ am_E d 75 Q (45, L, .int (1) :: st, g) := am_E_iconst (by decide +kernel : am_dc 75 44 = some (.iconst (1))) (by decide) rfl
theorem x_75_45   : am_E d 75 Q (45, L, .int y :: .int x :: st, g) ↔ am_E d 75 Q (46, L, .int (x + y) :: st, g) := am_E_iadd (by decide +kernel : am_dc 75 45 = some (.iadd)) rfl
theorem x_75_46   (hok : (am_ok (am_ft 1 7).1 v && (!(am_ft 1 7).2 || (am_ini 75 && am_co 1 == am_o 75)) && decide (1 < 13)) = true) : am_E d 75 Q (46, L, v :: .ref a :: st, g) ↔ am_kg d 75 Q 49 L st (am_pf g a 1 7 v) := am_E_putfield (by decide +kernel : am_dc 75 46 = some (.putfield 44)) (by decide +kernel) rfl hok
theorem x_75_49   : am_E d 75 Q (49, L, st, g) ↔ am_K d 75 Q (am_ldA 50 L st g 0) := am_E_aload_n (by decide +kernel : am_dc 75 49 = some (.aload_n 0)) rfl rfl
theorem x_75_50   : am_E d 75 Q (50, L, .ref a :: st, g) ↔ am_kv d 75 Q 53 L st g (am_gf g a 1 3) := am_E_getfield (by decide +kernel : am_dc 75 50 = some (.getfield 11)) (by decide +kernel) rfl
theorem x_75_53   : am_E d 75 Q (53, L, st, g) ↔ am_K d 75 Q (am_ldI 54 L st g 1) := am_E_iload_n (by decide +kernel : am_dc 75 53 = some (.iload_n 1)) rfl rfl
theorem x_75_54   : am_E d 75 Q (54, L, st, g) ↔ am_E d 75 Q (55, L, .int (1) :: st, g) := am_E_iconst (by decide +kernel : am_dc 75 54 = some (.iconst (1))) (by decide) rfl
theorem x_75_55   : am_E d 75 Q (55, L, v :: .int x :: .ref a :: st, g) ↔ am_kg d 75 Q 56 L st (am_sat .iastore g a x v) := am_E_iastore (by decide +kernel : am_dc 75 55 = some (.iastore)) rfl
theorem x_75_56   : am_E d 75 Q (56, L, st, g) ↔ am_K d 75 Q (am_ldA 57 L st g 0) := am_E_aload_n (by decide +kernel : am_dc 75 56 = some (.aload_n 0)) rfl rfl
theorem x_75_57   : am_E d 75 Q (57, L, st, g) ↔ am_K d 75 Q (am_ldI 58 L st g 1) := am_E_iload_n (by decide +kernel : am_dc 75 57 = some (.iload_n 1)) rfl rfl
theorem x_75_58   : am_E d 75 Q (58, L, st, g) ↔ am_K d 75 Q (am_ldI 59 L st g 2) := am_E_iload_n (by decide +kernel : am_dc 75 58 = some (.iload_n 2)) rfl rfl
theorem x_75_59  : am_E d 75 Q (59, L, st, g) ↔ am_K d 75 Q (am_S 75 (.invokevirtual 66) 59 L st g) := am_E_x (by decide +kernel : am_dc 75 59 = some (.invokevirtual 66))
theorem x_75_62   : am_E d 75 Q (62, L, st, g) ↔ am_K d 75 Q (am_stL 63 L st g 3) := am_E_lstore_n (by decide +kernel : am_dc 75 62 = some (.lstore_n 3)) rfl rfl
theorem x_75_63   : am_E d 75 Q (63, L, st, g) ↔ am_K d 75 Q (am_ldA 64 L st g 0) := am_E_aload_n (by decide +kernel : am_dc 75 63 = some (.aload_n 0)) rfl rfl
theorem x_75_64   : am_E d 75 Q (64, L, .ref a :: st, g) ↔ am_kv d 75 Q 67 L st g (am_gf g a 1 3) := am_E_getfield (by decide +kernel : am_dc 75 64 = some (.getfield 11)) (by decide +kernel) rfl
theorem x_75_67   : am_E d 75 Q (67, L, st, g) ↔ am_K d 75 Q (am_ldI 68 L st g 1) := am_E_iload_n (by decide +kernel : am_dc 75 67 = some (.iload_n 1)) rfl rfl
theorem x_75_68   : am_E d 75 Q (68, L, st, g) ↔ am_E d 75 Q (69, L, .int (0) :: st, g) := am_E_iconst (by decide +kernel : am_dc 75 68 = some (.iconst (0))) (by decide) rfl
theorem x_75_69   : am_E d 75 Q (69, L, v :: .int x :: .ref a :: st, g) ↔ am_kg d 75 Q 70 L st (am_sat .iastore g a x v) := am_E_iastore (by decide +kernel : am_dc 75 69 = some (.iastore)) rfl
theorem x_75_70   : am_E d 75 Q (70, L, st, g) ↔ am_K d 75 Q (am_ldL 71 L st g 3) := am_E_lload_n (by decide +kernel : am_dc 75 70 = some (.lload_n 3)) rfl rfl
theorem x_75_71  : am_E d 75 Q (71, L, [.long u], g) ↔ Q (.inl (some (.long u))) g := am_E_lreturn (by decide +kernel : am_dc 75 71 = some (.lreturn)) (by decide +kernel)
theorem f_75_11 : am_fl 75 11 = some (1, 3) := by decide +kernel
theorem v_75_57 : am_iv 75 57 = some (0, 56, 1) := by decide +kernel
theorem f_75_44 : am_fl 75 44 = some (1, 7) := by decide +kernel
theorem f_75_19 : am_fl 75 19 = some (1, 8) := by decide +kernel
theorem w_75_63 : am_nw 75 63 = none := by decide +kernel
theorem e_75_63 : am_xw 75 63 = some (2, 65) := by decide +kernel
theorem v_75_66 : am_iv 75 66 = some (1, 76, 3) := by decide +kernel
theorem t_75 : am_t 75 = some (FieldType.long) := by decide +kernel
theorem h_75 : am_h 75 = [] := by decide +kernel
theorem m_75 : am_m 75 = 5 := by decide +kernel
end AMZ
