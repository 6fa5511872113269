/-! Rules of the machine, an instruction each. Written by program (wip/gen/genx.py). -/
section AMZ
variable {d : Nat} {Q : am_Ou → am_G → Prop} {L : am_Lo} {st : List Value} {g : am_G} {x y : Int32} {u w : Int64} {e1 : UInt32} {a : Nat} {v v1 : Value}
theorem x_76_0   : am_E d 76 Q (0, L, st, g) ↔ am_K d 76 Q (am_ldA 1 L st g 0) := am_E_aload_n (by decide +kernel : am_dc 76 0 = some (.aload_n 0)) rfl rfl
theorem x_76_1   : am_E d 76 Q (1, L, .ref a :: st, g) ↔ am_kv d 76 Q 4 L st g (am_gf g a 1 0) := am_E_getfield (by decide +kernel : am_dc 76 1 = some (.getfield 23)) (by decide +kernel) rfl
theorem x_76_4   : am_E d 76 Q (4, L, st, g) ↔ am_K d 76 Q (am_ldI 5 L st g 1) := am_E_iload_n (by decide +kernel : am_dc 76 4 = some (.iload_n 1)) rfl rfl
theorem x_76_5  : am_E d 76 Q (5, L, st, g) ↔ am_K d 76 Q (am_S 76 (.invokevirtual 69) 5 L st g) := am_E_x (by decide +kernel : am_dc 76 5 = some (.invokevirtual 69))
theorem x_76_8   : am_E d 76 Q (8, L, st, g) ↔ am_K d 76 Q (am_stI 9 L st g 3) := am_E_istore_n (by decide +kernel : am_dc 76 8 = some (.istore_n 3)) rfl rfl
theorem x_76_9   : am_E d 76 Q (9, L, st, g) ↔ am_K d 76 Q (am_ldI 10 L st g 3) := am_E_iload_n (by decide +kernel : am_dc 76 9 = some (.iload_n 3)) rfl rfl
theorem x_76_10   : am_E d 76 Q (10, L, st, g) ↔ am_E d 76 Q (11, L, .int (3) :: st, g) := am_E_iconst (by decide +kernel : am_dc 76 10 = some (.iconst (3))) (by decide) rfl
theorem x_76_11   : am_E d 76 Q (11, L, .int y :: .int x :: st, g) ↔ am_E d 76 Q (am_cmp .ne x y 39 14, L, st, g) := am_E_ic (by decide +kernel : am_dc 76 11 = some (.if_icmp .ne (28))) rfl rfl
theorem x_76_14   : am_E d 76 Q (14, L, st, g) ↔ am_K d 76 Q (am_ldA 15 L st g 0) := am_E_aload_n (by decide +kernel : am_dc 76 14 = some (.aload_n 0)) rfl rfl
theorem x_76_15   : am_E d 76 Q (15, L, .ref a :: st, g) ↔ am_kv d 76 Q 18 L st g (am_gf g a 1 2) := am_E_getfield (by decide +kernel : am_dc 76 15 = some (.getfield 31)) (by decide +kernel) rfl
theorem x_76_18   : am_E d 76 Q (18, L, st, g) ↔ am_K d 76 Q (am_ldA 19 L st g 0) := am_E_aload_n (by decide +kernel : am_dc 76 18 = some (.aload_n 0)) rfl rfl
theorem x_76_19   : am_E d 76 Q (19, L, .ref a :: st, g) ↔ am_kv d 76 Q 22 L st g (am_gf g a 1 6) := am_E_getfield (by decide +kernel : am_dc 76 19 = some (.getfield 47)) (by decide +kernel) rfl
theorem x_76_22   : am_E d 76 Q (22, L, st, g) ↔ am_K d 76 Q (am_ldI 23 L st g 1) := am_E_iload_n (by decide +kernel : am_dc 76 22 = some (.iload_n 1)) rfl rfl
theorem x_76_23  : am_E d 76 Q (23, L, st, g) ↔ am_K d 76 Q (am_S 76 (.invokevirtual 75) 23 L st g) := am_E_x (by decide +kernel : am_dc 76 23 = some (.invokevirtual 75))
theorem x_76_26   : am_E d 76 Q (26, L, st, g) ↔ am_K d 76 Q (am_stI 28 L st g 4) := am_E_istore (by decide +kernel : am_dc 76 26 = some (.istore 4)) rfl
theorem x_76_28   : am_E d 76 Q (28, L, st, g) ↔ am_K d 76 Q (am_ldI 30 L st g 4) := am_E_iload (by decide +kernel : am_dc 76 28 = some (.iload 4)) rfl
theorem x_76_30  : am_E d 76 Q (30, L, st, g) ↔ am_K d 76 Q (am_S 76 (.ldc 81) 30 L st g) := am_E_x (by decide +kernel : am_dc 76 30 = some (.ldc 81))
theorem x_76_32   : am_E d 76 Q (32, L, .int y :: .int x :: st, g) ↔ am_E d 76 Q (am_cmp .eq x y 39 35, L, st, g) := am_E_ic (by decide +kernel : am_dc 76 32 = some (.if_icmp .eq (7))) rfl rfl
theorem x_76_35   : am_E d 76 Q (35, L, st, g) ↔ am_K d 76 Q (am_ldI 37 L st g 4) := am_E_iload (by decide +kernel : am_dc 76 35 = some (.iload 4)) rfl
theorem x_76_37   : am_E d 76 Q (37, L, .int x :: st, g) ↔ am_E d 76 Q (38, L, .long x.toInt64 :: st, g) := am_E_i2l (by decide +kernel : am_dc 76 37 = some (.i2l)) rfl
theorem x_76_38  : am_E d 76 Q (38, L, [.long u], g) ↔ Q (.inl (some (.long u))) g := am_E_lreturn (by decide +kernel : am_dc 76 38 = some (.lreturn)) (by decide +kernel)
theorem x_76_39   : am_E d 76 Q (39, L, st, g) ↔ am_K d 76 Q (am_ldA 40 L st g 0) := am_E_aload_n (by decide +kernel : am_dc 76 39 = some (.aload_n 0)) rfl rfl
theorem x_76_40   : am_E d 76 Q (40, L, .ref a :: st, g) ↔ am_kv d 76 Q 43 L st g (am_gf g a 1 1) := am_E_getfield (by decide +kernel : am_dc 76 40 = some (.getfield 27)) (by decide +kernel) rfl
theorem x_76_43   : am_E d 76 Q (43, L, st, g) ↔ am_K d 76 Q (am_ldA 44 L st g 0) := am_E_aload_n (by decide +kernel : am_dc 76 43 = some (.aload_n 0)) rfl rfl
theorem x_76_44   : am_E d 76 Q (44, L, .ref a :: st, g) ↔ am_kv d 76 Q 47 L st g (am_gf g a 1 0) := am_E_getfield (by decide +kernel : am_dc 76 44 = some (.getfield 23)) (by decide +kernel) rfl
theorem x_76_47   : am_E d 76 Q (47, L, st, g) ↔ am_K d 76 Q (am_ldI 48 L st g 1) := am_E_iload_n (by decide +kernel : am_dc 76 47 = some (.iload_n 1)) rfl rfl
theorem x_76_48  : am_E d 76 Q (48, L, st, g) ↔ am_K d 76 Q (am_S 76 (.invokevirtual 82) 48 L st g) := am_E_x (by decide +kernel : am_dc 76 48 = some (.invokevirtual 82))
theorem x_76_51   : am_E d 76 Q (51, L, st, g) ↔ am_K d 76 Q (am_stI 53 L st g 4) := am_E_istore (by decide +kernel : am_dc 76 51 = some (.istore 4)) rfl
theorem x_76_53   : am_E d 76 Q (53, L, st, g) ↔ am_K d 76 Q (am_ldI 55 L st g 4) := am_E_iload (by decide +kernel : am_dc 76 53 = some (.iload 4)) rfl
theorem x_76_55   : am_E d 76 Q (55, L, .int x :: st, g) ↔ am_E d 76 Q (am_cmp .lt x 0 74 58, L, st, g) := am_E_if (by decide +kernel : am_dc 76 55 = some (.ifCond .lt (19))) rfl rfl
theorem x_76_58   : am_E d 76 Q (58, L, st, g) ↔ am_K d 76 Q (am_ldA 59 L st g 0) := am_E_aload_n (by decide +kernel : am_dc 76 58 = some (.aload_n 0)) rfl rfl
theorem x_76_59   : am_E d 76 Q (59, L, st, g) ↔ am_K d 76 Q (am_ldA 60 L st g 0) := am_E_aload_n (by decide +kernel : am_dc 76 59 = some (.aload_n 0)) rfl rfl
theorem x_76_60   : am_E d 76 Q (60, L, .ref a :: st, g) ↔ am_kv d 76 Q 63 L st g (am_gf g a 1 1) := am_E_getfield (by decide +kernel : am_dc 76 60 = some (.getfield 27)) (by decide +kernel) rfl
theorem x_76_63   : am_E d 76 Q (63, L, st, g) ↔ am_K d 76 Q (am_ldI 65 L st g 4) := am_E_iload (by decide +kernel : am_dc 76 63 = some (.iload 4)) rfl
theorem x_76_65  : am_E d 76 Q (65, L, st, g) ↔ am_K d 76 Q (am_S 76 (.invokevirtual 88) 65 L st g) := am_E_x (by decide +kernel : am_dc 76 65 = some (.invokevirtual 88))
theorem x_76_68   : am_E d 76 Q (68, L, st, g) ↔ am_K d 76 Q (am_ldI 69 L st g 1) := am_E_iload_n (by decide +kernel : am_dc 76 68 = some (.iload_n 1)) rfl rfl
theorem x_76_69   : am_E d 76 Q (69, L, st, g) ↔ am_K d 76 Q (am_ldI 70 L st g 2) := am_E_iload_n (by decide +kernel : am_dc 76 69 = some (.iload_n 2)) rfl rfl
theorem x_76_70  : am_E d 76 Q (70, L, st, g) ↔ am_K d 76 Q (am_S 76 (.invokevirtual 92) 70 L st g) := am_E_x (by decide +kernel : am_dc 76 70 = some (.invokevirtual 92))
theorem x_76_73  : am_E d 76 Q (73, L, [.long u], g) ↔ Q (.inl (some (.long u))) g := am_E_lreturn (by decide +kernel : am_dc 76 73 = some (.lreturn)) (by decide +kernel)
theorem x_76_74   : am_E d 76 Q (74, L, st, g) ↔ am_K d 76 Q (am_ldI 75 L st g 3) := am_E_iload_n (by decide +kernel : am_dc 76 74 = some (.iload_n 3)) rfl rfl
theorem x_76_75   : am_E d 76 Q (75, L, st, g) ↔ am_E d 76 Q (76, L, .int (3) :: st, g) := am_E_iconst (by decide +kernel : am_dc 76 75 = some (.iconst (3))) (by decide) rfl
theorem x_76_76   : am_E d 76 Q (76, L, .int y :: .int x :: st, g) ↔ am_E d 76 Q (am_cmp .ne x y 86 79, L, st, g) := am_E_ic (by decide +kernel : am_dc 76 76 = some (.if_icmp .ne (10))) rfl rfl
theorem x_76_79   : am_E d 76 Q (79, L, st, g) ↔ am_E d 76 Q (80, L, .int (1) :: st, g) := am_E_iconst (by decide +kernel : am_dc 76 79 = some (.iconst (1))) (by decide) rfl
theorem x_76_80  : am_E d 76 Q (80, L, st, g) ↔ am_K d 76 Q (am_S 76 (.invokestatic 57) 80 L st g) := am_E_x (by decide +kernel : am_dc 76 80 = some (.invokestatic 57))
theorem x_76_83   : am_E d 76 Q (83, L, st, g) ↔ am_E d 76 Q (93, L, st, g) := am_E_gt (by decide +kernel : am_dc 76 83 = some (.goto (10))) rfl rfl
theorem x_76_86   : am_E d 76 Q (86, L, st, g) ↔ am_K d 76 Q (am_ldA 87 L st g 0) := am_E_aload_n (by decide +kernel : am_dc 76 86 = some (.aload_n 0)) rfl rfl
theorem x_76_87   : am_E d 76 Q (87, L, st, g) ↔ am_K d 76 Q (am_ldI 88 L st g 1) := am_E_iload_n (by decide +kernel : am_dc 76 87 = some (.iload_n 1)) rfl rfl
theorem x_76_88   : am_E d 76 Q (88, L, st, g) ↔ am_K d 76 Q (am_ldI 89 L st g 3) := am_E_iload_n (by decide +kernel : am_dc 76 88 = some (.iload_n 3)) rfl rfl
theorem x_76_89   : am_E d 76 Q (89, L, st, g) ↔ am_K d 76 Q (am_ldI 90 L st g 2) := am_E_iload_n (by decide +kernel : am_dc 76 89 = some (.iload_n 2)) rfl rfl
theorem x_76_90  : am_E d 76 Q (90, L, st, g) ↔ am_K d 76 Q (am_S 76 (.invokevirtual 96) 90 L st g) := am_E_x (by decide +kernel : am_dc 76 90 = some (.invokevirtual 96))
theorem x_76_93  : am_E d 76 Q (93, L, [.long u], g) ↔ Q (.inl (some (.long u))) g := am_E_lreturn (by decide +kernel : am_dc 76 93 = some (.lreturn)) (by decide +kernel)
theorem f_76_23 : am_fl 76 23 = some (1, 0) := by decide +kernel
theorem v_76_69 : am_iv 76 69 = some (1, 128, 2) := by decide +kernel
theorem f_76_31 : am_fl 76 31 = some (1, 2) := by decide +kernel
theorem f_76_47 : am_fl 76 47 = some (1, 6) := by decide +kernel
theorem v_76_75 : am_iv 76 75 = some (1, 82, 3) := by decide +kernel
theorem k_76_81 : am_ci 76 81 = some (-2147483648) := by decide +kernel
theorem f_76_27 : am_fl 76 27 = some (1, 1) := by decide +kernel
theorem v_76_82 : am_iv 76 82 = some (1, 120, 3) := by decide +kernel
theorem v_76_88 : am_iv 76 88 = some (1, 121, 2) := by decide +kernel
theorem v_76_92 : am_iv 76 92 = some (1, 66, 4) := by decide +kernel
theorem v_76_57 : am_iv 76 57 = some (0, 56, 1) := by decide +kernel
theorem v_76_96 : am_iv 76 96 = some (1, 72, 4) := by decide +kernel
theorem t_76 : am_t 76 = some (FieldType.long) := by decide +kernel
theorem h_76 : am_h 76 = [] := by decide +kernel
theorem m_76 : am_m 76 = 5 := by decide +kernel
theorem x_77_0   : am_E d 77 Q (0, L, st, g) ↔ am_K d 77 Q (am_ldA 1 L st g 0) := am_E_aload_n (by decide +kernel : am_dc 77 0 = some (.aload_n 0)) rfl rfl
theorem x_77_1  : am_E d 77 Q (1, L, st, g) ↔ am_K d 77 Q (am_S 77 (.invokespecial 5) 1 L st g) := am_E_x (by decide +kernel : am_dc 77 1 = some (.invokespecial 5))
theorem x_77_4   : am_E d 77 Q (4, L, st, g) ↔ am_K d 77 Q (am_ldA 5 L st g 0) := am_E_aload_n (by decide +kernel : am_dc 77 4 = some (.aload_n 0)) rfl rfl
theorem x_77_5   : am_E d 77 Q (5, L, st, g) ↔ am_E d 77 Q (6, L, .int (3) :: st, g) := am_E_iconst (by decide +kernel : am_dc 77 5 = some (.iconst (3))) (by decide) rfl
theorem x_77_6   : am_E d 77 Q (6, L, st, g) ↔ am_E d 77 Q (9, L, .int (216) :: st, g) := am_E_sipush (by decide +kernel : am_dc 77 6 = some (.sipush (216))) (by decide) rfl
theorem x_77_9  : am_E d 77 Q (9, L, st, g) ↔ am_K d 77 Q (am_S 77 (.multianewarray 11 2) 9 L st g) := am_E_x (by decide +kernel : am_dc 77 9 = some (.multianewarray 11 2))
theorem x_77_13   (hok : (am_ok (am_ft 2 0).1 v && (!(am_ft 2 0).2 || (am_ini 77 && am_co 2 == am_o 77)) && decide (2 < 13)) = true) : am_E d 77 Q (13, L, v :: .ref a :: st, g) ↔ am_kg d 77 Q 16 L st (am_pf g a 2 0 v) := am_E_putfield (by decide +kernel : am_dc 77 13 = some (.putfield 13)) (by decide +kernel) rfl hok
theorem x_77_16   : am_E d 77 Q (16, L, st, g) ↔ am_K d 77 Q (am_ldA 17 L st g 0) := am_E_aload_n (by decide +kernel : am_dc 77 16 = some (.aload_n 0)) rfl rfl
theorem x_77_17   : am_E d 77 Q (17, L, st, g) ↔ am_E d 77 Q (18, L, .int (1) :: st, g) := am_E_iconst (by decide +kernel : am_dc 77 17 = some (.iconst (1))) (by decide) rfl
theorem x_77_18   (hok : (am_ok (am_ft 2 1).1 v && (!(am_ft 2 1).2 || (am_ini 77 && am_co 2 == am_o 77)) && decide (2 < 13)) = true) : am_E d 77 Q (18, L, v :: .ref a :: st, g) ↔ am_kg d 77 Q 21 L st (am_pf g a 2 1 v) := am_E_putfield (by decide +kernel : am_dc 77 18 = some (.putfield 18)) (by decide +kernel) rfl hok
theorem x_77_21   : am_E d 77 Q (21, L, st, g) ↔ am_K d 77 Q (am_ldA 22 L st g 0) := am_E_aload_n (by decide +kernel : am_dc 77 21 = some (.aload_n 0)) rfl rfl
theorem x_77_22   : am_E d 77 Q (22, L, .ref a :: st, g) ↔ am_kv d 77 Q 25 L st g (am_gf g a 2 0) := am_E_getfield (by decide +kernel : am_dc 77 22 = some (.getfield 13)) (by decide +kernel) rfl
theorem x_77_25   : am_E d 77 Q (25, L, st, g) ↔ am_E d 77 Q (26, L, .int (0) :: st, g) := am_E_iconst (by decide +kernel : am_dc 77 25 = some (.iconst (0))) (by decide) rfl
theorem x_77_26   : am_E d 77 Q (26, L, .int x :: .ref a :: st, g) ↔ am_kv d 77 Q 27 L st g (am_iat .aaload g a x) := am_E_aaload (by decide +kernel : am_dc 77 26 = some (.aaload)) rfl
theorem x_77_27  : am_E d 77 Q (27, L, st, g) ↔ am_K d 77 Q (am_S 77 (.ldc 22) 27 L st g) := am_E_x (by decide +kernel : am_dc 77 27 = some (.ldc 22))
theorem x_77_29  : am_E d 77 Q (29, L, st, g) ↔ am_K d 77 Q (am_S 77 (.invokestatic 23) 29 L st g) := am_E_x (by decide +kernel : am_dc 77 29 = some (.invokestatic 23))
theorem x_77_32  : am_E d 77 Q (32, L, [], g) ↔ Q (.inl none) g := am_E_return (by decide +kernel : am_dc 77 32 = some (.return_)) (by decide +kernel)
theorem v_77_5 : am_iv 77 5 = some (3, 0, 1) := by decide +kernel
theorem f_77_13 : am_fl 77 13 = some (2, 0) := by decide +kernel
theorem f_77_18 : am_fl 77 18 = some (2, 1) := by decide +kernel
theorem k_77_22 : am_ci 77 22 = some (-2147483648) := by decide +kernel
theorem v_77_23 : am_iv 77 23 = some (0, 311, 2) := by decide +kernel
theorem t_77 : am_t 77 = none := by decide +kernel
theorem h_77 : am_h 77 = [] := by decide +kernel
theorem m_77 : am_m 77 = 1 := by decide +kernel
theorem x_78_0   : am_E d 78 Q (0, L, st, g) ↔ am_E d 78 Q (1, L, .int (0) :: st, g) := am_E_iconst (by decide +kernel : am_dc 78 0 = some (.iconst (0))) (by decide) rfl
theorem x_78_1   : am_E d 78 Q (1, L, st, g) ↔ am_K d 78 Q (am_stI 2 L st g 1) := am_E_istore_n (by decide +kernel : am_dc 78 1 = some (.istore_n 1)) rfl rfl
theorem x_78_2   : am_E d 78 Q (2, L, st, g) ↔ am_E d 78 Q (3, L, .int (0) :: st, g) := am_E_iconst (by decide +kernel : am_dc 78 2 = some (.iconst (0))) (by decide) rfl
theorem x_78_3   : am_E d 78 Q (3, L, st, g) ↔ am_K d 78 Q (am_stI 4 L st g 2) := am_E_istore_n (by decide +kernel : am_dc 78 3 = some (.istore_n 2)) rfl rfl
theorem x_78_4   : am_E d 78 Q (4, L, st, g) ↔ am_K d 78 Q (am_ldI 5 L st g 2) := am_E_iload_n (by decide +kernel : am_dc 78 4 = some (.iload_n 2)) rfl rfl
theorem x_78_5   : am_E d 78 Q (5, L, st, g) ↔ am_K d 78 Q (am_ldA 6 L st g 0) := am_E_aload_n (by decide +kernel : am_dc 78 5 = some (.aload_n 0)) rfl rfl
theorem x_78_6   : am_E d 78 Q (6, L, .ref a :: st, g) ↔ am_kv d 78 Q 9 L st g (am_gf g a 2 1) := am_E_getfield (by decide +kernel : am_dc 78 6 = some (.getfield 18)) (by decide +kernel) rfl
theorem x_78_9   : am_E d 78 Q (9, L, .int y :: .int x :: st, g) ↔ am_E d 78 Q (am_cmp .ge x y 54 12, L, st, g) := am_E_ic (by decide +kernel : am_dc 78 9 = some (.if_icmp .ge (45))) rfl rfl
theorem x_78_12   : am_E d 78 Q (12, L, st, g) ↔ am_E d 78 Q (13, L, .int (0) :: st, g) := am_E_iconst (by decide +kernel : am_dc 78 12 = some (.iconst (0))) (by decide) rfl
theorem x_78_13   : am_E d 78 Q (13, L, st, g) ↔ am_K d 78 Q (am_stI 14 L st g 3) := am_E_istore_n (by decide +kernel : am_dc 78 13 = some (.istore_n 3)) rfl rfl
theorem x_78_14   : am_E d 78 Q (14, L, st, g) ↔ am_K d 78 Q (am_ldI 15 L st g 3) := am_E_iload_n (by decide +kernel : am_dc 78 14 = some (.iload_n 3)) rfl rfl
theorem x_78_15   : am_E d 78 Q (15, L, st, g) ↔ am_E d 78 Q (18, L, .int (216) :: st, g) := am_E_sipush (by decide +kernel : am_dc 78 15 = some (.sipush (216))) (by decide) rfl
theorem x_78_18   : am_E d 78 Q (18, L, .int y :: .int x :: st, g) ↔ am_E d 78 Q (am_cmp .ge x y 48 21, L, st, g) := am_E_ic (by decide +kernel : am_dc 78 18 = some (.if_icmp .ge (30))) rfl rfl
theorem x_78_21   : am_E d 78 Q (21, L, st, g) ↔ am_K d 78 Q (am_ldI 22 L st g 1) := am_E_iload_n (by decide +kernel : am_dc 78 21 = some (.iload_n 1)) rfl rfl
theorem x_78_22   : am_E d 78 Q (22, L, st, g) ↔ am_K d 78 Q (am_ldA 23 L st g 0) := am_E_aload_n (by decide +kernel : am_dc 78 22 = some (.aload_n 0)) rfl rfl
theorem x_78_23   : am_E d 78 Q (23, L, .ref a :: st, g) ↔ am_kv d 78 Q 26 L st g (am_gf g a 2 0) := am_E_getfield (by decide +kernel : am_dc 78 23 = some (.getfield 13)) (by decide +kernel) rfl
theorem x_78_26   : am_E d 78 Q (26, L, st, g) ↔ am_K d 78 Q (am_ldI 27 L st g 2) := am_E_iload_n (by decide +kernel : am_dc 78 26 = some (.iload_n 2)) rfl rfl
theorem x_78_27   : am_E d 78 Q (27, L, .int x :: .ref a :: st, g) ↔ am_kv d 78 Q 28 L st g (am_iat .aaload g a x) := am_E_aaload (by decide +kernel : am_dc 78 27 = some (.aaload)) rfl
theorem x_78_28   : am_E d 78 Q (28, L, st, g) ↔ am_K d 78 Q (am_ldI 29 L st g 3) := am_E_iload_n (by decide +kernel : am_dc 78 28 = some (.iload_n 3)) rfl rfl
theorem x_78_29   : am_E d 78 Q (29, L, .int x :: .ref a :: st, g) ↔ am_kv d 78 Q 30 L st g (am_iat .iaload g a x) := am_E_iaload (by decide +kernel : am_dc 78 29 = some (.iaload)) rfl
theorem x_78_30  : am_E d 78 Q (30, L, st, g) ↔ am_K d 78 Q (am_S 78 (.ldc 22) 30 L st g) := am_E_x (by decide +kernel : am_dc 78 30 = some (.ldc 22))
theorem x_78_32   : am_E d 78 Q (32, L, .int y :: .int x :: st, g) ↔ am_E d 78 Q (am_cmp .ne x y 39 35, L, st, g) := am_E_ic (by decide +kernel : am_dc 78 32 = some (.if_icmp .ne (7))) rfl rfl
theorem x_78_35   : am_E d 78 Q (35, L, st, g) ↔ am_E d 78 Q (36, L, .int (0) :: st, g) := am_E_iconst (by decide +kernel : am_dc 78 35 = some (.iconst (0))) (by decide) rfl
theorem x_78_36   : am_E d 78 Q (36, L, st, g) ↔ am_E d 78 Q (40, L, st, g) := am_E_gt (by decide +kernel : am_dc 78 36 = some (.goto (4))) rfl rfl
theorem x_78_39   : am_E d 78 Q (39, L, st, g) ↔ am_E d 78 Q (40, L, .int (1) :: st, g) := am_E_iconst (by decide +kernel : am_dc 78 39 = some (.iconst (1))) (by decide) rfl
theorem x_78_40   : am_E d 78 Q (40, L, .int y :: .int x :: st, g) ↔ am_E d 78 Q (41, L, .int (x + y) :: st, g) := am_E_iadd (by decide +kernel : am_dc 78 40 = some (.iadd)) rfl
theorem x_78_41   : am_E d 78 Q (41, L, st, g) ↔ am_K d 78 Q (am_stI 42 L st g 1) := am_E_istore_n (by decide +kernel : am_dc 78 41 = some (.istore_n 1)) rfl rfl
theorem x_78_42   (hk : L.getD 3 none = some (.int x)) (hl : 3 < L.length) : am_E d 78 Q (42, L, st, g) ↔ am_E d 78 Q (45, am_s1 L 3 (.int (x + (1))), st, g) := am_E_iinc (by decide +kernel : am_dc 78 42 = some (.iinc 3 (1))) (by decide) rfl hk hl
theorem x_78_45   : am_E d 78 Q (45, L, st, g) ↔ am_E d 78 Q (14, L, st, g) := am_E_gt (by decide +kernel : am_dc 78 45 = some (.goto (-31))) rfl rfl
theorem x_78_48   (hk : L.getD 2 none = some (.int x)) (hl : 2 < L.length) : am_E d 78 Q (48, L, st, g) ↔ am_E d 78 Q (51, am_s1 L 2 (.int (x + (1))), st, g) := am_E_iinc (by decide +kernel : am_dc 78 48 = some (.iinc 2 (1))) (by decide) rfl hk hl
theorem x_78_51   : am_E d 78 Q (51, L, st, g) ↔ am_E d 78 Q (4, L, st, g) := am_E_gt (by decide +kernel : am_dc 78 51 = some (.goto (-47))) rfl rfl
theorem x_78_54   : am_E d 78 Q (54, L, st, g) ↔ am_K d 78 Q (am_ldI 55 L st g 1) := am_E_iload_n (by decide +kernel : am_dc 78 54 = some (.iload_n 1)) rfl rfl
theorem x_78_55  : am_E d 78 Q (55, L, [.int x], g) ↔ if am_ok (FieldType.int) (.int x) = true then Q (.inl (some (.int x))) g else False := am_E_ireturn (by decide +kernel : am_dc 78 55 = some (.ireturn)) (by decide +kernel)
theorem f_78_18 : am_fl 78 18 = some (2, 1) := by decide +kernel
theorem f_78_13 : am_fl 78 13 = some (2, 0) := by decide +kernel
theorem k_78_22 : am_ci 78 22 = some (-2147483648) := by decide +kernel
theorem t_78 : am_t 78 = some (FieldType.int) := by decide +kernel
theorem h_78 : am_h 78 = [] := by decide +kernel
theorem m_78 : am_m 78 = 4 := by decide +kernel
theorem x_79_0   : am_E d 79 Q (0, L, st, g) ↔ am_K d 79 Q (am_ldI 1 L st g 1) := am_E_iload_n (by decide +kernel : am_dc 79 0 = some (.iload_n 1)) rfl rfl
theorem x_79_1   : am_E d 79 Q (1, L, .int x :: st, g) ↔ am_E d 79 Q (am_cmp .lt x 0 16 4, L, st, g) := am_E_if (by decide +kernel : am_dc 79 1 = some (.ifCond .lt (15))) rfl rfl
theorem x_79_4   : am_E d 79 Q (4, L, st, g) ↔ am_K d 79 Q (am_ldI 5 L st g 1) := am_E_iload_n (by decide +kernel : am_dc 79 4 = some (.iload_n 1)) rfl rfl
theorem x_79_5   : am_E d 79 Q (5, L, st, g) ↔ am_K d 79 Q (am_ldA 6 L st g 0) := am_E_aload_n (by decide +kernel : am_dc 79 5 = some (.aload_n 0)) rfl rfl
theorem x_79_6   : am_E d 79 Q (6, L, .ref a :: st, g) ↔ am_kv d 79 Q 9 L st g (am_gf g a 2 1) := am_E_getfield (by decide +kernel : am_dc 79 6 = some (.getfield 18)) (by decide +kernel) rfl
theorem x_79_9   : am_E d 79 Q (9, L, .int y :: .int x :: st, g) ↔ am_E d 79 Q (am_cmp .ge x y 16 12, L, st, g) := am_E_ic (by decide +kernel : am_dc 79 9 = some (.if_icmp .ge (7))) rfl rfl
theorem x_79_12   : am_E d 79 Q (12, L, st, g) ↔ am_E d 79 Q (13, L, .int (1) :: st, g) := am_E_iconst (by decide +kernel : am_dc 79 12 = some (.iconst (1))) (by decide) rfl
theorem x_79_13   : am_E d 79 Q (13, L, st, g) ↔ am_E d 79 Q (17, L, st, g) := am_E_gt (by decide +kernel : am_dc 79 13 = some (.goto (4))) rfl rfl
theorem x_79_16   : am_E d 79 Q (16, L, st, g) ↔ am_E d 79 Q (17, L, .int (0) :: st, g) := am_E_iconst (by decide +kernel : am_dc 79 16 = some (.iconst (0))) (by decide) rfl
theorem x_79_17  : am_E d 79 Q (17, L, [.int x], g) ↔ if am_ok (FieldType.boolean) (.int x) = true then Q (.inl (some (.int x))) g else False := am_E_ireturn (by decide +kernel : am_dc 79 17 = some (.ireturn)) (by decide +kernel)
theorem f_79_18 : am_fl 79 18 = some (2, 1) := by decide +kernel
theorem t_79 : am_t 79 = some (FieldType.boolean) := by decide +kernel
theorem h_79 : am_h 79 = [] := by decide +kernel
theorem m_79 : am_m 79 = 2 := by decide +kernel
theorem x_80_0   : am_E d 80 Q (0, L, st, g) ↔ am_K d 80 Q (am_ldA 1 L st g 0) := am_E_aload_n (by decide +kernel : am_dc 80 0 = some (.aload_n 0)) rfl rfl
theorem x_80_1   : am_E d 80 Q (1, L, .ref a :: st, g) ↔ am_kv d 80 Q 4 L st g (am_gf g a 2 0) := am_E_getfield (by decide +kernel : am_dc 80 1 = some (.getfield 13)) (by decide +kernel) rfl
theorem x_80_4   : am_E d 80 Q (4, L, st, g) ↔ am_K d 80 Q (am_ldA 5 L st g 0) := am_E_aload_n (by decide +kernel : am_dc 80 4 = some (.aload_n 0)) rfl rfl
theorem x_80_5   : am_E d 80 Q (5, L, .ref a :: st, g) ↔ am_kv d 80 Q 8 L st g (am_gf g a 2 1) := am_E_getfield (by decide +kernel : am_dc 80 5 = some (.getfield 18)) (by decide +kernel) rfl
theorem x_80_8   : am_E d 80 Q (8, L, .int x :: .ref a :: st, g) ↔ am_kv d 80 Q 9 L st g (am_iat .aaload g a x) := am_E_aaload (by decide +kernel : am_dc 80 8 = some (.aaload)) rfl
theorem x_80_9  : am_E d 80 Q (9, L, st, g) ↔ am_K d 80 Q (am_S 80 (.ldc 22) 9 L st g) := am_E_x (by decide +kernel : am_dc 80 9 = some (.ldc 22))
theorem x_80_11  : am_E d 80 Q (11, L, st, g) ↔ am_K d 80 Q (am_S 80 (.invokestatic 23) 11 L st g) := am_E_x (by decide +kernel : am_dc 80 11 = some (.invokestatic 23))
theorem x_80_14   : am_E d 80 Q (14, L, st, g) ↔ am_K d 80 Q (am_ldA 15 L st g 0) := am_E_aload_n (by decide +kernel : am_dc 80 14 = some (.aload_n 0)) rfl rfl
theorem x_80_15   : am_E d 80 Q (15, L, v :: st, g) ↔ if v.category = 1 then am_E d 80 Q (16, L, v :: v :: st, g) else False := am_E_dup (by decide +kernel : am_dc 80 15 = some (.dup)) rfl
theorem x_80_16   : am_E d 80 Q (16, L, .ref a :: st, g) ↔ am_kv d 80 Q 19 L st g (am_gf g a 2 1) := am_E_getfield (by decide +kernel : am_dc 80 16 = some (.getfield 18)) (by decide +kernel) rfl
theorem x_80_19   : am_E d 80 Q (19, L, st, g) ↔ am_E d 80 Q (20, L, .int (1) :: st, g) := am_E_iconst (by decide +kernel : am_dc 80 19 = some (.iconst (1))) (by decide) rfl
theorem x_80_20   : am_E d 80 Q (20, L, .int y :: .int x :: st, g) ↔ am_E d 80 Q (21, L, .int (x + y) :: st, g) := am_E_iadd (by decide +kernel : am_dc 80 20 = some (.iadd)) rfl
theorem x_80_21   (hok : (am_ok (am_ft 2 1).1 v && (!(am_ft 2 1).2 || (am_ini 80 && am_co 2 == am_o 80)) && decide (2 < 13)) = true) : am_E d 80 Q (21, L, v :: .ref a :: st, g) ↔ am_kg d 80 Q 24 L st (am_pf g a 2 1 v) := am_E_putfield (by decide +kernel : am_dc 80 21 = some (.putfield 18)) (by decide +kernel) rfl hok
theorem x_80_24   : am_E d 80 Q (24, L, st, g) ↔ am_K d 80 Q (am_ldA 25 L st g 0) := am_E_aload_n (by decide +kernel : am_dc 80 24 = some (.aload_n 0)) rfl rfl
theorem x_80_25   : am_E d 80 Q (25, L, .ref a :: st, g) ↔ am_kv d 80 Q 28 L st g (am_gf g a 2 1) := am_E_getfield (by decide +kernel : am_dc 80 25 = some (.getfield 18)) (by decide +kernel) rfl
theorem x_80_28   : am_E d 80 Q (28, L, st, g) ↔ am_E d 80 Q (29, L, .int (1) :: st, g) := am_E_iconst (by decide +kernel : am_dc 80 28 = some (.iconst (1))) (by decide) rfl
theorem x_80_29   : am_E d 80 Q (29, L, .int y :: .int x :: st, g) ↔ am_E d 80 Q (30, L, .int (x - y) :: st, g) := am_E_isub (by decide +kernel : am_dc 80 29 = some (.isub)) rfl
theorem x_80_30  : am_E d 80 Q (30, L, [.int x], g) ↔ if am_ok (FieldType.int) (.int x) = true then Q (.inl (some (.int x))) g else False := am_E_ireturn (by decide +kernel : am_dc 80 30 = some (.ireturn)) (by decide +kernel)
theorem f_80_13 : am_fl 80 13 = some (2, 0) := by decide +kernel
theorem f_80_18 : am_fl 80 18 = some (2, 1) := by decide +kernel
theorem k_80_22 : am_ci 80 22 = some (-2147483648) := by decide +kernel
theorem v_80_23 : am_iv 80 23 = some (0, 311, 2) := by decide +kernel
theorem t_80 : am_t 80 = some (FieldType.int) := by decide +kernel
theorem h_80 : am_h 80 = [] := by decide +kernel
theorem m_80 : am_m 80 = 1 := by decide +kernel
theorem x_81_0   : am_E d 81 Q (0, L, st, g) ↔ am_K d 81 Q (am_ldA 1 L st g 0) := am_E_aload_n (by decide +kernel : am_dc 81 0 = some (.aload_n 0)) rfl rfl
theorem x_81_1   : am_E d 81 Q (1, L, v :: st, g) ↔ if v.category = 1 then am_E d 81 Q (2, L, v :: v :: st, g) else False := am_E_dup (by decide +kernel : am_dc 81 1 = some (.dup)) rfl
theorem x_81_2   : am_E d 81 Q (2, L, .ref a :: st, g) ↔ am_kv d 81 Q 5 L st g (am_gf g a 2 1) := am_E_getfield (by decide +kernel : am_dc 81 2 = some (.getfield 18)) (by decide +kernel) rfl
theorem x_81_5   : am_E d 81 Q (5, L, st, g) ↔ am_E d 81 Q (6, L, .int (1) :: st, g) := am_E_iconst (by decide +kernel : am_dc 81 5 = some (.iconst (1))) (by decide) rfl
theorem x_81_6   : am_E d 81 Q (6, L, .int y :: .int x :: st, g) ↔ am_E d 81 Q (7, L, .int (x - y) :: st, g) := am_E_isub (by decide +kernel : am_dc 81 6 = some (.isub)) rfl
theorem x_81_7   (hok : (am_ok (am_ft 2 1).1 v && (!(am_ft 2 1).2 || (am_ini 81 && am_co 2 == am_o 81)) && decide (2 < 13)) = true) : am_E d 81 Q (7, L, v :: .ref a :: st, g) ↔ am_kg d 81 Q 10 L st (am_pf g a 2 1 v) := am_E_putfield (by decide +kernel : am_dc 81 7 = some (.putfield 18)) (by decide +kernel) rfl hok
theorem x_81_10   : am_E d 81 Q (10, L, st, g) ↔ am_E d 81 Q (11, L, .int (0) :: st, g) := am_E_iconst (by decide +kernel : am_dc 81 10 = some (.iconst (0))) (by decide) rfl
theorem x_81_11   : am_E d 81 Q (11, L, st, g) ↔ am_K d 81 Q (am_stI 12 L st g 2) := am_E_istore_n (by decide +kernel : am_dc 81 11 = some (.istore_n 2)) rfl rfl
theorem x_81_12   : am_E d 81 Q (12, L, st, g) ↔ am_E d 81 Q (13, L, .int (0) :: st, g) := am_E_iconst (by decide +kernel : am_dc 81 12 = some (.iconst (0))) (by decide) rfl
theorem x_81_13   : am_E d 81 Q (13, L, st, g) ↔ am_K d 81 Q (am_stI 14 L st g 3) := am_E_istore_n (by decide +kernel : am_dc 81 13 = some (.istore_n 3)) rfl rfl
theorem x_81_14   : am_E d 81 Q (14, L, st, g) ↔ am_K d 81 Q (am_ldI 15 L st g 3) := am_E_iload_n (by decide +kernel : am_dc 81 14 = some (.iload_n 3)) rfl rfl
theorem x_81_15   : am_E d 81 Q (15, L, st, g) ↔ am_E d 81 Q (18, L, .int (216) :: st, g) := am_E_sipush (by decide +kernel : am_dc 81 15 = some (.sipush (216))) (by decide) rfl
theorem x_81_18   : am_E d 81 Q (18, L, .int y :: .int x :: st, g) ↔ am_E d 81 Q (am_cmp .ge x y 69 21, L, st, g) := am_E_ic (by decide +kernel : am_dc 81 18 = some (.if_icmp .ge (51))) rfl rfl
theorem x_81_21   : am_E d 81 Q (21, L, st, g) ↔ am_K d 81 Q (am_ldA 22 L st g 0) := am_E_aload_n (by decide +kernel : am_dc 81 21 = some (.aload_n 0)) rfl rfl
theorem x_81_22   : am_E d 81 Q (22, L, .ref a :: st, g) ↔ am_kv d 81 Q 25 L st g (am_gf g a 2 0) := am_E_getfield (by decide +kernel : am_dc 81 22 = some (.getfield 13)) (by decide +kernel) rfl
theorem x_81_25   : am_E d 81 Q (25, L, st, g) ↔ am_K d 81 Q (am_ldA 26 L st g 0) := am_E_aload_n (by decide +kernel : am_dc 81 25 = some (.aload_n 0)) rfl rfl
theorem x_81_26   : am_E d 81 Q (26, L, .ref a :: st, g) ↔ am_kv d 81 Q 29 L st g (am_gf g a 2 1) := am_E_getfield (by decide +kernel : am_dc 81 26 = some (.getfield 18)) (by decide +kernel) rfl
theorem x_81_29   : am_E d 81 Q (29, L, .int x :: .ref a :: st, g) ↔ am_kv d 81 Q 30 L st g (am_iat .aaload g a x) := am_E_aaload (by decide +kernel : am_dc 81 29 = some (.aaload)) rfl
theorem x_81_30   : am_E d 81 Q (30, L, st, g) ↔ am_K d 81 Q (am_ldI 31 L st g 3) := am_E_iload_n (by decide +kernel : am_dc 81 30 = some (.iload_n 3)) rfl rfl
theorem x_81_31   : am_E d 81 Q (31, L, .int x :: .ref a :: st, g) ↔ am_kv d 81 Q 32 L st g (am_iat .iaload g a x) := am_E_iaload (by decide +kernel : am_dc 81 31 = some (.iaload)) rfl
theorem x_81_32   : am_E d 81 Q (32, L, st, g) ↔ am_K d 81 Q (am_stI 34 L st g 4) := am_E_istore (by decide +kernel : am_dc 81 32 = some (.istore 4)) rfl
theorem x_81_34   : am_E d 81 Q (34, L, st, g) ↔ am_K d 81 Q (am_ldI 36 L st g 4) := am_E_iload (by decide +kernel : am_dc 81 34 = some (.iload 4)) rfl
theorem x_81_36  : am_E d 81 Q (36, L, st, g) ↔ am_K d 81 Q (am_S 81 (.ldc 22) 36 L st g) := am_E_x (by decide +kernel : am_dc 81 36 = some (.ldc 22))
theorem x_81_38   : am_E d 81 Q (38, L, .int y :: .int x :: st, g) ↔ am_E d 81 Q (am_cmp .eq x y 63 41, L, st, g) := am_E_ic (by decide +kernel : am_dc 81 38 = some (.if_icmp .eq (25))) rfl rfl
theorem x_81_41   (hk : L.getD 2 none = some (.int x)) (hl : 2 < L.length) : am_E d 81 Q (41, L, st, g) ↔ am_E d 81 Q (44, am_s1 L 2 (.int (x + (1))), st, g) := am_E_iinc (by decide +kernel : am_dc 81 41 = some (.iinc 2 (1))) (by decide) rfl hk hl
theorem x_81_44   : am_E d 81 Q (44, L, st, g) ↔ am_K d 81 Q (am_ldI 45 L st g 1) := am_E_iload_n (by decide +kernel : am_dc 81 44 = some (.iload_n 1)) rfl rfl
theorem x_81_45   : am_E d 81 Q (45, L, .int x :: st, g) ↔ am_E d 81 Q (am_cmp .eq x 0 63 48, L, st, g) := am_E_if (by decide +kernel : am_dc 81 45 = some (.ifCond .eq (18))) rfl rfl
theorem x_81_48   : am_E d 81 Q (48, L, st, g) ↔ am_K d 81 Q (am_ldA 49 L st g 0) := am_E_aload_n (by decide +kernel : am_dc 81 48 = some (.aload_n 0)) rfl rfl
theorem x_81_49   : am_E d 81 Q (49, L, .ref a :: st, g) ↔ am_kv d 81 Q 52 L st g (am_gf g a 2 0) := am_E_getfield (by decide +kernel : am_dc 81 49 = some (.getfield 13)) (by decide +kernel) rfl
theorem x_81_52   : am_E d 81 Q (52, L, st, g) ↔ am_K d 81 Q (am_ldA 53 L st g 0) := am_E_aload_n (by decide +kernel : am_dc 81 52 = some (.aload_n 0)) rfl rfl
theorem x_81_53   : am_E d 81 Q (53, L, .ref a :: st, g) ↔ am_kv d 81 Q 56 L st g (am_gf g a 2 1) := am_E_getfield (by decide +kernel : am_dc 81 53 = some (.getfield 18)) (by decide +kernel) rfl
theorem x_81_56   : am_E d 81 Q (56, L, st, g) ↔ am_E d 81 Q (57, L, .int (1) :: st, g) := am_E_iconst (by decide +kernel : am_dc 81 56 = some (.iconst (1))) (by decide) rfl
theorem x_81_57   : am_E d 81 Q (57, L, .int y :: .int x :: st, g) ↔ am_E d 81 Q (58, L, .int (x - y) :: st, g) := am_E_isub (by decide +kernel : am_dc 81 57 = some (.isub)) rfl
theorem x_81_58   : am_E d 81 Q (58, L, .int x :: .ref a :: st, g) ↔ am_kv d 81 Q 59 L st g (am_iat .aaload g a x) := am_E_aaload (by decide +kernel : am_dc 81 58 = some (.aaload)) rfl
theorem x_81_59   : am_E d 81 Q (59, L, st, g) ↔ am_K d 81 Q (am_ldI 60 L st g 3) := am_E_iload_n (by decide +kernel : am_dc 81 59 = some (.iload_n 3)) rfl rfl
theorem x_81_60   : am_E d 81 Q (60, L, st, g) ↔ am_K d 81 Q (am_ldI 62 L st g 4) := am_E_iload (by decide +kernel : am_dc 81 60 = some (.iload 4)) rfl
theorem x_81_62   : am_E d 81 Q (62, L, v :: .int x :: .ref a :: st, g) ↔ am_kg d 81 Q 63 L st (am_sat .iastore g a x v) := am_E_iastore (by decide +kernel : am_dc 81 62 = some (.iastore)) rfl
theorem x_81_63   (hk : L.getD 3 none = some (.int x)) (hl : 3 < L.length) : am_E d 81 Q (63, L, st, g) ↔ am_E d 81 Q (66, am_s1 L 3 (.int (x + (1))), st, g) := am_E_iinc (by decide +kernel : am_dc 81 63 = some (.iinc 3 (1))) (by decide) rfl hk hl
theorem x_81_66   : am_E d 81 Q (66, L, st, g) ↔ am_E d 81 Q (14, L, st, g) := am_E_gt (by decide +kernel : am_dc 81 66 = some (.goto (-52))) rfl rfl
theorem x_81_69   : am_E d 81 Q (69, L, st, g) ↔ am_K d 81 Q (am_ldI 70 L st g 2) := am_E_iload_n (by decide +kernel : am_dc 81 69 = some (.iload_n 2)) rfl rfl
theorem x_81_70  : am_E d 81 Q (70, L, [.int x], g) ↔ if am_ok (FieldType.int) (.int x) = true then Q (.inl (some (.int x))) g else False := am_E_ireturn (by decide +kernel : am_dc 81 70 = some (.ireturn)) (by decide +kernel)
theorem f_81_18 : am_fl 81 18 = some (2, 1) := by decide +kernel
theorem f_81_13 : am_fl 81 13 = some (2, 0) := by decide +kernel
theorem k_81_22 : am_ci 81 22 = some (-2147483648) := by decide +kernel
theorem t_81 : am_t 81 = some (FieldType.int) := by decide +kernel
theorem h_81 : am_h 81 = [] := by decide +kernel
theorem m_81 : am_m 81 = 5 := by decide +kernel
theorem x_82_0   : am_E d 82 Q (0, L, st, g) ↔ am_K d 82 Q (am_ldI 1 L st g 1) := am_E_iload_n (by decide +kernel : am_dc 82 0 = some (.iload_n 1)) rfl rfl
theorem x_82_1   : am_E d 82 Q (1, L, st, g) ↔ am_K d 82 Q (am_stI 2 L st g 3) := am_E_istore_n (by decide +kernel : am_dc 82 1 = some (.istore_n 3)) rfl rfl
theorem x_82_2   : am_E d 82 Q (2, L, st, g) ↔ am_K d 82 Q (am_ldI 3 L st g 3) := am_E_iload_n (by decide +kernel : am_dc 82 2 = some (.iload_n 3)) rfl rfl
theorem x_82_3   : am_E d 82 Q (3, L, .int x :: st, g) ↔ am_E d 82 Q (am_cmp .lt x 0 34 6, L, st, g) := am_E_if (by decide +kernel : am_dc 82 3 = some (.ifCond .lt (31))) rfl rfl
theorem x_82_6   : am_E d 82 Q (6, L, st, g) ↔ am_K d 82 Q (am_ldA 7 L st g 0) := am_E_aload_n (by decide +kernel : am_dc 82 6 = some (.aload_n 0)) rfl rfl
theorem x_82_7   : am_E d 82 Q (7, L, .ref a :: st, g) ↔ am_kv d 82 Q 10 L st g (am_gf g a 2 0) := am_E_getfield (by decide +kernel : am_dc 82 7 = some (.getfield 13)) (by decide +kernel) rfl
theorem x_82_10   : am_E d 82 Q (10, L, st, g) ↔ am_K d 82 Q (am_ldI 11 L st g 3) := am_E_iload_n (by decide +kernel : am_dc 82 10 = some (.iload_n 3)) rfl rfl
theorem x_82_11   : am_E d 82 Q (11, L, .int x :: .ref a :: st, g) ↔ am_kv d 82 Q 12 L st g (am_iat .aaload g a x) := am_E_aaload (by decide +kernel : am_dc 82 11 = some (.aaload)) rfl
theorem x_82_12   : am_E d 82 Q (12, L, st, g) ↔ am_K d 82 Q (am_ldI 13 L st g 2) := am_E_iload_n (by decide +kernel : am_dc 82 12 = some (.iload_n 2)) rfl rfl
theorem x_82_13   : am_E d 82 Q (13, L, .int x :: .ref a :: st, g) ↔ am_kv d 82 Q 14 L st g (am_iat .iaload g a x) := am_E_iaload (by decide +kernel : am_dc 82 13 = some (.iaload)) rfl
theorem x_82_14  : am_E d 82 Q (14, L, st, g) ↔ am_K d 82 Q (am_S 82 (.ldc 22) 14 L st g) := am_E_x (by decide +kernel : am_dc 82 14 = some (.ldc 22))
theorem x_82_16   : am_E d 82 Q (16, L, .int y :: .int x :: st, g) ↔ am_E d 82 Q (am_cmp .eq x y 28 19, L, st, g) := am_E_ic (by decide +kernel : am_dc 82 16 = some (.if_icmp .eq (12))) rfl rfl
theorem x_82_19   : am_E d 82 Q (19, L, st, g) ↔ am_K d 82 Q (am_ldA 20 L st g 0) := am_E_aload_n (by decide +kernel : am_dc 82 19 = some (.aload_n 0)) rfl rfl
theorem x_82_20   : am_E d 82 Q (20, L, .ref a :: st, g) ↔ am_kv d 82 Q 23 L st g (am_gf g a 2 0) := am_E_getfield (by decide +kernel : am_dc 82 20 = some (.getfield 13)) (by decide +kernel) rfl
theorem x_82_23   : am_E d 82 Q (23, L, st, g) ↔ am_K d 82 Q (am_ldI 24 L st g 3) := am_E_iload_n (by decide +kernel : am_dc 82 23 = some (.iload_n 3)) rfl rfl
theorem x_82_24   : am_E d 82 Q (24, L, .int x :: .ref a :: st, g) ↔ am_kv d 82 Q 25 L st g (am_iat .aaload g a x) := am_E_aaload (by decide +kernel : am_dc 82 24 = some (.aaload)) rfl
theorem x_82_25   : am_E d 82 Q (25, L, st, g) ↔ am_K d 82 Q (am_ldI 26 L st g 2) := am_E_iload_n (by decide +kernel : am_dc 82 25 = some (.iload_n 2)) rfl rfl
theorem x_82_26   : am_E d 82 Q (26, L, .int x :: .ref a :: st, g) ↔ am_kv d 82 Q 27 L st g (am_iat .iaload g a x) := am_E_iaload (by decide +kernel : am_dc 82 26 = some (.iaload)) rfl
theorem x_82_27  : am_E d 82 Q (27, L, [.int x], g) ↔ if am_ok (FieldType.int) (.int x) = true then Q (.inl (some (.int x))) g else False := am_E_ireturn (by decide +kernel : am_dc 82 27 = some (.ireturn)) (by decide +kernel)
theorem x_82_28   (hk : L.getD 3 none = some (.int x)) (hl : 3 < L.length) : am_E d 82 Q (28, L, st, g) ↔ am_E d 82 Q (31, am_s1 L 3 (.int (x + (-1))), st, g) := am_E_iinc (by decide +kernel : am_dc 82 28 = some (.iinc 3 (-1))) (by decide) rfl hk hl
theorem x_82_31   : am_E d 82 Q (31, L, st, g) ↔ am_E d 82 Q (2, L, st, g) := am_E_gt (by decide +kernel : am_dc 82 31 = some (.goto (-29))) rfl rfl
theorem x_82_34  : am_E d 82 Q (34, L, st, g) ↔ am_K d 82 Q (am_S 82 (.ldc 22) 34 L st g) := am_E_x (by decide +kernel : am_dc 82 34 = some (.ldc 22))
theorem x_82_36  : am_E d 82 Q (36, L, [.int x], g) ↔ if am_ok (FieldType.int) (.int x) = true then Q (.inl (some (.int x))) g else False := am_E_ireturn (by decide +kernel : am_dc 82 36 = some (.ireturn)) (by decide +kernel)
theorem f_82_13 : am_fl 82 13 = some (2, 0) := by decide +kernel
theorem k_82_22 : am_ci 82 22 = some (-2147483648) := by decide +kernel
theorem t_82 : am_t 82 = some (FieldType.int) := by decide +kernel
theorem h_82 : am_h 82 = [] := by decide +kernel
theorem m_82 : am_m 82 = 4 := by decide +kernel
theorem x_83_0   : am_E d 83 Q (0, L, st, g) ↔ am_E d 83 Q (1, L, .int (0) :: st, g) := am_E_iconst (by decide +kernel : am_dc 83 0 = some (.iconst (0))) (by decide) rfl
theorem x_83_1   : am_E d 83 Q (1, L, st, g) ↔ am_K d 83 Q (am_stI 2 L st g 3) := am_E_istore_n (by decide +kernel : am_dc 83 1 = some (.istore_n 3)) rfl rfl
theorem x_83_2   : am_E d 83 Q (2, L, st, g) ↔ am_E d 83 Q (3, L, .int (0) :: st, g) := am_E_iconst (by decide +kernel : am_dc 83 2 = some (.iconst (0))) (by decide) rfl
theorem x_83_3   : am_E d 83 Q (3, L, st, g) ↔ am_K d 83 Q (am_stI 5 L st g 4) := am_E_istore (by decide +kernel : am_dc 83 3 = some (.istore 4)) rfl
theorem x_83_5   : am_E d 83 Q (5, L, st, g) ↔ am_K d 83 Q (am_ldI 7 L st g 4) := am_E_iload (by decide +kernel : am_dc 83 5 = some (.iload 4)) rfl
theorem x_83_7   : am_E d 83 Q (7, L, st, g) ↔ am_K d 83 Q (am_ldA 8 L st g 0) := am_E_aload_n (by decide +kernel : am_dc 83 7 = some (.aload_n 0)) rfl rfl
theorem x_83_8   : am_E d 83 Q (8, L, .ref a :: st, g) ↔ am_kv d 83 Q 11 L st g (am_gf g a 2 1) := am_E_getfield (by decide +kernel : am_dc 83 8 = some (.getfield 18)) (by decide +kernel) rfl
theorem x_83_11   : am_E d 83 Q (11, L, .int y :: .int x :: st, g) ↔ am_E d 83 Q (am_cmp .ge x y 89 14, L, st, g) := am_E_ic (by decide +kernel : am_dc 83 11 = some (.if_icmp .ge (78))) rfl rfl
theorem x_83_14   : am_E d 83 Q (14, L, st, g) ↔ am_E d 83 Q (15, L, .int (0) :: st, g) := am_E_iconst (by decide +kernel : am_dc 83 14 = some (.iconst (0))) (by decide) rfl
theorem x_83_15   : am_E d 83 Q (15, L, st, g) ↔ am_K d 83 Q (am_stI 17 L st g 5) := am_E_istore (by decide +kernel : am_dc 83 15 = some (.istore 5)) rfl
theorem x_83_17   : am_E d 83 Q (17, L, st, g) ↔ am_K d 83 Q (am_ldI 19 L st g 5) := am_E_iload (by decide +kernel : am_dc 83 17 = some (.iload 5)) rfl
theorem x_83_19   : am_E d 83 Q (19, L, st, g) ↔ am_E d 83 Q (22, L, .int (216) :: st, g) := am_E_sipush (by decide +kernel : am_dc 83 19 = some (.sipush (216))) (by decide) rfl
theorem x_83_22   : am_E d 83 Q (22, L, .int y :: .int x :: st, g) ↔ am_E d 83 Q (am_cmp .ge x y 83 25, L, st, g) := am_E_ic (by decide +kernel : am_dc 83 22 = some (.if_icmp .ge (61))) rfl rfl
theorem x_83_25   : am_E d 83 Q (25, L, st, g) ↔ am_K d 83 Q (am_ldI 27 L st g 5) := am_E_iload (by decide +kernel : am_dc 83 25 = some (.iload 5)) rfl
theorem x_83_27   : am_E d 83 Q (27, L, st, g) ↔ am_K d 83 Q (am_ldI 28 L st g 1) := am_E_iload_n (by decide +kernel : am_dc 83 27 = some (.iload_n 1)) rfl rfl
theorem x_83_28  : am_E d 83 Q (28, L, st, g) ↔ am_K d 83 Q (am_S 83 (.invokestatic 29) 28 L st g) := am_E_x (by decide +kernel : am_dc 83 28 = some (.invokestatic 29))
theorem x_83_31   : am_E d 83 Q (31, L, st, g) ↔ am_K d 83 Q (am_ldI 32 L st g 2) := am_E_iload_n (by decide +kernel : am_dc 83 31 = some (.iload_n 2)) rfl rfl
theorem x_83_32   : am_E d 83 Q (32, L, .int y :: .int x :: st, g) ↔ am_E d 83 Q (am_cmp .ne x y 39 35, L, st, g) := am_E_ic (by decide +kernel : am_dc 83 32 = some (.if_icmp .ne (7))) rfl rfl
theorem x_83_35   : am_E d 83 Q (35, L, st, g) ↔ am_E d 83 Q (36, L, .int (1) :: st, g) := am_E_iconst (by decide +kernel : am_dc 83 35 = some (.iconst (1))) (by decide) rfl
theorem x_83_36   : am_E d 83 Q (36, L, st, g) ↔ am_E d 83 Q (40, L, st, g) := am_E_gt (by decide +kernel : am_dc 83 36 = some (.goto (4))) rfl rfl
theorem x_83_39   : am_E d 83 Q (39, L, st, g) ↔ am_E d 83 Q (40, L, .int (0) :: st, g) := am_E_iconst (by decide +kernel : am_dc 83 39 = some (.iconst (0))) (by decide) rfl
theorem x_83_40   : am_E d 83 Q (40, L, st, g) ↔ am_K d 83 Q (am_stI 42 L st g 6) := am_E_istore (by decide +kernel : am_dc 83 40 = some (.istore 6)) rfl
theorem x_83_42   : am_E d 83 Q (42, L, st, g) ↔ am_K d 83 Q (am_ldI 44 L st g 6) := am_E_iload (by decide +kernel : am_dc 83 42 = some (.iload 6)) rfl
theorem x_83_44   : am_E d 83 Q (44, L, .int x :: st, g) ↔ am_E d 83 Q (am_cmp .eq x 0 77 47, L, st, g) := am_E_if (by decide +kernel : am_dc 83 44 = some (.ifCond .eq (33))) rfl rfl
theorem x_83_47   : am_E d 83 Q (47, L, st, g) ↔ am_K d 83 Q (am_ldA 48 L st g 0) := am_E_aload_n (by decide +kernel : am_dc 83 47 = some (.aload_n 0)) rfl rfl
theorem x_83_48   : am_E d 83 Q (48, L, .ref a :: st, g) ↔ am_kv d 83 Q 51 L st g (am_gf g a 2 0) := am_E_getfield (by decide +kernel : am_dc 83 48 = some (.getfield 13)) (by decide +kernel) rfl
theorem x_83_51   : am_E d 83 Q (51, L, st, g) ↔ am_K d 83 Q (am_ldI 53 L st g 4) := am_E_iload (by decide +kernel : am_dc 83 51 = some (.iload 4)) rfl
theorem x_83_53   : am_E d 83 Q (53, L, .int x :: .ref a :: st, g) ↔ am_kv d 83 Q 54 L st g (am_iat .aaload g a x) := am_E_aaload (by decide +kernel : am_dc 83 53 = some (.aaload)) rfl
theorem x_83_54   : am_E d 83 Q (54, L, st, g) ↔ am_K d 83 Q (am_ldI 56 L st g 5) := am_E_iload (by decide +kernel : am_dc 83 54 = some (.iload 5)) rfl
theorem x_83_56   : am_E d 83 Q (56, L, .int x :: .ref a :: st, g) ↔ am_kv d 83 Q 57 L st g (am_iat .iaload g a x) := am_E_iaload (by decide +kernel : am_dc 83 56 = some (.iaload)) rfl
theorem x_83_57  : am_E d 83 Q (57, L, st, g) ↔ am_K d 83 Q (am_S 83 (.ldc 22) 57 L st g) := am_E_x (by decide +kernel : am_dc 83 57 = some (.ldc 22))
theorem x_83_59   : am_E d 83 Q (59, L, .int y :: .int x :: st, g) ↔ am_E d 83 Q (am_cmp .eq x y 77 62, L, st, g) := am_E_ic (by decide +kernel : am_dc 83 59 = some (.if_icmp .eq (18))) rfl rfl
theorem x_83_62   : am_E d 83 Q (62, L, st, g) ↔ am_K d 83 Q (am_ldA 63 L st g 0) := am_E_aload_n (by decide +kernel : am_dc 83 62 = some (.aload_n 0)) rfl rfl
theorem x_83_63   : am_E d 83 Q (63, L, .ref a :: st, g) ↔ am_kv d 83 Q 66 L st g (am_gf g a 2 0) := am_E_getfield (by decide +kernel : am_dc 83 63 = some (.getfield 13)) (by decide +kernel) rfl
theorem x_83_66   : am_E d 83 Q (66, L, st, g) ↔ am_K d 83 Q (am_ldI 68 L st g 4) := am_E_iload (by decide +kernel : am_dc 83 66 = some (.iload 4)) rfl
theorem x_83_68   : am_E d 83 Q (68, L, .int x :: .ref a :: st, g) ↔ am_kv d 83 Q 69 L st g (am_iat .aaload g a x) := am_E_aaload (by decide +kernel : am_dc 83 68 = some (.aaload)) rfl
theorem x_83_69   : am_E d 83 Q (69, L, st, g) ↔ am_K d 83 Q (am_ldI 71 L st g 5) := am_E_iload (by decide +kernel : am_dc 83 69 = some (.iload 5)) rfl
theorem x_83_71  : am_E d 83 Q (71, L, st, g) ↔ am_K d 83 Q (am_S 83 (.ldc 22) 71 L st g) := am_E_x (by decide +kernel : am_dc 83 71 = some (.ldc 22))
theorem x_83_73   : am_E d 83 Q (73, L, v :: .int x :: .ref a :: st, g) ↔ am_kg d 83 Q 74 L st (am_sat .iastore g a x v) := am_E_iastore (by decide +kernel : am_dc 83 73 = some (.iastore)) rfl
theorem x_83_74   (hk : L.getD 3 none = some (.int x)) (hl : 3 < L.length) : am_E d 83 Q (74, L, st, g) ↔ am_E d 83 Q (77, am_s1 L 3 (.int (x + (1))), st, g) := am_E_iinc (by decide +kernel : am_dc 83 74 = some (.iinc 3 (1))) (by decide) rfl hk hl
theorem x_83_77   (hk : L.getD 5 none = some (.int x)) (hl : 5 < L.length) : am_E d 83 Q (77, L, st, g) ↔ am_E d 83 Q (80, am_s1 L 5 (.int (x + (1))), st, g) := am_E_iinc (by decide +kernel : am_dc 83 77 = some (.iinc 5 (1))) (by decide) rfl hk hl
theorem x_83_80   : am_E d 83 Q (80, L, st, g) ↔ am_E d 83 Q (17, L, st, g) := am_E_gt (by decide +kernel : am_dc 83 80 = some (.goto (-63))) rfl rfl
theorem x_83_83   (hk : L.getD 4 none = some (.int x)) (hl : 4 < L.length) : am_E d 83 Q (83, L, st, g) ↔ am_E d 83 Q (86, am_s1 L 4 (.int (x + (1))), st, g) := am_E_iinc (by decide +kernel : am_dc 83 83 = some (.iinc 4 (1))) (by decide) rfl hk hl
theorem x_83_86   : am_E d 83 Q (86, L, st, g) ↔ am_E d 83 Q (5, L, st, g) := am_E_gt (by decide +kernel : am_dc 83 86 = some (.goto (-81))) rfl rfl
theorem x_83_89   : am_E d 83 Q (89, L, st, g) ↔ am_K d 83 Q (am_ldI 90 L st g 3) := am_E_iload_n (by decide +kernel : am_dc 83 89 = some (.iload_n 3)) rfl rfl
theorem x_83_90  : am_E d 83 Q (90, L, [.int x], g) ↔ if am_ok (FieldType.int) (.int x) = true then Q (.inl (some (.int x))) g else False := am_E_ireturn (by decide +kernel : am_dc 83 90 = some (.ireturn)) (by decide +kernel)
theorem f_83_18 : am_fl 83 18 = some (2, 1) := by decide +kernel
theorem v_83_29 : am_iv 83 29 = some (0, 131, 2) := by decide +kernel
theorem f_83_13 : am_fl 83 13 = some (2, 0) := by decide +kernel
theorem k_83_22 : am_ci 83 22 = some (-2147483648) := by decide +kernel
theorem t_83 : am_t 83 = some (FieldType.int) := by decide +kernel
theorem h_83 : am_h 83 = [] := by decide +kernel
theorem m_83 : am_m 83 = 7 := by decide +kernel
theorem x_84_0   : am_E d 84 Q (0, L, st, g) ↔ am_K d 84 Q (am_ldA 1 L st g 0) := am_E_aload_n (by decide +kernel : am_dc 84 0 = some (.aload_n 0)) rfl rfl
theorem x_84_1  : am_E d 84 Q (1, L, st, g) ↔ am_K d 84 Q (am_S 84 (.invokespecial 3) 1 L st g) := am_E_x (by decide +kernel : am_dc 84 1 = some (.invokespecial 3))
theorem x_84_4   : am_E d 84 Q (4, L, st, g) ↔ am_K d 84 Q (am_ldA 5 L st g 0) := am_E_aload_n (by decide +kernel : am_dc 84 4 = some (.aload_n 0)) rfl rfl
theorem x_84_5   : am_E d 84 Q (5, L, st, g) ↔ am_E d 84 Q (7, L, .int (12) :: st, g) := am_E_bipush (by decide +kernel : am_dc 84 5 = some (.bipush (12))) (by decide) rfl
theorem x_84_7   : am_E d 84 Q (7, L, st, g) ↔ am_E d 84 Q (10, L, .int (216) :: st, g) := am_E_sipush (by decide +kernel : am_dc 84 7 = some (.sipush (216))) (by decide) rfl
theorem x_84_10  : am_E d 84 Q (10, L, st, g) ↔ am_K d 84 Q (am_S 84 (.multianewarray 9 2) 10 L st g) := am_E_x (by decide +kernel : am_dc 84 10 = some (.multianewarray 9 2))
theorem x_84_14   (hok : (am_ok (am_ft 3 1).1 v && (!(am_ft 3 1).2 || (am_ini 84 && am_co 3 == am_o 84)) && decide (3 < 13)) = true) : am_E d 84 Q (14, L, v :: .ref a :: st, g) ↔ am_kg d 84 Q 17 L st (am_pf g a 3 1 v) := am_E_putfield (by decide +kernel : am_dc 84 14 = some (.putfield 11)) (by decide +kernel) rfl hok
theorem x_84_17   : am_E d 84 Q (17, L, st, g) ↔ am_K d 84 Q (am_ldA 18 L st g 0) := am_E_aload_n (by decide +kernel : am_dc 84 17 = some (.aload_n 0)) rfl rfl
theorem x_84_18   : am_E d 84 Q (18, L, st, g) ↔ am_E d 84 Q (20, L, .int (12) :: st, g) := am_E_bipush (by decide +kernel : am_dc 84 18 = some (.bipush (12))) (by decide) rfl
theorem x_84_20  : am_E d 84 Q (20, L, st, g) ↔ am_K d 84 Q (am_S 84 (.newarray .int) 20 L st g) := am_E_x (by decide +kernel : am_dc 84 20 = some (.newarray .int))
theorem x_84_22   (hok : (am_ok (am_ft 3 2).1 v && (!(am_ft 3 2).2 || (am_ini 84 && am_co 3 == am_o 84)) && decide (3 < 13)) = true) : am_E d 84 Q (22, L, v :: .ref a :: st, g) ↔ am_kg d 84 Q 25 L st (am_pf g a 3 2 v) := am_E_putfield (by decide +kernel : am_dc 84 22 = some (.putfield 16)) (by decide +kernel) rfl hok
theorem x_84_25   : am_E d 84 Q (25, L, st, g) ↔ am_K d 84 Q (am_ldA 26 L st g 0) := am_E_aload_n (by decide +kernel : am_dc 84 25 = some (.aload_n 0)) rfl rfl
theorem x_84_26   : am_E d 84 Q (26, L, st, g) ↔ am_K d 84 Q (am_ldA 27 L st g 1) := am_E_aload_n (by decide +kernel : am_dc 84 26 = some (.aload_n 1)) rfl rfl
theorem x_84_27   (hok : (am_ok (am_ft 3 0).1 v && (!(am_ft 3 0).2 || (am_ini 84 && am_co 3 == am_o 84)) && decide (3 < 13)) = true) : am_E d 84 Q (27, L, v :: .ref a :: st, g) ↔ am_kg d 84 Q 30 L st (am_pf g a 3 0 v) := am_E_putfield (by decide +kernel : am_dc 84 27 = some (.putfield 20)) (by decide +kernel) rfl hok
theorem x_84_30  : am_E d 84 Q (30, L, [], g) ↔ Q (.inl none) g := am_E_return (by decide +kernel : am_dc 84 30 = some (.return_)) (by decide +kernel)
theorem v_84_3 : am_iv 84 3 = some (3, 0, 1) := by decide +kernel
theorem f_84_11 : am_fl 84 11 = some (3, 1) := by decide +kernel
theorem f_84_16 : am_fl 84 16 = some (3, 2) := by decide +kernel
theorem f_84_20 : am_fl 84 20 = some (3, 0) := by decide +kernel
theorem t_84 : am_t 84 = none := by decide +kernel
theorem h_84 : am_h 84 = [] := by decide +kernel
theorem m_84 : am_m 84 = 2 := by decide +kernel
theorem x_85_0   : am_E d 85 Q (0, L, st, g) ↔ am_K d 85 Q (am_ldA 1 L st g 0) := am_E_aload_n (by decide +kernel : am_dc 85 0 = some (.aload_n 0)) rfl rfl
theorem x_85_1   : am_E d 85 Q (1, L, .ref a :: st, g) ↔ am_kv d 85 Q 4 L st g (am_gf g a 3 0) := am_E_getfield (by decide +kernel : am_dc 85 1 = some (.getfield 20)) (by decide +kernel) rfl
theorem x_85_4   : am_E d 85 Q (4, L, .ref a :: st, g) ↔ am_kv d 85 Q 7 L st g (am_gf g a 2 0) := am_E_getfield (by decide +kernel : am_dc 85 4 = some (.getfield 34)) (by decide +kernel) rfl
theorem x_85_7   : am_E d 85 Q (7, L, st, g) ↔ am_K d 85 Q (am_ldA 8 L st g 0) := am_E_aload_n (by decide +kernel : am_dc 85 7 = some (.aload_n 0)) rfl rfl
theorem x_85_8   : am_E d 85 Q (8, L, .ref a :: st, g) ↔ am_kv d 85 Q 11 L st g (am_gf g a 3 2) := am_E_getfield (by decide +kernel : am_dc 85 8 = some (.getfield 16)) (by decide +kernel) rfl
theorem x_85_11   : am_E d 85 Q (11, L, st, g) ↔ am_K d 85 Q (am_ldI 12 L st g 1) := am_E_iload_n (by decide +kernel : am_dc 85 11 = some (.iload_n 1)) rfl rfl
theorem x_85_12   : am_E d 85 Q (12, L, .int x :: .ref a :: st, g) ↔ am_kv d 85 Q 13 L st g (am_iat .iaload g a x) := am_E_iaload (by decide +kernel : am_dc 85 12 = some (.iaload)) rfl
theorem x_85_13   : am_E d 85 Q (13, L, .int x :: .ref a :: st, g) ↔ am_kv d 85 Q 14 L st g (am_iat .aaload g a x) := am_E_aaload (by decide +kernel : am_dc 85 13 = some (.aaload)) rfl
theorem x_85_14   : am_E d 85 Q (14, L, st, g) ↔ am_K d 85 Q (am_stA 15 L st g 2) := am_E_astore_n (by decide +kernel : am_dc 85 14 = some (.astore_n 2)) rfl rfl
theorem x_85_15   : am_E d 85 Q (15, L, st, g) ↔ am_K d 85 Q (am_ldA 16 L st g 0) := am_E_aload_n (by decide +kernel : am_dc 85 15 = some (.aload_n 0)) rfl rfl
theorem x_85_16   : am_E d 85 Q (16, L, .ref a :: st, g) ↔ am_kv d 85 Q 19 L st g (am_gf g a 3 1) := am_E_getfield (by decide +kernel : am_dc 85 16 = some (.getfield 11)) (by decide +kernel) rfl
theorem x_85_19   : am_E d 85 Q (19, L, st, g) ↔ am_K d 85 Q (am_ldI 20 L st g 1) := am_E_iload_n (by decide +kernel : am_dc 85 19 = some (.iload_n 1)) rfl rfl
theorem x_85_20   : am_E d 85 Q (20, L, .int x :: .ref a :: st, g) ↔ am_kv d 85 Q 21 L st g (am_iat .aaload g a x) := am_E_aaload (by decide +kernel : am_dc 85 20 = some (.aaload)) rfl
theorem x_85_21   : am_E d 85 Q (21, L, st, g) ↔ am_K d 85 Q (am_stA 22 L st g 3) := am_E_astore_n (by decide +kernel : am_dc 85 21 = some (.astore_n 3)) rfl rfl
theorem x_85_22   : am_E d 85 Q (22, L, st, g) ↔ am_E d 85 Q (23, L, .int (0) :: st, g) := am_E_iconst (by decide +kernel : am_dc 85 22 = some (.iconst (0))) (by decide) rfl
theorem x_85_23   : am_E d 85 Q (23, L, st, g) ↔ am_K d 85 Q (am_stI 25 L st g 4) := am_E_istore (by decide +kernel : am_dc 85 23 = some (.istore 4)) rfl
theorem x_85_25   : am_E d 85 Q (25, L, st, g) ↔ am_K d 85 Q (am_ldI 27 L st g 4) := am_E_iload (by decide +kernel : am_dc 85 25 = some (.iload 4)) rfl
theorem x_85_27   : am_E d 85 Q (27, L, st, g) ↔ am_E d 85 Q (30, L, .int (216) :: st, g) := am_E_sipush (by decide +kernel : am_dc 85 27 = some (.sipush (216))) (by decide) rfl
theorem x_85_30   : am_E d 85 Q (30, L, .int y :: .int x :: st, g) ↔ am_E d 85 Q (am_cmp .ge x y 59 33, L, st, g) := am_E_ic (by decide +kernel : am_dc 85 30 = some (.if_icmp .ge (29))) rfl rfl
theorem x_85_33   : am_E d 85 Q (33, L, st, g) ↔ am_K d 85 Q (am_ldA 34 L st g 2) := am_E_aload_n (by decide +kernel : am_dc 85 33 = some (.aload_n 2)) rfl rfl
theorem x_85_34   : am_E d 85 Q (34, L, st, g) ↔ am_K d 85 Q (am_ldI 36 L st g 4) := am_E_iload (by decide +kernel : am_dc 85 34 = some (.iload 4)) rfl
theorem x_85_36   : am_E d 85 Q (36, L, .int x :: .ref a :: st, g) ↔ am_kv d 85 Q 37 L st g (am_iat .iaload g a x) := am_E_iaload (by decide +kernel : am_dc 85 36 = some (.iaload)) rfl
theorem x_85_37   : am_E d 85 Q (37, L, st, g) ↔ am_K d 85 Q (am_stI 39 L st g 5) := am_E_istore (by decide +kernel : am_dc 85 37 = some (.istore 5)) rfl
theorem x_85_39   : am_E d 85 Q (39, L, st, g) ↔ am_K d 85 Q (am_ldA 40 L st g 2) := am_E_aload_n (by decide +kernel : am_dc 85 39 = some (.aload_n 2)) rfl rfl
theorem x_85_40   : am_E d 85 Q (40, L, st, g) ↔ am_K d 85 Q (am_ldI 42 L st g 4) := am_E_iload (by decide +kernel : am_dc 85 40 = some (.iload 4)) rfl
theorem x_85_42   : am_E d 85 Q (42, L, st, g) ↔ am_K d 85 Q (am_ldA 43 L st g 3) := am_E_aload_n (by decide +kernel : am_dc 85 42 = some (.aload_n 3)) rfl rfl
theorem x_85_43   : am_E d 85 Q (43, L, st, g) ↔ am_K d 85 Q (am_ldI 45 L st g 4) := am_E_iload (by decide +kernel : am_dc 85 43 = some (.iload 4)) rfl
theorem x_85_45   : am_E d 85 Q (45, L, .int x :: .ref a :: st, g) ↔ am_kv d 85 Q 46 L st g (am_iat .iaload g a x) := am_E_iaload (by decide +kernel : am_dc 85 45 = some (.iaload)) rfl
theorem x_85_46   : am_E d 85 Q (46, L, v :: .int x :: .ref a :: st, g) ↔ am_kg d 85 Q 47 L st (am_sat .iastore g a x v) := am_E_iastore (by decide +kernel : am_dc 85 46 = some (.iastore)) rfl
theorem x_85_47   : am_E d 85 Q (47, L, st, g) ↔ am_K d 85 Q (am_ldA 48 L st g 3) := am_E_aload_n (by decide +kernel : am_dc 85 47 = some (.aload_n 3)) rfl rfl
theorem x_85_48   : am_E d 85 Q (48, L, st, g) ↔ am_K d 85 Q (am_ldI 50 L st g 4) := am_E_iload (by decide +kernel : am_dc 85 48 = some (.iload 4)) rfl
theorem x_85_50   : am_E d 85 Q (50, L, st, g) ↔ am_K d 85 Q (am_ldI 52 L st g 5) := am_E_iload (by decide +kernel : am_dc 85 50 = some (.iload 5)) rfl
theorem x_85_52   : am_E d 85 Q (52, L, v :: .int x :: .ref a :: st, g) ↔ am_kg d 85 Q 53 L st (am_sat .iastore g a x v) := am_E_iastore (by decide +kernel : am_dc 85 52 = some (.iastore)) rfl
theorem x_85_53   (hk : L.getD 4 none = some (.int x)) (hl : 4 < L.length) : am_E d 85 Q (53, L, st, g) ↔ am_E d 85 Q (56, am_s1 L 4 (.int (x + (1))), st, g) := am_E_iinc (by decide +kernel : am_dc 85 53 = some (.iinc 4 (1))) (by decide) rfl hk hl
theorem x_85_56   : am_E d 85 Q (56, L, st, g) ↔ am_E d 85 Q (25, L, st, g) := am_E_gt (by decide +kernel : am_dc 85 56 = some (.goto (-31))) rfl rfl
theorem x_85_59  : am_E d 85 Q (59, L, [], g) ↔ Q (.inl none) g := am_E_return (by decide +kernel : am_dc 85 59 = some (.return_)) (by decide +kernel)
theorem f_85_20 : am_fl 85 20 = some (3, 0) := by decide +kernel
theorem f_85_34 : am_fl 85 34 = some (2, 0) := by decide +kernel
theorem f_85_16 : am_fl 85 16 = some (3, 2) := by decide +kernel
theorem f_85_11 : am_fl 85 11 = some (3, 1) := by decide +kernel
theorem t_85 : am_t 85 = none := by decide +kernel
theorem h_85 : am_h 85 = [] := by decide +kernel
theorem m_85 : am_m 85 = 6 := by decide +kernel
theorem x_86_0   : am_E d 86 Q (0, L, st, g) ↔ am_K d 86 Q (am_ldA 1 L st g 0) := am_E_aload_n (by decide +kernel : am_dc 86 0 = some (.aload_n 0)) rfl rfl
theorem x_86_1   : am_E d 86 Q (1, L, st, g) ↔ am_E d 86 Q (2, L, .int (0) :: st, g) := am_E_iconst (by decide +kernel : am_dc 86 1 = some (.iconst (0))) (by decide) rfl
theorem x_86_2   (hok : (am_ok (am_ft 3 4).1 v && (!(am_ft 3 4).2 || (am_ini 86 && am_co 3 == am_o 86)) && decide (3 < 13)) = true) : am_E d 86 Q (2, L, v :: .ref a :: st, g) ↔ am_kg d 86 Q 5 L st (am_pf g a 3 4 v) := am_E_putfield (by decide +kernel : am_dc 86 2 = some (.putfield 24)) (by decide +kernel) rfl hok
theorem x_86_5   : am_E d 86 Q (5, L, st, g) ↔ am_K d 86 Q (am_ldA 6 L st g 0) := am_E_aload_n (by decide +kernel : am_dc 86 5 = some (.aload_n 0)) rfl rfl
theorem x_86_6   : am_E d 86 Q (6, L, st, g) ↔ am_E d 86 Q (7, L, .int (0) :: st, g) := am_E_iconst (by decide +kernel : am_dc 86 6 = some (.iconst (0))) (by decide) rfl
theorem x_86_7   (hok : (am_ok (am_ft 3 5).1 v && (!(am_ft 3 5).2 || (am_ini 86 && am_co 3 == am_o 86)) && decide (3 < 13)) = true) : am_E d 86 Q (7, L, v :: .ref a :: st, g) ↔ am_kg d 86 Q 10 L st (am_pf g a 3 5 v) := am_E_putfield (by decide +kernel : am_dc 86 7 = some (.putfield 28)) (by decide +kernel) rfl hok
theorem x_86_10  : am_E d 86 Q (10, L, [], g) ↔ Q (.inl none) g := am_E_return (by decide +kernel : am_dc 86 10 = some (.return_)) (by decide +kernel)
theorem f_86_24 : am_fl 86 24 = some (3, 4) := by decide +kernel
theorem f_86_28 : am_fl 86 28 = some (3, 5) := by decide +kernel
theorem t_86 : am_t 86 = none := by decide +kernel
theorem h_86 : am_h 86 = [] := by decide +kernel
theorem m_86 : am_m 86 = 1 := by decide +kernel
theorem x_87_0   : am_E d 87 Q (0, L, st, g) ↔ am_K d 87 Q (am_ldA 1 L st g 0) := am_E_aload_n (by decide +kernel : am_dc 87 0 = some (.aload_n 0)) rfl rfl
theorem x_87_1   : am_E d 87 Q (1, L, .ref a :: st, g) ↔ am_kv d 87 Q 4 L st g (am_gf g a 3 4) := am_E_getfield (by decide +kernel : am_dc 87 1 = some (.getfield 24)) (by decide +kernel) rfl
theorem x_87_4   : am_E d 87 Q (4, L, st, g) ↔ am_E d 87 Q (6, L, .int (12) :: st, g) := am_E_bipush (by decide +kernel : am_dc 87 4 = some (.bipush (12))) (by decide) rfl
theorem x_87_6   : am_E d 87 Q (6, L, .int y :: .int x :: st, g) ↔ am_E d 87 Q (am_cmp .ne x y 32 9, L, st, g) := am_E_ic (by decide +kernel : am_dc 87 6 = some (.if_icmp .ne (26))) rfl rfl
theorem x_87_9   : am_E d 87 Q (9, L, st, g) ↔ am_K d 87 Q (am_ldA 10 L st g 0) := am_E_aload_n (by decide +kernel : am_dc 87 9 = some (.aload_n 0)) rfl rfl
theorem x_87_10   : am_E d 87 Q (10, L, st, g) ↔ am_K d 87 Q (am_ldA 11 L st g 0) := am_E_aload_n (by decide +kernel : am_dc 87 10 = some (.aload_n 0)) rfl rfl
theorem x_87_11   : am_E d 87 Q (11, L, .ref a :: st, g) ↔ am_kv d 87 Q 14 L st g (am_gf g a 3 3) := am_E_getfield (by decide +kernel : am_dc 87 11 = some (.getfield 31)) (by decide +kernel) rfl
theorem x_87_14   : am_E d 87 Q (14, L, st, g) ↔ am_E d 87 Q (15, L, .int (1) :: st, g) := am_E_iconst (by decide +kernel : am_dc 87 14 = some (.iconst (1))) (by decide) rfl
theorem x_87_15   : am_E d 87 Q (15, L, .int y :: .int x :: st, g) ↔ am_E d 87 Q (16, L, .int (x + y) :: st, g) := am_E_iadd (by decide +kernel : am_dc 87 15 = some (.iadd)) rfl
theorem x_87_16   : am_E d 87 Q (16, L, st, g) ↔ am_E d 87 Q (18, L, .int (12) :: st, g) := am_E_bipush (by decide +kernel : am_dc 87 16 = some (.bipush (12))) (by decide) rfl
theorem x_87_18   : am_E d 87 Q (18, L, .int y :: .int x :: st, g) ↔ if y = 0 then False else am_E d 87 Q (19, L, .int (x - x / y * y) :: st, g) := am_E_irem (by decide +kernel : am_dc 87 18 = some (.irem)) rfl
theorem x_87_19   (hok : (am_ok (am_ft 3 3).1 v && (!(am_ft 3 3).2 || (am_ini 87 && am_co 3 == am_o 87)) && decide (3 < 13)) = true) : am_E d 87 Q (19, L, v :: .ref a :: st, g) ↔ am_kg d 87 Q 22 L st (am_pf g a 3 3 v) := am_E_putfield (by decide +kernel : am_dc 87 19 = some (.putfield 31)) (by decide +kernel) rfl hok
theorem x_87_22   : am_E d 87 Q (22, L, st, g) ↔ am_K d 87 Q (am_ldA 23 L st g 0) := am_E_aload_n (by decide +kernel : am_dc 87 22 = some (.aload_n 0)) rfl rfl
theorem x_87_23   : am_E d 87 Q (23, L, v :: st, g) ↔ if v.category = 1 then am_E d 87 Q (24, L, v :: v :: st, g) else False := am_E_dup (by decide +kernel : am_dc 87 23 = some (.dup)) rfl
theorem x_87_24   : am_E d 87 Q (24, L, .ref a :: st, g) ↔ am_kv d 87 Q 27 L st g (am_gf g a 3 4) := am_E_getfield (by decide +kernel : am_dc 87 24 = some (.getfield 24)) (by decide +kernel) rfl
theorem x_87_27   : am_E d 87 Q (27, L, st, g) ↔ am_E d 87 Q (28, L, .int (1) :: st, g) := am_E_iconst (by decide +kernel : am_dc 87 27 = some (.iconst (1))) (by decide) rfl
theorem x_87_28   : am_E d 87 Q (28, L, .int y :: .int x :: st, g) ↔ am_E d 87 Q (29, L, .int (x - y) :: st, g) := am_E_isub (by decide +kernel : am_dc 87 28 = some (.isub)) rfl
theorem x_87_29   (hok : (am_ok (am_ft 3 4).1 v && (!(am_ft 3 4).2 || (am_ini 87 && am_co 3 == am_o 87)) && decide (3 < 13)) = true) : am_E d 87 Q (29, L, v :: .ref a :: st, g) ↔ am_kg d 87 Q 32 L st (am_pf g a 3 4 v) := am_E_putfield (by decide +kernel : am_dc 87 29 = some (.putfield 24)) (by decide +kernel) rfl hok
theorem x_87_32   : am_E d 87 Q (32, L, st, g) ↔ am_K d 87 Q (am_ldA 33 L st g 0) := am_E_aload_n (by decide +kernel : am_dc 87 32 = some (.aload_n 0)) rfl rfl
theorem x_87_33   : am_E d 87 Q (33, L, .ref a :: st, g) ↔ am_kv d 87 Q 36 L st g (am_gf g a 3 3) := am_E_getfield (by decide +kernel : am_dc 87 33 = some (.getfield 31)) (by decide +kernel) rfl
theorem x_87_36   : am_E d 87 Q (36, L, st, g) ↔ am_K d 87 Q (am_ldA 37 L st g 0) := am_E_aload_n (by decide +kernel : am_dc 87 36 = some (.aload_n 0)) rfl rfl
theorem x_87_37   : am_E d 87 Q (37, L, .ref a :: st, g) ↔ am_kv d 87 Q 40 L st g (am_gf g a 3 4) := am_E_getfield (by decide +kernel : am_dc 87 37 = some (.getfield 24)) (by decide +kernel) rfl
theorem x_87_40   : am_E d 87 Q (40, L, .int y :: .int x :: st, g) ↔ am_E d 87 Q (41, L, .int (x + y) :: st, g) := am_E_iadd (by decide +kernel : am_dc 87 40 = some (.iadd)) rfl
theorem x_87_41   : am_E d 87 Q (41, L, st, g) ↔ am_E d 87 Q (43, L, .int (12) :: st, g) := am_E_bipush (by decide +kernel : am_dc 87 41 = some (.bipush (12))) (by decide) rfl
theorem x_87_43   : am_E d 87 Q (43, L, .int y :: .int x :: st, g) ↔ if y = 0 then False else am_E d 87 Q (44, L, .int (x - x / y * y) :: st, g) := am_E_irem (by decide +kernel : am_dc 87 43 = some (.irem)) rfl
theorem x_87_44   : am_E d 87 Q (44, L, st, g) ↔ am_K d 87 Q (am_stI 45 L st g 2) := am_E_istore_n (by decide +kernel : am_dc 87 44 = some (.istore_n 2)) rfl rfl
theorem x_87_45   : am_E d 87 Q (45, L, st, g) ↔ am_K d 87 Q (am_ldA 46 L st g 0) := am_E_aload_n (by decide +kernel : am_dc 87 45 = some (.aload_n 0)) rfl rfl
theorem x_87_46   : am_E d 87 Q (46, L, .ref a :: st, g) ↔ am_kv d 87 Q 49 L st g (am_gf g a 3 0) := am_E_getfield (by decide +kernel : am_dc 87 46 = some (.getfield 20)) (by decide +kernel) rfl
theorem x_87_49   : am_E d 87 Q (49, L, .ref a :: st, g) ↔ am_kv d 87 Q 52 L st g (am_gf g a 2 0) := am_E_getfield (by decide +kernel : am_dc 87 49 = some (.getfield 34)) (by decide +kernel) rfl
theorem x_87_52   : am_E d 87 Q (52, L, st, g) ↔ am_K d 87 Q (am_ldI 53 L st g 1) := am_E_iload_n (by decide +kernel : am_dc 87 52 = some (.iload_n 1)) rfl rfl
theorem x_87_53   : am_E d 87 Q (53, L, .int x :: .ref a :: st, g) ↔ am_kv d 87 Q 54 L st g (am_iat .aaload g a x) := am_E_aaload (by decide +kernel : am_dc 87 53 = some (.aaload)) rfl
theorem x_87_54   : am_E d 87 Q (54, L, st, g) ↔ am_E d 87 Q (55, L, .int (0) :: st, g) := am_E_iconst (by decide +kernel : am_dc 87 54 = some (.iconst (0))) (by decide) rfl
theorem x_87_55   : am_E d 87 Q (55, L, st, g) ↔ am_K d 87 Q (am_ldA 56 L st g 0) := am_E_aload_n (by decide +kernel : am_dc 87 55 = some (.aload_n 0)) rfl rfl
theorem x_87_56   : am_E d 87 Q (56, L, .ref a :: st, g) ↔ am_kv d 87 Q 59 L st g (am_gf g a 3 1) := am_E_getfield (by decide +kernel : am_dc 87 56 = some (.getfield 11)) (by decide +kernel) rfl
theorem x_87_59   : am_E d 87 Q (59, L, st, g) ↔ am_K d 87 Q (am_ldI 60 L st g 2) := am_E_iload_n (by decide +kernel : am_dc 87 59 = some (.iload_n 2)) rfl rfl
theorem x_87_60   : am_E d 87 Q (60, L, .int x :: .ref a :: st, g) ↔ am_kv d 87 Q 61 L st g (am_iat .aaload g a x) := am_E_aaload (by decide +kernel : am_dc 87 60 = some (.aaload)) rfl
theorem x_87_61   : am_E d 87 Q (61, L, st, g) ↔ am_E d 87 Q (62, L, .int (0) :: st, g) := am_E_iconst (by decide +kernel : am_dc 87 61 = some (.iconst (0))) (by decide) rfl
theorem x_87_62   : am_E d 87 Q (62, L, st, g) ↔ am_E d 87 Q (65, L, .int (216) :: st, g) := am_E_sipush (by decide +kernel : am_dc 87 62 = some (.sipush (216))) (by decide) rfl
theorem x_87_65  : am_E d 87 Q (65, L, st, g) ↔ am_K d 87 Q (am_S 87 (.invokestatic 39) 65 L st g) := am_E_x (by decide +kernel : am_dc 87 65 = some (.invokestatic 39))
theorem x_87_68   : am_E d 87 Q (68, L, st, g) ↔ am_K d 87 Q (am_ldA 69 L st g 0) := am_E_aload_n (by decide +kernel : am_dc 87 68 = some (.aload_n 0)) rfl rfl
theorem x_87_69   : am_E d 87 Q (69, L, .ref a :: st, g) ↔ am_kv d 87 Q 72 L st g (am_gf g a 3 2) := am_E_getfield (by decide +kernel : am_dc 87 69 = some (.getfield 16)) (by decide +kernel) rfl
theorem x_87_72   : am_E d 87 Q (72, L, st, g) ↔ am_K d 87 Q (am_ldI 73 L st g 2) := am_E_iload_n (by decide +kernel : am_dc 87 72 = some (.iload_n 2)) rfl rfl
theorem x_87_73   : am_E d 87 Q (73, L, st, g) ↔ am_K d 87 Q (am_ldI 74 L st g 1) := am_E_iload_n (by decide +kernel : am_dc 87 73 = some (.iload_n 1)) rfl rfl
theorem x_87_74   : am_E d 87 Q (74, L, v :: .int x :: .ref a :: st, g) ↔ am_kg d 87 Q 75 L st (am_sat .iastore g a x v) := am_E_iastore (by decide +kernel : am_dc 87 74 = some (.iastore)) rfl
theorem x_87_75   : am_E d 87 Q (75, L, st, g) ↔ am_K d 87 Q (am_ldA 76 L st g 0) := am_E_aload_n (by decide +kernel : am_dc 87 75 = some (.aload_n 0)) rfl rfl
theorem x_87_76   : am_E d 87 Q (76, L, v :: st, g) ↔ if v.category = 1 then am_E d 87 Q (77, L, v :: v :: st, g) else False := am_E_dup (by decide +kernel : am_dc 87 76 = some (.dup)) rfl
theorem x_87_77   : am_E d 87 Q (77, L, .ref a :: st, g) ↔ am_kv d 87 Q 80 L st g (am_gf g a 3 4) := am_E_getfield (by decide +kernel : am_dc 87 77 = some (.getfield 24)) (by decide +kernel) rfl
theorem x_87_80   : am_E d 87 Q (80, L, st, g) ↔ am_E d 87 Q (81, L, .int (1) :: st, g) := am_E_iconst (by decide +kernel : am_dc 87 80 = some (.iconst (1))) (by decide) rfl
theorem x_87_81   : am_E d 87 Q (81, L, .int y :: .int x :: st, g) ↔ am_E d 87 Q (82, L, .int (x + y) :: st, g) := am_E_iadd (by decide +kernel : am_dc 87 81 = some (.iadd)) rfl
theorem x_87_82   (hok : (am_ok (am_ft 3 4).1 v && (!(am_ft 3 4).2 || (am_ini 87 && am_co 3 == am_o 87)) && decide (3 < 13)) = true) : am_E d 87 Q (82, L, v :: .ref a :: st, g) ↔ am_kg d 87 Q 85 L st (am_pf g a 3 4 v) := am_E_putfield (by decide +kernel : am_dc 87 82 = some (.putfield 24)) (by decide +kernel) rfl hok
theorem x_87_85   : am_E d 87 Q (85, L, st, g) ↔ am_K d 87 Q (am_ldA 86 L st g 0) := am_E_aload_n (by decide +kernel : am_dc 87 85 = some (.aload_n 0)) rfl rfl
theorem x_87_86   : am_E d 87 Q (86, L, st, g) ↔ am_E d 87 Q (87, L, .int (0) :: st, g) := am_E_iconst (by decide +kernel : am_dc 87 86 = some (.iconst (0))) (by decide) rfl
theorem x_87_87   (hok : (am_ok (am_ft 3 5).1 v && (!(am_ft 3 5).2 || (am_ini 87 && am_co 3 == am_o 87)) && decide (3 < 13)) = true) : am_E d 87 Q (87, L, v :: .ref a :: st, g) ↔ am_kg d 87 Q 90 L st (am_pf g a 3 5 v) := am_E_putfield (by decide +kernel : am_dc 87 87 = some (.putfield 28)) (by decide +kernel) rfl hok
theorem x_87_90  : am_E d 87 Q (90, L, [], g) ↔ Q (.inl none) g := am_E_return (by decide +kernel : am_dc 87 90 = some (.return_)) (by decide +kernel)
theorem f_87_24 : am_fl 87 24 = some (3, 4) := by decide +kernel
theorem f_87_31 : am_fl 87 31 = some (3, 3) := by decide +kernel
theorem f_87_20 : am_fl 87 20 = some (3, 0) := by decide +kernel
theorem f_87_34 : am_fl 87 34 = some (2, 0) := by decide +kernel
theorem f_87_11 : am_fl 87 11 = some (3, 1) := by decide +kernel
theorem v_87_39 : am_iv 87 39 = some (4, 0, 5) := by decide +kernel
theorem f_87_16 : am_fl 87 16 = some (3, 2) := by decide +kernel
theorem f_87_28 : am_fl 87 28 = some (3, 5) := by decide +kernel
theorem t_87 : am_t 87 = none := by decide +kernel
theorem h_87 : am_h 87 = [] := by decide +kernel
theorem m_87 : am_m 87 = 3 := by decide +kernel
theorem x_88_0   : am_E d 88 Q (0, L, st, g) ↔ am_K d 88 Q (am_ldA 1 L st g 0) := am_E_aload_n (by decide +kernel : am_dc 88 0 = some (.aload_n 0)) rfl rfl
theorem x_88_1   : am_E d 88 Q (1, L, v :: st, g) ↔ if v.category = 1 then am_E d 88 Q (2, L, v :: v :: st, g) else False := am_E_dup (by decide +kernel : am_dc 88 1 = some (.dup)) rfl
theorem x_88_2   : am_E d 88 Q (2, L, .ref a :: st, g) ↔ am_kv d 88 Q 5 L st g (am_gf g a 3 4) := am_E_getfield (by decide +kernel : am_dc 88 2 = some (.getfield 24)) (by decide +kernel) rfl
theorem x_88_5   : am_E d 88 Q (5, L, st, g) ↔ am_E d 88 Q (6, L, .int (1) :: st, g) := am_E_iconst (by decide +kernel : am_dc 88 5 = some (.iconst (1))) (by decide) rfl
theorem x_88_6   : am_E d 88 Q (6, L, .int y :: .int x :: st, g) ↔ am_E d 88 Q (7, L, .int (x - y) :: st, g) := am_E_isub (by decide +kernel : am_dc 88 6 = some (.isub)) rfl
theorem x_88_7   (hok : (am_ok (am_ft 3 4).1 v && (!(am_ft 3 4).2 || (am_ini 88 && am_co 3 == am_o 88)) && decide (3 < 13)) = true) : am_E d 88 Q (7, L, v :: .ref a :: st, g) ↔ am_kg d 88 Q 10 L st (am_pf g a 3 4 v) := am_E_putfield (by decide +kernel : am_dc 88 7 = some (.putfield 24)) (by decide +kernel) rfl hok
theorem x_88_10   : am_E d 88 Q (10, L, st, g) ↔ am_K d 88 Q (am_ldA 11 L st g 0) := am_E_aload_n (by decide +kernel : am_dc 88 10 = some (.aload_n 0)) rfl rfl
theorem x_88_11   : am_E d 88 Q (11, L, v :: st, g) ↔ if v.category = 1 then am_E d 88 Q (12, L, v :: v :: st, g) else False := am_E_dup (by decide +kernel : am_dc 88 11 = some (.dup)) rfl
theorem x_88_12   : am_E d 88 Q (12, L, .ref a :: st, g) ↔ am_kv d 88 Q 15 L st g (am_gf g a 3 5) := am_E_getfield (by decide +kernel : am_dc 88 12 = some (.getfield 28)) (by decide +kernel) rfl
theorem x_88_15   : am_E d 88 Q (15, L, st, g) ↔ am_E d 88 Q (16, L, .int (1) :: st, g) := am_E_iconst (by decide +kernel : am_dc 88 15 = some (.iconst (1))) (by decide) rfl
theorem x_88_16   : am_E d 88 Q (16, L, .int y :: .int x :: st, g) ↔ am_E d 88 Q (17, L, .int (x + y) :: st, g) := am_E_iadd (by decide +kernel : am_dc 88 16 = some (.iadd)) rfl
theorem x_88_17   (hok : (am_ok (am_ft 3 5).1 v && (!(am_ft 3 5).2 || (am_ini 88 && am_co 3 == am_o 88)) && decide (3 < 13)) = true) : am_E d 88 Q (17, L, v :: .ref a :: st, g) ↔ am_kg d 88 Q 20 L st (am_pf g a 3 5 v) := am_E_putfield (by decide +kernel : am_dc 88 17 = some (.putfield 28)) (by decide +kernel) rfl hok
theorem x_88_20   : am_E d 88 Q (20, L, st, g) ↔ am_K d 88 Q (am_ldA 21 L st g 0) := am_E_aload_n (by decide +kernel : am_dc 88 20 = some (.aload_n 0)) rfl rfl
theorem x_88_21   : am_E d 88 Q (21, L, st, g) ↔ am_K d 88 Q (am_ldA 22 L st g 0) := am_E_aload_n (by decide +kernel : am_dc 88 21 = some (.aload_n 0)) rfl rfl
theorem x_88_22   : am_E d 88 Q (22, L, .ref a :: st, g) ↔ am_kv d 88 Q 25 L st g (am_gf g a 3 3) := am_E_getfield (by decide +kernel : am_dc 88 22 = some (.getfield 31)) (by decide +kernel) rfl
theorem x_88_25   : am_E d 88 Q (25, L, st, g) ↔ am_K d 88 Q (am_ldA 26 L st g 0) := am_E_aload_n (by decide +kernel : am_dc 88 25 = some (.aload_n 0)) rfl rfl
theorem x_88_26   : am_E d 88 Q (26, L, .ref a :: st, g) ↔ am_kv d 88 Q 29 L st g (am_gf g a 3 4) := am_E_getfield (by decide +kernel : am_dc 88 26 = some (.getfield 24)) (by decide +kernel) rfl
theorem x_88_29   : am_E d 88 Q (29, L, .int y :: .int x :: st, g) ↔ am_E d 88 Q (30, L, .int (x + y) :: st, g) := am_E_iadd (by decide +kernel : am_dc 88 29 = some (.iadd)) rfl
theorem x_88_30   : am_E d 88 Q (30, L, st, g) ↔ am_E d 88 Q (32, L, .int (12) :: st, g) := am_E_bipush (by decide +kernel : am_dc 88 30 = some (.bipush (12))) (by decide) rfl
theorem x_88_32   : am_E d 88 Q (32, L, .int y :: .int x :: st, g) ↔ if y = 0 then False else am_E d 88 Q (33, L, .int (x - x / y * y) :: st, g) := am_E_irem (by decide +kernel : am_dc 88 32 = some (.irem)) rfl
theorem x_88_33  : am_E d 88 Q (33, L, st, g) ↔ am_K d 88 Q (am_S 88 (.invokevirtual 45) 33 L st g) := am_E_x (by decide +kernel : am_dc 88 33 = some (.invokevirtual 45))
theorem x_88_36  : am_E d 88 Q (36, L, [], g) ↔ Q (.inl none) g := am_E_return (by decide +kernel : am_dc 88 36 = some (.return_)) (by decide +kernel)
theorem f_88_24 : am_fl 88 24 = some (3, 4) := by decide +kernel
theorem f_88_28 : am_fl 88 28 = some (3, 5) := by decide +kernel
theorem f_88_31 : am_fl 88 31 = some (3, 3) := by decide +kernel
theorem v_88_45 : am_iv 88 45 = some (1, 85, 2) := by decide +kernel
theorem t_88 : am_t 88 = none := by decide +kernel
theorem h_88 : am_h 88 = [] := by decide +kernel
theorem m_88 : am_m 88 = 1 := by decide +kernel
theorem x_89_0   : am_E d 89 Q (0, L, st, g) ↔ am_K d 89 Q (am_ldA 1 L st g 0) := am_E_aload_n (by decide +kernel : am_dc 89 0 = some (.aload_n 0)) rfl rfl
theorem x_89_1   : am_E d 89 Q (1, L, st, g) ↔ am_K d 89 Q (am_ldA 2 L st g 0) := am_E_aload_n (by decide +kernel : am_dc 89 1 = some (.aload_n 0)) rfl rfl
theorem x_89_2   : am_E d 89 Q (2, L, .ref a :: st, g) ↔ am_kv d 89 Q 5 L st g (am_gf g a 3 3) := am_E_getfield (by decide +kernel : am_dc 89 2 = some (.getfield 31)) (by decide +kernel) rfl
theorem x_89_5   : am_E d 89 Q (5, L, st, g) ↔ am_K d 89 Q (am_ldA 6 L st g 0) := am_E_aload_n (by decide +kernel : am_dc 89 5 = some (.aload_n 0)) rfl rfl
theorem x_89_6   : am_E d 89 Q (6, L, .ref a :: st, g) ↔ am_kv d 89 Q 9 L st g (am_gf g a 3 4) := am_E_getfield (by decide +kernel : am_dc 89 6 = some (.getfield 24)) (by decide +kernel) rfl
theorem x_89_9   : am_E d 89 Q (9, L, .int y :: .int x :: st, g) ↔ am_E d 89 Q (10, L, .int (x + y) :: st, g) := am_E_iadd (by decide +kernel : am_dc 89 9 = some (.iadd)) rfl
theorem x_89_10   : am_E d 89 Q (10, L, st, g) ↔ am_E d 89 Q (12, L, .int (12) :: st, g) := am_E_bipush (by decide +kernel : am_dc 89 10 = some (.bipush (12))) (by decide) rfl
theorem x_89_12   : am_E d 89 Q (12, L, .int y :: .int x :: st, g) ↔ if y = 0 then False else am_E d 89 Q (13, L, .int (x - x / y * y) :: st, g) := am_E_irem (by decide +kernel : am_dc 89 12 = some (.irem)) rfl
theorem x_89_13  : am_E d 89 Q (13, L, st, g) ↔ am_K d 89 Q (am_S 89 (.invokevirtual 45) 13 L st g) := am_E_x (by decide +kernel : am_dc 89 13 = some (.invokevirtual 45))
theorem x_89_16   : am_E d 89 Q (16, L, st, g) ↔ am_K d 89 Q (am_ldA 17 L st g 0) := am_E_aload_n (by decide +kernel : am_dc 89 16 = some (.aload_n 0)) rfl rfl
theorem x_89_17   : am_E d 89 Q (17, L, v :: st, g) ↔ if v.category = 1 then am_E d 89 Q (18, L, v :: v :: st, g) else False := am_E_dup (by decide +kernel : am_dc 89 17 = some (.dup)) rfl
theorem x_89_18   : am_E d 89 Q (18, L, .ref a :: st, g) ↔ am_kv d 89 Q 21 L st g (am_gf g a 3 4) := am_E_getfield (by decide +kernel : am_dc 89 18 = some (.getfield 24)) (by decide +kernel) rfl
theorem x_89_21   : am_E d 89 Q (21, L, st, g) ↔ am_E d 89 Q (22, L, .int (1) :: st, g) := am_E_iconst (by decide +kernel : am_dc 89 21 = some (.iconst (1))) (by decide) rfl
theorem x_89_22   : am_E d 89 Q (22, L, .int y :: .int x :: st, g) ↔ am_E d 89 Q (23, L, .int (x + y) :: st, g) := am_E_iadd (by decide +kernel : am_dc 89 22 = some (.iadd)) rfl
theorem x_89_23   (hok : (am_ok (am_ft 3 4).1 v && (!(am_ft 3 4).2 || (am_ini 89 && am_co 3 == am_o 89)) && decide (3 < 13)) = true) : am_E d 89 Q (23, L, v :: .ref a :: st, g) ↔ am_kg d 89 Q 26 L st (am_pf g a 3 4 v) := am_E_putfield (by decide +kernel : am_dc 89 23 = some (.putfield 24)) (by decide +kernel) rfl hok
theorem x_89_26   : am_E d 89 Q (26, L, st, g) ↔ am_K d 89 Q (am_ldA 27 L st g 0) := am_E_aload_n (by decide +kernel : am_dc 89 26 = some (.aload_n 0)) rfl rfl
theorem x_89_27   : am_E d 89 Q (27, L, v :: st, g) ↔ if v.category = 1 then am_E d 89 Q (28, L, v :: v :: st, g) else False := am_E_dup (by decide +kernel : am_dc 89 27 = some (.dup)) rfl
theorem x_89_28   : am_E d 89 Q (28, L, .ref a :: st, g) ↔ am_kv d 89 Q 31 L st g (am_gf g a 3 5) := am_E_getfield (by decide +kernel : am_dc 89 28 = some (.getfield 28)) (by decide +kernel) rfl
theorem x_89_31   : am_E d 89 Q (31, L, st, g) ↔ am_E d 89 Q (32, L, .int (1) :: st, g) := am_E_iconst (by decide +kernel : am_dc 89 31 = some (.iconst (1))) (by decide) rfl
theorem x_89_32   : am_E d 89 Q (32, L, .int y :: .int x :: st, g) ↔ am_E d 89 Q (33, L, .int (x - y) :: st, g) := am_E_isub (by decide +kernel : am_dc 89 32 = some (.isub)) rfl
theorem x_89_33   (hok : (am_ok (am_ft 3 5).1 v && (!(am_ft 3 5).2 || (am_ini 89 && am_co 3 == am_o 89)) && decide (3 < 13)) = true) : am_E d 89 Q (33, L, v :: .ref a :: st, g) ↔ am_kg d 89 Q 36 L st (am_pf g a 3 5 v) := am_E_putfield (by decide +kernel : am_dc 89 33 = some (.putfield 28)) (by decide +kernel) rfl hok
theorem x_89_36  : am_E d 89 Q (36, L, [], g) ↔ Q (.inl none) g := am_E_return (by decide +kernel : am_dc 89 36 = some (.return_)) (by decide +kernel)
theorem f_89_31 : am_fl 89 31 = some (3, 3) := by decide +kernel
theorem f_89_24 : am_fl 89 24 = some (3, 4) := by decide +kernel
theorem v_89_45 : am_iv 89 45 = some (1, 85, 2) := by decide +kernel
theorem f_89_28 : am_fl 89 28 = some (3, 5) := by decide +kernel
theorem t_89 : am_t 89 = none := by decide +kernel
theorem h_89 : am_h 89 = [] := by decide +kernel
theorem m_89 : am_m 89 = 1 := by decide +kernel
theorem x_90_0   : am_E d 90 Q (0, L, st, g) ↔ am_K d 90 Q (am_ldA 1 L st g 0) := am_E_aload_n (by decide +kernel : am_dc 90 0 = some (.aload_n 0)) rfl rfl
theorem x_90_1  : am_E d 90 Q (1, L, st, g) ↔ am_K d 90 Q (am_S 90 (.invokespecial 1) 1 L st g) := am_E_x (by decide +kernel : am_dc 90 1 = some (.invokespecial 1))
theorem x_90_4   : am_E d 90 Q (4, L, st, g) ↔ am_K d 90 Q (am_ldA 5 L st g 0) := am_E_aload_n (by decide +kernel : am_dc 90 4 = some (.aload_n 0)) rfl rfl
theorem x_90_5   : am_E d 90 Q (5, L, st, g) ↔ am_E d 90 Q (7, L, .int (24) :: st, g) := am_E_bipush (by decide +kernel : am_dc 90 5 = some (.bipush (24))) (by decide) rfl
theorem x_90_7  : am_E d 90 Q (7, L, st, g) ↔ am_K d 90 Q (am_S 90 (.newarray .char) 7 L st g) := am_E_x (by decide +kernel : am_dc 90 7 = some (.newarray .char))
theorem x_90_9   (hok : (am_ok (am_ft 4 0).1 v && (!(am_ft 4 0).2 || (am_ini 90 && am_co 4 == am_o 90)) && decide (4 < 13)) = true) : am_E d 90 Q (9, L, v :: .ref a :: st, g) ↔ am_kg d 90 Q 12 L st (am_pf g a 4 0 v) := am_E_putfield (by decide +kernel : am_dc 90 9 = some (.putfield 9)) (by decide +kernel) rfl hok
theorem x_90_12  : am_E d 90 Q (12, L, [], g) ↔ Q (.inl none) g := am_E_return (by decide +kernel : am_dc 90 12 = some (.return_)) (by decide +kernel)
theorem v_90_1 : am_iv 90 1 = some (3, 0, 1) := by decide +kernel
theorem f_90_9 : am_fl 90 9 = some (4, 0) := by decide +kernel
theorem t_90 : am_t 90 = none := by decide +kernel
theorem h_90 : am_h 90 = [] := by decide +kernel
theorem m_90 : am_m 90 = 1 := by decide +kernel
theorem x_91_0  : am_E d 91 Q (0, L, st, g) ↔ am_K d 91 Q (am_S 91 (.ldc 13) 0 L st g) := am_E_x (by decide +kernel : am_dc 91 0 = some (.ldc 13))
theorem x_91_2   : am_E d 91 Q (2, L, st, g) ↔ am_K d 91 Q (am_ldI 3 L st g 1) := am_E_iload_n (by decide +kernel : am_dc 91 2 = some (.iload_n 1)) rfl rfl
theorem x_91_3  : am_E d 91 Q (3, L, st, g) ↔ am_K d 91 Q (am_S 91 (.invokevirtual 15) 3 L st g) := am_E_x (by decide +kernel : am_dc 91 3 = some (.invokevirtual 15))
theorem x_91_6   : am_E d 91 Q (6, L, .int x :: st, g) ↔ am_E d 91 Q (am_cmp .lt x 0 18 9, L, st, g) := am_E_if (by decide +kernel : am_dc 91 6 = some (.ifCond .lt (12))) rfl rfl
theorem x_91_9   : am_E d 91 Q (9, L, st, g) ↔ am_K d 91 Q (am_ldA 10 L st g 0) := am_E_aload_n (by decide +kernel : am_dc 91 9 = some (.aload_n 0)) rfl rfl
theorem x_91_10   : am_E d 91 Q (10, L, .ref a :: st, g) ↔ am_kv d 91 Q 13 L st g (am_gf g a 4 1) := am_E_getfield (by decide +kernel : am_dc 91 10 = some (.getfield 21)) (by decide +kernel) rfl
theorem x_91_13   : am_E d 91 Q (13, L, st, g) ↔ am_E d 91 Q (15, L, .int (24) :: st, g) := am_E_bipush (by decide +kernel : am_dc 91 13 = some (.bipush (24))) (by decide) rfl
theorem x_91_15   : am_E d 91 Q (15, L, .int y :: .int x :: st, g) ↔ am_E d 91 Q (am_cmp .lt x y 20 18, L, st, g) := am_E_ic (by decide +kernel : am_dc 91 15 = some (.if_icmp .lt (5))) rfl rfl
theorem x_91_18   : am_E d 91 Q (18, L, st, g) ↔ am_E d 91 Q (19, L, .int (0) :: st, g) := am_E_iconst (by decide +kernel : am_dc 91 18 = some (.iconst (0))) (by decide) rfl
theorem x_91_19  : am_E d 91 Q (19, L, [.int x], g) ↔ if am_ok (FieldType.boolean) (.int x) = true then Q (.inl (some (.int x))) g else False := am_E_ireturn (by decide +kernel : am_dc 91 19 = some (.ireturn)) (by decide +kernel)
theorem x_91_20   : am_E d 91 Q (20, L, st, g) ↔ am_K d 91 Q (am_ldA 21 L st g 0) := am_E_aload_n (by decide +kernel : am_dc 91 20 = some (.aload_n 0)) rfl rfl
theorem x_91_21   : am_E d 91 Q (21, L, .ref a :: st, g) ↔ am_kv d 91 Q 24 L st g (am_gf g a 4 0) := am_E_getfield (by decide +kernel : am_dc 91 21 = some (.getfield 9)) (by decide +kernel) rfl
theorem x_91_24   : am_E d 91 Q (24, L, st, g) ↔ am_K d 91 Q (am_ldA 25 L st g 0) := am_E_aload_n (by decide +kernel : am_dc 91 24 = some (.aload_n 0)) rfl rfl
theorem x_91_25   : am_E d 91 Q (25, L, .ref a :: st, g) ↔ am_kv d 91 Q 28 L st g (am_gf g a 4 1) := am_E_getfield (by decide +kernel : am_dc 91 25 = some (.getfield 21)) (by decide +kernel) rfl
theorem x_91_28   : am_E d 91 Q (28, L, st, g) ↔ am_K d 91 Q (am_ldI 29 L st g 1) := am_E_iload_n (by decide +kernel : am_dc 91 28 = some (.iload_n 1)) rfl rfl
theorem x_91_29   : am_E d 91 Q (29, L, v :: .int x :: .ref a :: st, g) ↔ am_kg d 91 Q 30 L st (am_sat .castore g a x v) := am_E_castore (by decide +kernel : am_dc 91 29 = some (.castore)) rfl
theorem x_91_30   : am_E d 91 Q (30, L, st, g) ↔ am_K d 91 Q (am_ldA 31 L st g 0) := am_E_aload_n (by decide +kernel : am_dc 91 30 = some (.aload_n 0)) rfl rfl
theorem x_91_31   : am_E d 91 Q (31, L, v :: st, g) ↔ if v.category = 1 then am_E d 91 Q (32, L, v :: v :: st, g) else False := am_E_dup (by decide +kernel : am_dc 91 31 = some (.dup)) rfl
theorem x_91_32   : am_E d 91 Q (32, L, .ref a :: st, g) ↔ am_kv d 91 Q 35 L st g (am_gf g a 4 1) := am_E_getfield (by decide +kernel : am_dc 91 32 = some (.getfield 21)) (by decide +kernel) rfl
theorem x_91_35   : am_E d 91 Q (35, L, st, g) ↔ am_E d 91 Q (36, L, .int (1) :: st, g) := am_E_iconst (by decide +kernel : am_dc 91 35 = some (.iconst (1))) (by decide) rfl
theorem x_91_36   : am_E d 91 Q (36, L, .int y :: .int x :: st, g) ↔ am_E d 91 Q (37, L, .int (x + y) :: st, g) := am_E_iadd (by decide +kernel : am_dc 91 36 = some (.iadd)) rfl
theorem x_91_37   (hok : (am_ok (am_ft 4 1).1 v && (!(am_ft 4 1).2 || (am_ini 91 && am_co 4 == am_o 91)) && decide (4 < 13)) = true) : am_E d 91 Q (37, L, v :: .ref a :: st, g) ↔ am_kg d 91 Q 40 L st (am_pf g a 4 1 v) := am_E_putfield (by decide +kernel : am_dc 91 37 = some (.putfield 21)) (by decide +kernel) rfl hok
theorem x_91_40   : am_E d 91 Q (40, L, st, g) ↔ am_E d 91 Q (41, L, .int (1) :: st, g) := am_E_iconst (by decide +kernel : am_dc 91 40 = some (.iconst (1))) (by decide) rfl
theorem x_91_41  : am_E d 91 Q (41, L, [.int x], g) ↔ if am_ok (FieldType.boolean) (.int x) = true then Q (.inl (some (.int x))) g else False := am_E_ireturn (by decide +kernel : am_dc 91 41 = some (.ireturn)) (by decide +kernel)
theorem k_91_13 : am_ci 91 13 = none := by decide +kernel
theorem t_91_13 : am_cs 91 13 = some 2 := by decide +kernel
theorem v_91_15 : am_iv 91 15 = some (1, 277, 2) := by decide +kernel
theorem f_91_21 : am_fl 91 21 = some (4, 1) := by decide +kernel
theorem f_91_9 : am_fl 91 9 = some (4, 0) := by decide +kernel
theorem t_91 : am_t 91 = some (FieldType.boolean) := by decide +kernel
theorem h_91 : am_h 91 = [] := by decide +kernel
theorem m_91 : am_m 91 = 2 := by decide +kernel
theorem x_92_0   : am_E d 92 Q (0, L, st, g) ↔ am_K d 92 Q (am_ldI 1 L st g 1) := am_E_iload_n (by decide +kernel : am_dc 92 0 = some (.iload_n 1)) rfl rfl
theorem x_92_1   : am_E d 92 Q (1, L, st, g) ↔ am_K d 92 Q (am_ldA 2 L st g 0) := am_E_aload_n (by decide +kernel : am_dc 92 1 = some (.aload_n 0)) rfl rfl
theorem x_92_2   : am_E d 92 Q (2, L, .ref a :: st, g) ↔ am_kv d 92 Q 5 L st g (am_gf g a 4 1) := am_E_getfield (by decide +kernel : am_dc 92 2 = some (.getfield 21)) (by decide +kernel) rfl
theorem x_92_5   : am_E d 92 Q (5, L, .int y :: .int x :: st, g) ↔ am_E d 92 Q (am_cmp .ge x y 17 8, L, st, g) := am_E_ic (by decide +kernel : am_dc 92 5 = some (.if_icmp .ge (12))) rfl rfl
theorem x_92_8   : am_E d 92 Q (8, L, st, g) ↔ am_K d 92 Q (am_ldA 9 L st g 0) := am_E_aload_n (by decide +kernel : am_dc 92 8 = some (.aload_n 0)) rfl rfl
theorem x_92_9   : am_E d 92 Q (9, L, .ref a :: st, g) ↔ am_kv d 92 Q 12 L st g (am_gf g a 4 0) := am_E_getfield (by decide +kernel : am_dc 92 9 = some (.getfield 9)) (by decide +kernel) rfl
theorem x_92_12   : am_E d 92 Q (12, L, st, g) ↔ am_K d 92 Q (am_ldI 13 L st g 1) := am_E_iload_n (by decide +kernel : am_dc 92 12 = some (.iload_n 1)) rfl rfl
theorem x_92_13   : am_E d 92 Q (13, L, .int x :: .ref a :: st, g) ↔ am_kv d 92 Q 14 L st g (am_iat .caload g a x) := am_E_caload (by decide +kernel : am_dc 92 13 = some (.caload)) rfl
theorem x_92_14   : am_E d 92 Q (14, L, st, g) ↔ am_E d 92 Q (19, L, st, g) := am_E_gt (by decide +kernel : am_dc 92 14 = some (.goto (5))) rfl rfl
theorem x_92_17   : am_E d 92 Q (17, L, st, g) ↔ am_E d 92 Q (19, L, .int (32) :: st, g) := am_E_bipush (by decide +kernel : am_dc 92 17 = some (.bipush (32))) (by decide) rfl
theorem x_92_19  : am_E d 92 Q (19, L, [.int x], g) ↔ if am_ok (FieldType.char) (.int x) = true then Q (.inl (some (.int x))) g else False := am_E_ireturn (by decide +kernel : am_dc 92 19 = some (.ireturn)) (by decide +kernel)
theorem f_92_21 : am_fl 92 21 = some (4, 1) := by decide +kernel
theorem f_92_9 : am_fl 92 9 = some (4, 0) := by decide +kernel
theorem t_92 : am_t 92 = some (FieldType.char) := by decide +kernel
theorem h_92 : am_h 92 = [] := by decide +kernel
theorem m_92 : am_m 92 = 2 := by decide +kernel
theorem x_93_0   : am_E d 93 Q (0, L, st, g) ↔ am_K d 93 Q (am_ldA 1 L st g 0) := am_E_aload_n (by decide +kernel : am_dc 93 0 = some (.aload_n 0)) rfl rfl
theorem x_93_1   : am_E d 93 Q (1, L, st, g) ↔ am_E d 93 Q (2, L, .int (0) :: st, g) := am_E_iconst (by decide +kernel : am_dc 93 1 = some (.iconst (0))) (by decide) rfl
theorem x_93_2   (hok : (am_ok (am_ft 4 1).1 v && (!(am_ft 4 1).2 || (am_ini 93 && am_co 4 == am_o 93)) && decide (4 < 13)) = true) : am_E d 93 Q (2, L, v :: .ref a :: st, g) ↔ am_kg d 93 Q 5 L st (am_pf g a 4 1 v) := am_E_putfield (by decide +kernel : am_dc 93 2 = some (.putfield 21)) (by decide +kernel) rfl hok
theorem x_93_5  : am_E d 93 Q (5, L, [], g) ↔ Q (.inl none) g := am_E_return (by decide +kernel : am_dc 93 5 = some (.return_)) (by decide +kernel)
theorem f_93_21 : am_fl 93 21 = some (4, 1) := by decide +kernel
theorem t_93 : am_t 93 = none := by decide +kernel
theorem h_93 : am_h 93 = [] := by decide +kernel
theorem m_93 : am_m 93 = 1 := by decide +kernel
theorem x_94_0   : am_E d 94 Q (0, L, st, g) ↔ am_K d 94 Q (am_ldA 1 L st g 0) := am_E_aload_n (by decide +kernel : am_dc 94 0 = some (.aload_n 0)) rfl rfl
theorem x_94_1  : am_E d 94 Q (1, L, st, g) ↔ am_K d 94 Q (am_S 94 (.invokespecial 3) 1 L st g) := am_E_x (by decide +kernel : am_dc 94 1 = some (.invokespecial 3))
theorem x_94_4   : am_E d 94 Q (4, L, st, g) ↔ am_K d 94 Q (am_ldA 5 L st g 0) := am_E_aload_n (by decide +kernel : am_dc 94 4 = some (.aload_n 0)) rfl rfl
theorem x_94_5   : am_E d 94 Q (5, L, st, g) ↔ am_K d 94 Q (am_ldA 6 L st g 1) := am_E_aload_n (by decide +kernel : am_dc 94 5 = some (.aload_n 1)) rfl rfl
theorem x_94_6   (hok : (am_ok (am_ft 5 0).1 v && (!(am_ft 5 0).2 || (am_ini 94 && am_co 5 == am_o 94)) && decide (5 < 13)) = true) : am_E d 94 Q (6, L, v :: .ref a :: st, g) ↔ am_kg d 94 Q 9 L st (am_pf g a 5 0 v) := am_E_putfield (by decide +kernel : am_dc 94 6 = some (.putfield 9)) (by decide +kernel) rfl hok
theorem x_94_9   : am_E d 94 Q (9, L, st, g) ↔ am_K d 94 Q (am_ldA 10 L st g 0) := am_E_aload_n (by decide +kernel : am_dc 94 9 = some (.aload_n 0)) rfl rfl
theorem x_94_10   : am_E d 94 Q (10, L, st, g) ↔ am_K d 94 Q (am_ldA 11 L st g 2) := am_E_aload_n (by decide +kernel : am_dc 94 10 = some (.aload_n 2)) rfl rfl
theorem x_94_11   (hok : (am_ok (am_ft 5 1).1 v && (!(am_ft 5 1).2 || (am_ini 94 && am_co 5 == am_o 94)) && decide (5 < 13)) = true) : am_E d 94 Q (11, L, v :: .ref a :: st, g) ↔ am_kg d 94 Q 14 L st (am_pf g a 5 1 v) := am_E_putfield (by decide +kernel : am_dc 94 11 = some (.putfield 15)) (by decide +kernel) rfl hok
theorem x_94_14  : am_E d 94 Q (14, L, [], g) ↔ Q (.inl none) g := am_E_return (by decide +kernel : am_dc 94 14 = some (.return_)) (by decide +kernel)
theorem v_94_3 : am_iv 94 3 = some (3, 0, 1) := by decide +kernel
theorem f_94_9 : am_fl 94 9 = some (5, 0) := by decide +kernel
theorem f_94_15 : am_fl 94 15 = some (5, 1) := by decide +kernel
theorem t_94 : am_t 94 = none := by decide +kernel
theorem h_94 : am_h 94 = [] := by decide +kernel
theorem m_94 : am_m 94 = 3 := by decide +kernel
theorem x_95_0   : am_E d 95 Q (0, L, st, g) ↔ am_K d 95 Q (am_ldA 1 L st g 0) := am_E_aload_n (by decide +kernel : am_dc 95 0 = some (.aload_n 0)) rfl rfl
theorem x_95_1   : am_E d 95 Q (1, L, st, g) ↔ am_E d 95 Q (2, L, .int (0) :: st, g) := am_E_iconst (by decide +kernel : am_dc 95 1 = some (.iconst (0))) (by decide) rfl
theorem x_95_2   (hok : (am_ok (am_ft 5 2).1 v && (!(am_ft 5 2).2 || (am_ini 95 && am_co 5 == am_o 95)) && decide (5 < 13)) = true) : am_E d 95 Q (2, L, v :: .ref a :: st, g) ↔ am_kg d 95 Q 5 L st (am_pf g a 5 2 v) := am_E_putfield (by decide +kernel : am_dc 95 2 = some (.putfield 19)) (by decide +kernel) rfl hok
theorem x_95_5   : am_E d 95 Q (5, L, st, g) ↔ am_K d 95 Q (am_ldA 6 L st g 0) := am_E_aload_n (by decide +kernel : am_dc 95 5 = some (.aload_n 0)) rfl rfl
theorem x_95_6   : am_E d 95 Q (6, L, .ref a :: st, g) ↔ am_kv d 95 Q 9 L st g (am_gf g a 5 1) := am_E_getfield (by decide +kernel : am_dc 95 6 = some (.getfield 15)) (by decide +kernel) rfl
theorem x_95_9   : am_E d 95 Q (9, L, st, g) ↔ am_E d 95 Q (10, L, .int (0) :: st, g) := am_E_iconst (by decide +kernel : am_dc 95 9 = some (.iconst (0))) (by decide) rfl
theorem x_95_10   (hok : (am_ok (am_ft 6 4).1 v && (!(am_ft 6 4).2 || (am_ini 95 && am_co 6 == am_o 95)) && decide (6 < 13)) = true) : am_E d 95 Q (10, L, v :: .ref a :: st, g) ↔ am_kg d 95 Q 13 L st (am_pf g a 6 4 v) := am_E_putfield (by decide +kernel : am_dc 95 10 = some (.putfield 23)) (by decide +kernel) rfl hok
theorem x_95_13   : am_E d 95 Q (13, L, st, g) ↔ am_K d 95 Q (am_ldA 14 L st g 0) := am_E_aload_n (by decide +kernel : am_dc 95 13 = some (.aload_n 0)) rfl rfl
theorem x_95_14   : am_E d 95 Q (14, L, st, g) ↔ am_E d 95 Q (15, L, .int (0) :: st, g) := am_E_iconst (by decide +kernel : am_dc 95 14 = some (.iconst (0))) (by decide) rfl
theorem x_95_15  : am_E d 95 Q (15, L, st, g) ↔ am_K d 95 Q (am_S 95 (.invokevirtual 28) 15 L st g) := am_E_x (by decide +kernel : am_dc 95 15 = some (.invokevirtual 28))
theorem x_95_18   : am_E d 95 Q (18, L, .int x :: st, g) ↔ am_E d 95 Q (am_cmp .eq x 0 39 21, L, st, g) := am_E_if (by decide +kernel : am_dc 95 18 = some (.ifCond .eq (21))) rfl rfl
theorem x_95_21   : am_E d 95 Q (21, L, st, g) ↔ am_K d 95 Q (am_ldA 22 L st g 0) := am_E_aload_n (by decide +kernel : am_dc 95 21 = some (.aload_n 0)) rfl rfl
theorem x_95_22   : am_E d 95 Q (22, L, .ref a :: st, g) ↔ am_kv d 95 Q 25 L st g (am_gf g a 5 2) := am_E_getfield (by decide +kernel : am_dc 95 22 = some (.getfield 19)) (by decide +kernel) rfl
theorem x_95_25   : am_E d 95 Q (25, L, st, g) ↔ am_K d 95 Q (am_ldA 26 L st g 0) := am_E_aload_n (by decide +kernel : am_dc 95 25 = some (.aload_n 0)) rfl rfl
theorem x_95_26   : am_E d 95 Q (26, L, .ref a :: st, g) ↔ am_kv d 95 Q 29 L st g (am_gf g a 5 0) := am_E_getfield (by decide +kernel : am_dc 95 26 = some (.getfield 9)) (by decide +kernel) rfl
theorem x_95_29   : am_E d 95 Q (29, L, .ref a :: st, g) ↔ am_kv d 95 Q 32 L st g (am_gf g a 4 1) := am_E_getfield (by decide +kernel : am_dc 95 29 = some (.getfield 32)) (by decide +kernel) rfl
theorem x_95_32   : am_E d 95 Q (32, L, .int y :: .int x :: st, g) ↔ am_E d 95 Q (am_cmp .lt x y 39 35, L, st, g) := am_E_ic (by decide +kernel : am_dc 95 32 = some (.if_icmp .lt (7))) rfl rfl
theorem x_95_35   : am_E d 95 Q (35, L, st, g) ↔ am_E d 95 Q (36, L, .int (-1) :: st, g) := am_E_iconst (by decide +kernel : am_dc 95 35 = some (.iconst (-1))) (by decide) rfl
theorem x_95_36   : am_E d 95 Q (36, L, st, g) ↔ am_E d 95 Q (43, L, st, g) := am_E_gt (by decide +kernel : am_dc 95 36 = some (.goto (7))) rfl rfl
theorem x_95_39   : am_E d 95 Q (39, L, st, g) ↔ am_K d 95 Q (am_ldA 40 L st g 0) := am_E_aload_n (by decide +kernel : am_dc 95 39 = some (.aload_n 0)) rfl rfl
theorem x_95_40   : am_E d 95 Q (40, L, .ref a :: st, g) ↔ am_kv d 95 Q 43 L st g (am_gf g a 5 2) := am_E_getfield (by decide +kernel : am_dc 95 40 = some (.getfield 19)) (by decide +kernel) rfl
theorem x_95_43  : am_E d 95 Q (43, L, [.int x], g) ↔ if am_ok (FieldType.int) (.int x) = true then Q (.inl (some (.int x))) g else False := am_E_ireturn (by decide +kernel : am_dc 95 43 = some (.ireturn)) (by decide +kernel)
theorem f_95_19 : am_fl 95 19 = some (5, 2) := by decide +kernel
theorem f_95_15 : am_fl 95 15 = some (5, 1) := by decide +kernel
theorem f_95_23 : am_fl 95 23 = some (6, 4) := by decide +kernel
theorem v_95_28 : am_iv 95 28 = some (1, 101, 2) := by decide +kernel
theorem f_95_9 : am_fl 95 9 = some (5, 0) := by decide +kernel
theorem f_95_32 : am_fl 95 32 = some (4, 1) := by decide +kernel
theorem t_95 : am_t 95 = some (FieldType.int) := by decide +kernel
theorem h_95 : am_h 95 = [] := by decide +kernel
theorem m_95 : am_m 95 = 1 := by decide +kernel
theorem x_96_0   : am_E d 96 Q (0, L, st, g) ↔ am_K d 96 Q (am_ldI 1 L st g 0) := am_E_iload_n (by decide +kernel : am_dc 96 0 = some (.iload_n 0)) rfl rfl
theorem x_96_1   : am_E d 96 Q (1, L, st, g) ↔ am_E d 96 Q (3, L, .int (48) :: st, g) := am_E_bipush (by decide +kernel : am_dc 96 1 = some (.bipush (48))) (by decide) rfl
theorem x_96_3   : am_E d 96 Q (3, L, .int y :: .int x :: st, g) ↔ am_E d 96 Q (am_cmp .lt x y 16 6, L, st, g) := am_E_ic (by decide +kernel : am_dc 96 3 = some (.if_icmp .lt (13))) rfl rfl
theorem x_96_6   : am_E d 96 Q (6, L, st, g) ↔ am_K d 96 Q (am_ldI 7 L st g 0) := am_E_iload_n (by decide +kernel : am_dc 96 6 = some (.iload_n 0)) rfl rfl
theorem x_96_7   : am_E d 96 Q (7, L, st, g) ↔ am_E d 96 Q (9, L, .int (57) :: st, g) := am_E_bipush (by decide +kernel : am_dc 96 7 = some (.bipush (57))) (by decide) rfl
theorem x_96_9   : am_E d 96 Q (9, L, .int y :: .int x :: st, g) ↔ am_E d 96 Q (am_cmp .gt x y 16 12, L, st, g) := am_E_ic (by decide +kernel : am_dc 96 9 = some (.if_icmp .gt (7))) rfl rfl
theorem x_96_12   : am_E d 96 Q (12, L, st, g) ↔ am_E d 96 Q (13, L, .int (1) :: st, g) := am_E_iconst (by decide +kernel : am_dc 96 12 = some (.iconst (1))) (by decide) rfl
theorem x_96_13   : am_E d 96 Q (13, L, st, g) ↔ am_E d 96 Q (17, L, st, g) := am_E_gt (by decide +kernel : am_dc 96 13 = some (.goto (4))) rfl rfl
theorem x_96_16   : am_E d 96 Q (16, L, st, g) ↔ am_E d 96 Q (17, L, .int (0) :: st, g) := am_E_iconst (by decide +kernel : am_dc 96 16 = some (.iconst (0))) (by decide) rfl
theorem x_96_17  : am_E d 96 Q (17, L, [.int x], g) ↔ if am_ok (FieldType.boolean) (.int x) = true then Q (.inl (some (.int x))) g else False := am_E_ireturn (by decide +kernel : am_dc 96 17 = some (.ireturn)) (by decide +kernel)
theorem t_96 : am_t 96 = some (FieldType.boolean) := by decide +kernel
theorem h_96 : am_h 96 = [] := by decide +kernel
theorem m_96 : am_m 96 = 1 := by decide +kernel
theorem x_97_0   : am_E d 97 Q (0, L, st, g) ↔ am_K d 97 Q (am_ldI 1 L st g 0) := am_E_iload_n (by decide +kernel : am_dc 97 0 = some (.iload_n 0)) rfl rfl
theorem x_97_1   : am_E d 97 Q (1, L, st, g) ↔ am_E d 97 Q (3, L, .int (42) :: st, g) := am_E_bipush (by decide +kernel : am_dc 97 1 = some (.bipush (42))) (by decide) rfl
theorem x_97_3   : am_E d 97 Q (3, L, .int y :: .int x :: st, g) ↔ am_E d 97 Q (am_cmp .eq x y 12 6, L, st, g) := am_E_ic (by decide +kernel : am_dc 97 3 = some (.if_icmp .eq (9))) rfl rfl
theorem x_97_6   : am_E d 97 Q (6, L, st, g) ↔ am_K d 97 Q (am_ldI 7 L st g 0) := am_E_iload_n (by decide +kernel : am_dc 97 6 = some (.iload_n 0)) rfl rfl
theorem x_97_7   : am_E d 97 Q (7, L, st, g) ↔ am_E d 97 Q (9, L, .int (47) :: st, g) := am_E_bipush (by decide +kernel : am_dc 97 7 = some (.bipush (47))) (by decide) rfl
theorem x_97_9   : am_E d 97 Q (9, L, .int y :: .int x :: st, g) ↔ am_E d 97 Q (am_cmp .ne x y 16 12, L, st, g) := am_E_ic (by decide +kernel : am_dc 97 9 = some (.if_icmp .ne (7))) rfl rfl
theorem x_97_12   : am_E d 97 Q (12, L, st, g) ↔ am_E d 97 Q (13, L, .int (1) :: st, g) := am_E_iconst (by decide +kernel : am_dc 97 12 = some (.iconst (1))) (by decide) rfl
theorem x_97_13   : am_E d 97 Q (13, L, st, g) ↔ am_E d 97 Q (17, L, st, g) := am_E_gt (by decide +kernel : am_dc 97 13 = some (.goto (4))) rfl rfl
theorem x_97_16   : am_E d 97 Q (16, L, st, g) ↔ am_E d 97 Q (17, L, .int (0) :: st, g) := am_E_iconst (by decide +kernel : am_dc 97 16 = some (.iconst (0))) (by decide) rfl
theorem x_97_17  : am_E d 97 Q (17, L, [.int x], g) ↔ if am_ok (FieldType.boolean) (.int x) = true then Q (.inl (some (.int x))) g else False := am_E_ireturn (by decide +kernel : am_dc 97 17 = some (.ireturn)) (by decide +kernel)
theorem t_97 : am_t 97 = some (FieldType.boolean) := by decide +kernel
theorem h_97 : am_h 97 = [] := by decide +kernel
theorem m_97 : am_m 97 = 1 := by decide +kernel
theorem x_98_0   : am_E d 98 Q (0, L, st, g) ↔ am_K d 98 Q (am_ldI 1 L st g 0) := am_E_iload_n (by decide +kernel : am_dc 98 0 = some (.iload_n 0)) rfl rfl
theorem x_98_1   : am_E d 98 Q (1, L, st, g) ↔ am_E d 98 Q (3, L, .int (43) :: st, g) := am_E_bipush (by decide +kernel : am_dc 98 1 = some (.bipush (43))) (by decide) rfl
theorem x_98_3   : am_E d 98 Q (3, L, .int y :: .int x :: st, g) ↔ am_E d 98 Q (am_cmp .eq x y 12 6, L, st, g) := am_E_ic (by decide +kernel : am_dc 98 3 = some (.if_icmp .eq (9))) rfl rfl
theorem x_98_6   : am_E d 98 Q (6, L, st, g) ↔ am_K d 98 Q (am_ldI 7 L st g 0) := am_E_iload_n (by decide +kernel : am_dc 98 6 = some (.iload_n 0)) rfl rfl
theorem x_98_7   : am_E d 98 Q (7, L, st, g) ↔ am_E d 98 Q (9, L, .int (45) :: st, g) := am_E_bipush (by decide +kernel : am_dc 98 7 = some (.bipush (45))) (by decide) rfl
theorem x_98_9   : am_E d 98 Q (9, L, .int y :: .int x :: st, g) ↔ am_E d 98 Q (am_cmp .ne x y 16 12, L, st, g) := am_E_ic (by decide +kernel : am_dc 98 9 = some (.if_icmp .ne (7))) rfl rfl
theorem x_98_12   : am_E d 98 Q (12, L, st, g) ↔ am_E d 98 Q (13, L, .int (1) :: st, g) := am_E_iconst (by decide +kernel : am_dc 98 12 = some (.iconst (1))) (by decide) rfl
theorem x_98_13   : am_E d 98 Q (13, L, st, g) ↔ am_E d 98 Q (17, L, st, g) := am_E_gt (by decide +kernel : am_dc 98 13 = some (.goto (4))) rfl rfl
theorem x_98_16   : am_E d 98 Q (16, L, st, g) ↔ am_E d 98 Q (17, L, .int (0) :: st, g) := am_E_iconst (by decide +kernel : am_dc 98 16 = some (.iconst (0))) (by decide) rfl
theorem x_98_17  : am_E d 98 Q (17, L, [.int x], g) ↔ if am_ok (FieldType.boolean) (.int x) = true then Q (.inl (some (.int x))) g else False := am_E_ireturn (by decide +kernel : am_dc 98 17 = some (.ireturn)) (by decide +kernel)
theorem t_98 : am_t 98 = some (FieldType.boolean) := by decide +kernel
theorem h_98 : am_h 98 = [] := by decide +kernel
theorem m_98 : am_m 98 = 1 := by decide +kernel
theorem x_99_0   : am_E d 99 Q (0, L, st, g) ↔ am_K d 99 Q (am_ldA 1 L st g 0) := am_E_aload_n (by decide +kernel : am_dc 99 0 = some (.aload_n 0)) rfl rfl
theorem x_99_1   : am_E d 99 Q (1, L, .ref a :: st, g) ↔ am_kv d 99 Q 4 L st g (am_gf g a 5 0) := am_E_getfield (by decide +kernel : am_dc 99 1 = some (.getfield 9)) (by decide +kernel) rfl
theorem x_99_4   : am_E d 99 Q (4, L, st, g) ↔ am_K d 99 Q (am_ldA 5 L st g 0) := am_E_aload_n (by decide +kernel : am_dc 99 4 = some (.aload_n 0)) rfl rfl
theorem x_99_5   : am_E d 99 Q (5, L, .ref a :: st, g) ↔ am_kv d 99 Q 8 L st g (am_gf g a 5 2) := am_E_getfield (by decide +kernel : am_dc 99 5 = some (.getfield 19)) (by decide +kernel) rfl
theorem x_99_8  : am_E d 99 Q (8, L, st, g) ↔ am_K d 99 Q (am_S 99 (.invokevirtual 35) 8 L st g) := am_E_x (by decide +kernel : am_dc 99 8 = some (.invokevirtual 35))
theorem x_99_11  : am_E d 99 Q (11, L, [.int x], g) ↔ if am_ok (FieldType.char) (.int x) = true then Q (.inl (some (.int x))) g else False := am_E_ireturn (by decide +kernel : am_dc 99 11 = some (.ireturn)) (by decide +kernel)
theorem f_99_9 : am_fl 99 9 = some (5, 0) := by decide +kernel
theorem f_99_19 : am_fl 99 19 = some (5, 2) := by decide +kernel
theorem v_99_35 : am_iv 99 35 = some (1, 92, 2) := by decide +kernel
theorem t_99 : am_t 99 = some (FieldType.char) := by decide +kernel
theorem h_99 : am_h 99 = [] := by decide +kernel
theorem m_99 : am_m 99 = 1 := by decide +kernel
theorem x_100_0   : am_E d 100 Q (0, L, st, g) ↔ am_K d 100 Q (am_ldI 1 L st g 1) := am_E_iload_n (by decide +kernel : am_dc 100 0 = some (.iload_n 1)) rfl rfl
theorem x_100_1   : am_E d 100 Q (1, L, st, g) ↔ am_E d 100 Q (2, L, .int (3) :: st, g) := am_E_iconst (by decide +kernel : am_dc 100 1 = some (.iconst (3))) (by decide) rfl
theorem x_100_2   : am_E d 100 Q (2, L, .int y :: .int x :: st, g) ↔ am_E d 100 Q (am_cmp .lt x y 7 5, L, st, g) := am_E_ic (by decide +kernel : am_dc 100 2 = some (.if_icmp .lt (5))) rfl rfl
theorem x_100_5   : am_E d 100 Q (5, L, st, g) ↔ am_E d 100 Q (6, L, .int (0) :: st, g) := am_E_iconst (by decide +kernel : am_dc 100 5 = some (.iconst (0))) (by decide) rfl
theorem x_100_6  : am_E d 100 Q (6, L, [.int x], g) ↔ if am_ok (FieldType.boolean) (.int x) = true then Q (.inl (some (.int x))) g else False := am_E_ireturn (by decide +kernel : am_dc 100 6 = some (.ireturn)) (by decide +kernel)
theorem x_100_7   : am_E d 100 Q (7, L, st, g) ↔ am_K d 100 Q (am_ldA 8 L st g 0) := am_E_aload_n (by decide +kernel : am_dc 100 7 = some (.aload_n 0)) rfl rfl
theorem x_100_8   : am_E d 100 Q (8, L, v :: st, g) ↔ if v.category = 1 then am_E d 100 Q (9, L, v :: v :: st, g) else False := am_E_dup (by decide +kernel : am_dc 100 8 = some (.dup)) rfl
theorem x_100_9   : am_E d 100 Q (9, L, .ref a :: st, g) ↔ am_kv d 100 Q 12 L st g (am_gf g a 5 2) := am_E_getfield (by decide +kernel : am_dc 100 9 = some (.getfield 19)) (by decide +kernel) rfl
theorem x_100_12   : am_E d 100 Q (12, L, st, g) ↔ am_E d 100 Q (13, L, .int (1) :: st, g) := am_E_iconst (by decide +kernel : am_dc 100 12 = some (.iconst (1))) (by decide) rfl
theorem x_100_13   : am_E d 100 Q (13, L, .int y :: .int x :: st, g) ↔ am_E d 100 Q (14, L, .int (x + y) :: st, g) := am_E_iadd (by decide +kernel : am_dc 100 13 = some (.iadd)) rfl
theorem x_100_14   (hok : (am_ok (am_ft 5 2).1 v && (!(am_ft 5 2).2 || (am_ini 100 && am_co 5 == am_o 100)) && decide (5 < 13)) = true) : am_E d 100 Q (14, L, v :: .ref a :: st, g) ↔ am_kg d 100 Q 17 L st (am_pf g a 5 2 v) := am_E_putfield (by decide +kernel : am_dc 100 14 = some (.putfield 19)) (by decide +kernel) rfl hok
theorem x_100_17   : am_E d 100 Q (17, L, st, g) ↔ am_K d 100 Q (am_ldA 18 L st g 0) := am_E_aload_n (by decide +kernel : am_dc 100 17 = some (.aload_n 0)) rfl rfl
theorem x_100_18   : am_E d 100 Q (18, L, st, g) ↔ am_K d 100 Q (am_ldI 19 L st g 1) := am_E_iload_n (by decide +kernel : am_dc 100 18 = some (.iload_n 1)) rfl rfl
theorem x_100_19   : am_E d 100 Q (19, L, st, g) ↔ am_E d 100 Q (20, L, .int (1) :: st, g) := am_E_iconst (by decide +kernel : am_dc 100 19 = some (.iconst (1))) (by decide) rfl
theorem x_100_20   : am_E d 100 Q (20, L, .int y :: .int x :: st, g) ↔ am_E d 100 Q (21, L, .int (x + y) :: st, g) := am_E_iadd (by decide +kernel : am_dc 100 20 = some (.iadd)) rfl
theorem x_100_21  : am_E d 100 Q (21, L, st, g) ↔ am_K d 100 Q (am_S 100 (.invokevirtual 28) 21 L st g) := am_E_x (by decide +kernel : am_dc 100 21 = some (.invokevirtual 28))
theorem x_100_24   : am_E d 100 Q (24, L, .int x :: st, g) ↔ am_E d 100 Q (am_cmp .eq x 0 36 27, L, st, g) := am_E_if (by decide +kernel : am_dc 100 24 = some (.ifCond .eq (12))) rfl rfl
theorem x_100_27   : am_E d 100 Q (27, L, st, g) ↔ am_K d 100 Q (am_ldA 28 L st g 0) := am_E_aload_n (by decide +kernel : am_dc 100 27 = some (.aload_n 0)) rfl rfl
theorem x_100_28  : am_E d 100 Q (28, L, st, g) ↔ am_K d 100 Q (am_S 100 (.invokevirtual 42) 28 L st g) := am_E_x (by decide +kernel : am_dc 100 28 = some (.invokevirtual 42))
theorem x_100_31   : am_E d 100 Q (31, L, st, g) ↔ am_E d 100 Q (33, L, .int (41) :: st, g) := am_E_bipush (by decide +kernel : am_dc 100 31 = some (.bipush (41))) (by decide) rfl
theorem x_100_33   : am_E d 100 Q (33, L, .int y :: .int x :: st, g) ↔ am_E d 100 Q (am_cmp .eq x y 38 36, L, st, g) := am_E_ic (by decide +kernel : am_dc 100 33 = some (.if_icmp .eq (5))) rfl rfl
theorem x_100_36   : am_E d 100 Q (36, L, st, g) ↔ am_E d 100 Q (37, L, .int (0) :: st, g) := am_E_iconst (by decide +kernel : am_dc 100 36 = some (.iconst (0))) (by decide) rfl
theorem x_100_37  : am_E d 100 Q (37, L, [.int x], g) ↔ if am_ok (FieldType.boolean) (.int x) = true then Q (.inl (some (.int x))) g else False := am_E_ireturn (by decide +kernel : am_dc 100 37 = some (.ireturn)) (by decide +kernel)
theorem x_100_38   : am_E d 100 Q (38, L, st, g) ↔ am_K d 100 Q (am_ldA 39 L st g 0) := am_E_aload_n (by decide +kernel : am_dc 100 38 = some (.aload_n 0)) rfl rfl
theorem x_100_39   : am_E d 100 Q (39, L, v :: st, g) ↔ if v.category = 1 then am_E d 100 Q (40, L, v :: v :: st, g) else False := am_E_dup (by decide +kernel : am_dc 100 39 = some (.dup)) rfl
theorem x_100_40   : am_E d 100 Q (40, L, .ref a :: st, g) ↔ am_kv d 100 Q 43 L st g (am_gf g a 5 2) := am_E_getfield (by decide +kernel : am_dc 100 40 = some (.getfield 19)) (by decide +kernel) rfl
theorem x_100_43   : am_E d 100 Q (43, L, st, g) ↔ am_E d 100 Q (44, L, .int (1) :: st, g) := am_E_iconst (by decide +kernel : am_dc 100 43 = some (.iconst (1))) (by decide) rfl
theorem x_100_44   : am_E d 100 Q (44, L, .int y :: .int x :: st, g) ↔ am_E d 100 Q (45, L, .int (x + y) :: st, g) := am_E_iadd (by decide +kernel : am_dc 100 44 = some (.iadd)) rfl
theorem x_100_45   (hok : (am_ok (am_ft 5 2).1 v && (!(am_ft 5 2).2 || (am_ini 100 && am_co 5 == am_o 100)) && decide (5 < 13)) = true) : am_E d 100 Q (45, L, v :: .ref a :: st, g) ↔ am_kg d 100 Q 48 L st (am_pf g a 5 2 v) := am_E_putfield (by decide +kernel : am_dc 100 45 = some (.putfield 19)) (by decide +kernel) rfl hok
theorem x_100_48   : am_E d 100 Q (48, L, st, g) ↔ am_E d 100 Q (49, L, .int (1) :: st, g) := am_E_iconst (by decide +kernel : am_dc 100 48 = some (.iconst (1))) (by decide) rfl
theorem x_100_49  : am_E d 100 Q (49, L, [.int x], g) ↔ if am_ok (FieldType.boolean) (.int x) = true then Q (.inl (some (.int x))) g else False := am_E_ireturn (by decide +kernel : am_dc 100 49 = some (.ireturn)) (by decide +kernel)
theorem f_100_19 : am_fl 100 19 = some (5, 2) := by decide +kernel
theorem v_100_28 : am_iv 100 28 = some (1, 101, 2) := by decide +kernel
theorem v_100_42 : am_iv 100 42 = some (1, 99, 1) := by decide +kernel
theorem t_100 : am_t 100 = some (FieldType.boolean) := by decide +kernel
theorem h_100 : am_h 100 = [] := by decide +kernel
theorem m_100 : am_m 100 = 2 := by decide +kernel
theorem x_101_0   : am_E d 101 Q (0, L, st, g) ↔ am_K d 101 Q (am_ldI 1 L st g 1) := am_E_iload_n (by decide +kernel : am_dc 101 0 = some (.iload_n 1)) rfl rfl
theorem x_101_1   : am_E d 101 Q (1, L, st, g) ↔ am_E d 101 Q (2, L, .int (3) :: st, g) := am_E_iconst (by decide +kernel : am_dc 101 1 = some (.iconst (3))) (by decide) rfl
theorem x_101_2   : am_E d 101 Q (2, L, .int y :: .int x :: st, g) ↔ am_E d 101 Q (am_cmp .gt x y 13 5, L, st, g) := am_E_ic (by decide +kernel : am_dc 101 2 = some (.if_icmp .gt (11))) rfl rfl
theorem x_101_5   : am_E d 101 Q (5, L, st, g) ↔ am_K d 101 Q (am_ldA 6 L st g 0) := am_E_aload_n (by decide +kernel : am_dc 101 5 = some (.aload_n 0)) rfl rfl
theorem x_101_6   : am_E d 101 Q (6, L, st, g) ↔ am_K d 101 Q (am_ldI 7 L st g 1) := am_E_iload_n (by decide +kernel : am_dc 101 6 = some (.iload_n 1)) rfl rfl
theorem x_101_7  : am_E d 101 Q (7, L, st, g) ↔ am_K d 101 Q (am_S 101 (.invokevirtual 39) 7 L st g) := am_E_x (by decide +kernel : am_dc 101 7 = some (.invokevirtual 39))
theorem x_101_10   : am_E d 101 Q (10, L, .int x :: st, g) ↔ am_E d 101 Q (am_cmp .ne x 0 15 13, L, st, g) := am_E_if (by decide +kernel : am_dc 101 10 = some (.ifCond .ne (5))) rfl rfl
theorem x_101_13   : am_E d 101 Q (13, L, st, g) ↔ am_E d 101 Q (14, L, .int (0) :: st, g) := am_E_iconst (by decide +kernel : am_dc 101 13 = some (.iconst (0))) (by decide) rfl
theorem x_101_14  : am_E d 101 Q (14, L, [.int x], g) ↔ if am_ok (FieldType.boolean) (.int x) = true then Q (.inl (some (.int x))) g else False := am_E_ireturn (by decide +kernel : am_dc 101 14 = some (.ireturn)) (by decide +kernel)
theorem x_101_15   : am_E d 101 Q (15, L, st, g) ↔ am_K d 101 Q (am_ldA 16 L st g 0) := am_E_aload_n (by decide +kernel : am_dc 101 15 = some (.aload_n 0)) rfl rfl
theorem x_101_16  : am_E d 101 Q (16, L, st, g) ↔ am_K d 101 Q (am_S 101 (.invokevirtual 42) 16 L st g) := am_E_x (by decide +kernel : am_dc 101 16 = some (.invokevirtual 42))
theorem x_101_19   : am_E d 101 Q (19, L, st, g) ↔ am_E d 101 Q (21, L, .int (63) :: st, g) := am_E_bipush (by decide +kernel : am_dc 101 19 = some (.bipush (63))) (by decide) rfl
theorem x_101_21   : am_E d 101 Q (21, L, .int y :: .int x :: st, g) ↔ am_E d 101 Q (am_cmp .eq x y 26 24, L, st, g) := am_E_ic (by decide +kernel : am_dc 101 21 = some (.if_icmp .eq (5))) rfl rfl
theorem x_101_24   : am_E d 101 Q (24, L, st, g) ↔ am_E d 101 Q (25, L, .int (1) :: st, g) := am_E_iconst (by decide +kernel : am_dc 101 24 = some (.iconst (1))) (by decide) rfl
theorem x_101_25  : am_E d 101 Q (25, L, [.int x], g) ↔ if am_ok (FieldType.boolean) (.int x) = true then Q (.inl (some (.int x))) g else False := am_E_ireturn (by decide +kernel : am_dc 101 25 = some (.ireturn)) (by decide +kernel)
theorem x_101_26   : am_E d 101 Q (26, L, st, g) ↔ am_K d 101 Q (am_ldI 27 L st g 1) := am_E_iload_n (by decide +kernel : am_dc 101 26 = some (.iload_n 1)) rfl rfl
theorem x_101_27   : am_E d 101 Q (27, L, st, g) ↔ am_E d 101 Q (28, L, .int (3) :: st, g) := am_E_iconst (by decide +kernel : am_dc 101 27 = some (.iconst (3))) (by decide) rfl
theorem x_101_28   : am_E d 101 Q (28, L, .int y :: .int x :: st, g) ↔ am_E d 101 Q (am_cmp .ne x y 33 31, L, st, g) := am_E_ic (by decide +kernel : am_dc 101 28 = some (.if_icmp .ne (5))) rfl rfl
theorem x_101_31   : am_E d 101 Q (31, L, st, g) ↔ am_E d 101 Q (32, L, .int (0) :: st, g) := am_E_iconst (by decide +kernel : am_dc 101 31 = some (.iconst (0))) (by decide) rfl
theorem x_101_32  : am_E d 101 Q (32, L, [.int x], g) ↔ if am_ok (FieldType.boolean) (.int x) = true then Q (.inl (some (.int x))) g else False := am_E_ireturn (by decide +kernel : am_dc 101 32 = some (.ireturn)) (by decide +kernel)
theorem x_101_33   : am_E d 101 Q (33, L, st, g) ↔ am_K d 101 Q (am_ldA 34 L st g 0) := am_E_aload_n (by decide +kernel : am_dc 101 33 = some (.aload_n 0)) rfl rfl
theorem x_101_34   : am_E d 101 Q (34, L, v :: st, g) ↔ if v.category = 1 then am_E d 101 Q (35, L, v :: v :: st, g) else False := am_E_dup (by decide +kernel : am_dc 101 34 = some (.dup)) rfl
theorem x_101_35   : am_E d 101 Q (35, L, .ref a :: st, g) ↔ am_kv d 101 Q 38 L st g (am_gf g a 5 2) := am_E_getfield (by decide +kernel : am_dc 101 35 = some (.getfield 19)) (by decide +kernel) rfl
theorem x_101_38   : am_E d 101 Q (38, L, st, g) ↔ am_E d 101 Q (39, L, .int (1) :: st, g) := am_E_iconst (by decide +kernel : am_dc 101 38 = some (.iconst (1))) (by decide) rfl
theorem x_101_39   : am_E d 101 Q (39, L, .int y :: .int x :: st, g) ↔ am_E d 101 Q (40, L, .int (x + y) :: st, g) := am_E_iadd (by decide +kernel : am_dc 101 39 = some (.iadd)) rfl
theorem x_101_40   (hok : (am_ok (am_ft 5 2).1 v && (!(am_ft 5 2).2 || (am_ini 101 && am_co 5 == am_o 101)) && decide (5 < 13)) = true) : am_E d 101 Q (40, L, v :: .ref a :: st, g) ↔ am_kg d 101 Q 43 L st (am_pf g a 5 2 v) := am_E_putfield (by decide +kernel : am_dc 101 40 = some (.putfield 19)) (by decide +kernel) rfl hok
theorem x_101_43   : am_E d 101 Q (43, L, st, g) ↔ am_K d 101 Q (am_ldA 44 L st g 0) := am_E_aload_n (by decide +kernel : am_dc 101 43 = some (.aload_n 0)) rfl rfl
theorem x_101_44   : am_E d 101 Q (44, L, .ref a :: st, g) ↔ am_kv d 101 Q 47 L st g (am_gf g a 5 1) := am_E_getfield (by decide +kernel : am_dc 101 44 = some (.getfield 15)) (by decide +kernel) rfl
theorem x_101_47   : am_E d 101 Q (47, L, st, g) ↔ am_E d 101 Q (49, L, .int (8) :: st, g) := am_E_bipush (by decide +kernel : am_dc 101 47 = some (.bipush (8))) (by decide) rfl
theorem x_101_49   : am_E d 101 Q (49, L, st, g) ↔ am_E d 101 Q (50, L, .int (0) :: st, g) := am_E_iconst (by decide +kernel : am_dc 101 49 = some (.iconst (0))) (by decide) rfl
theorem x_101_50  : am_E d 101 Q (50, L, st, g) ↔ am_K d 101 Q (am_S 101 (.invokevirtual 46) 50 L st g) := am_E_x (by decide +kernel : am_dc 101 50 = some (.invokevirtual 46))
theorem x_101_53   : am_E d 101 Q (53, L, st, g) ↔ am_K d 101 Q (am_stI 54 L st g 2) := am_E_istore_n (by decide +kernel : am_dc 101 53 = some (.istore_n 2)) rfl rfl
theorem x_101_54   : am_E d 101 Q (54, L, st, g) ↔ am_K d 101 Q (am_ldA 55 L st g 0) := am_E_aload_n (by decide +kernel : am_dc 101 54 = some (.aload_n 0)) rfl rfl
theorem x_101_55   : am_E d 101 Q (55, L, st, g) ↔ am_K d 101 Q (am_ldI 56 L st g 1) := am_E_iload_n (by decide +kernel : am_dc 101 55 = some (.iload_n 1)) rfl rfl
theorem x_101_56   : am_E d 101 Q (56, L, st, g) ↔ am_E d 101 Q (57, L, .int (1) :: st, g) := am_E_iconst (by decide +kernel : am_dc 101 56 = some (.iconst (1))) (by decide) rfl
theorem x_101_57   : am_E d 101 Q (57, L, .int y :: .int x :: st, g) ↔ am_E d 101 Q (58, L, .int (x + y) :: st, g) := am_E_iadd (by decide +kernel : am_dc 101 57 = some (.iadd)) rfl
theorem x_101_58  : am_E d 101 Q (58, L, st, g) ↔ am_K d 101 Q (am_S 101 (.invokevirtual 28) 58 L st g) := am_E_x (by decide +kernel : am_dc 101 58 = some (.invokevirtual 28))
theorem x_101_61   : am_E d 101 Q (61, L, .int x :: st, g) ↔ am_E d 101 Q (am_cmp .eq x 0 73 64, L, st, g) := am_E_if (by decide +kernel : am_dc 101 61 = some (.ifCond .eq (12))) rfl rfl
theorem x_101_64   : am_E d 101 Q (64, L, st, g) ↔ am_K d 101 Q (am_ldA 65 L st g 0) := am_E_aload_n (by decide +kernel : am_dc 101 64 = some (.aload_n 0)) rfl rfl
theorem x_101_65  : am_E d 101 Q (65, L, st, g) ↔ am_K d 101 Q (am_S 101 (.invokevirtual 42) 65 L st g) := am_E_x (by decide +kernel : am_dc 101 65 = some (.invokevirtual 42))
theorem x_101_68   : am_E d 101 Q (68, L, st, g) ↔ am_E d 101 Q (70, L, .int (58) :: st, g) := am_E_bipush (by decide +kernel : am_dc 101 68 = some (.bipush (58))) (by decide) rfl
theorem x_101_70   : am_E d 101 Q (70, L, .int y :: .int x :: st, g) ↔ am_E d 101 Q (am_cmp .eq x y 75 73, L, st, g) := am_E_ic (by decide +kernel : am_dc 101 70 = some (.if_icmp .eq (5))) rfl rfl
theorem x_101_73   : am_E d 101 Q (73, L, st, g) ↔ am_E d 101 Q (74, L, .int (0) :: st, g) := am_E_iconst (by decide +kernel : am_dc 101 73 = some (.iconst (0))) (by decide) rfl
theorem x_101_74  : am_E d 101 Q (74, L, [.int x], g) ↔ if am_ok (FieldType.boolean) (.int x) = true then Q (.inl (some (.int x))) g else False := am_E_ireturn (by decide +kernel : am_dc 101 74 = some (.ireturn)) (by decide +kernel)
theorem x_101_75   : am_E d 101 Q (75, L, st, g) ↔ am_K d 101 Q (am_ldA 76 L st g 0) := am_E_aload_n (by decide +kernel : am_dc 101 75 = some (.aload_n 0)) rfl rfl
theorem x_101_76   : am_E d 101 Q (76, L, v :: st, g) ↔ if v.category = 1 then am_E d 101 Q (77, L, v :: v :: st, g) else False := am_E_dup (by decide +kernel : am_dc 101 76 = some (.dup)) rfl
theorem x_101_77   : am_E d 101 Q (77, L, .ref a :: st, g) ↔ am_kv d 101 Q 80 L st g (am_gf g a 5 2) := am_E_getfield (by decide +kernel : am_dc 101 77 = some (.getfield 19)) (by decide +kernel) rfl
theorem x_101_80   : am_E d 101 Q (80, L, st, g) ↔ am_E d 101 Q (81, L, .int (1) :: st, g) := am_E_iconst (by decide +kernel : am_dc 101 80 = some (.iconst (1))) (by decide) rfl
theorem x_101_81   : am_E d 101 Q (81, L, .int y :: .int x :: st, g) ↔ am_E d 101 Q (82, L, .int (x + y) :: st, g) := am_E_iadd (by decide +kernel : am_dc 101 81 = some (.iadd)) rfl
theorem x_101_82   (hok : (am_ok (am_ft 5 2).1 v && (!(am_ft 5 2).2 || (am_ini 101 && am_co 5 == am_o 101)) && decide (5 < 13)) = true) : am_E d 101 Q (82, L, v :: .ref a :: st, g) ↔ am_kg d 101 Q 85 L st (am_pf g a 5 2 v) := am_E_putfield (by decide +kernel : am_dc 101 82 = some (.putfield 19)) (by decide +kernel) rfl hok
theorem x_101_85   : am_E d 101 Q (85, L, st, g) ↔ am_K d 101 Q (am_ldA 86 L st g 0) := am_E_aload_n (by decide +kernel : am_dc 101 85 = some (.aload_n 0)) rfl rfl
theorem x_101_86   : am_E d 101 Q (86, L, .ref a :: st, g) ↔ am_kv d 101 Q 89 L st g (am_gf g a 5 1) := am_E_getfield (by decide +kernel : am_dc 101 86 = some (.getfield 15)) (by decide +kernel) rfl
theorem x_101_89   : am_E d 101 Q (89, L, st, g) ↔ am_E d 101 Q (91, L, .int (9) :: st, g) := am_E_bipush (by decide +kernel : am_dc 101 89 = some (.bipush (9))) (by decide) rfl
theorem x_101_91   : am_E d 101 Q (91, L, st, g) ↔ am_E d 101 Q (92, L, .int (0) :: st, g) := am_E_iconst (by decide +kernel : am_dc 101 91 = some (.iconst (0))) (by decide) rfl
theorem x_101_92  : am_E d 101 Q (92, L, st, g) ↔ am_K d 101 Q (am_S 101 (.invokevirtual 46) 92 L st g) := am_E_x (by decide +kernel : am_dc 101 92 = some (.invokevirtual 46))
theorem x_101_95   : am_E d 101 Q (95, L, st, g) ↔ am_K d 101 Q (am_stI 96 L st g 3) := am_E_istore_n (by decide +kernel : am_dc 101 95 = some (.istore_n 3)) rfl rfl
theorem x_101_96   : am_E d 101 Q (96, L, st, g) ↔ am_K d 101 Q (am_ldA 97 L st g 0) := am_E_aload_n (by decide +kernel : am_dc 101 96 = some (.aload_n 0)) rfl rfl
theorem x_101_97   : am_E d 101 Q (97, L, .ref a :: st, g) ↔ am_kv d 101 Q 100 L st g (am_gf g a 5 1) := am_E_getfield (by decide +kernel : am_dc 101 97 = some (.getfield 15)) (by decide +kernel) rfl
theorem x_101_100   : am_E d 101 Q (100, L, .ref a :: st, g) ↔ am_kv d 101 Q 103 L st g (am_gf g a 6 3) := am_E_getfield (by decide +kernel : am_dc 101 100 = some (.getfield 50)) (by decide +kernel) rfl
theorem x_101_103   : am_E d 101 Q (103, L, st, g) ↔ am_K d 101 Q (am_ldI 104 L st g 2) := am_E_iload_n (by decide +kernel : am_dc 101 103 = some (.iload_n 2)) rfl rfl
theorem x_101_104   : am_E d 101 Q (104, L, st, g) ↔ am_K d 101 Q (am_ldA 105 L st g 0) := am_E_aload_n (by decide +kernel : am_dc 101 104 = some (.aload_n 0)) rfl rfl
theorem x_101_105   : am_E d 101 Q (105, L, .ref a :: st, g) ↔ am_kv d 101 Q 108 L st g (am_gf g a 5 1) := am_E_getfield (by decide +kernel : am_dc 101 105 = some (.getfield 15)) (by decide +kernel) rfl
theorem x_101_108   : am_E d 101 Q (108, L, .ref a :: st, g) ↔ am_kv d 101 Q 111 L st g (am_gf g a 6 4) := am_E_getfield (by decide +kernel : am_dc 101 108 = some (.getfield 23)) (by decide +kernel) rfl
theorem x_101_111   : am_E d 101 Q (111, L, v :: .int x :: .ref a :: st, g) ↔ am_kg d 101 Q 112 L st (am_sat .iastore g a x v) := am_E_iastore (by decide +kernel : am_dc 101 111 = some (.iastore)) rfl
theorem x_101_112   : am_E d 101 Q (112, L, st, g) ↔ am_K d 101 Q (am_ldA 113 L st g 0) := am_E_aload_n (by decide +kernel : am_dc 101 112 = some (.aload_n 0)) rfl rfl
theorem x_101_113   : am_E d 101 Q (113, L, st, g) ↔ am_K d 101 Q (am_ldI 114 L st g 1) := am_E_iload_n (by decide +kernel : am_dc 101 113 = some (.iload_n 1)) rfl rfl
theorem x_101_114   : am_E d 101 Q (114, L, st, g) ↔ am_E d 101 Q (115, L, .int (1) :: st, g) := am_E_iconst (by decide +kernel : am_dc 101 114 = some (.iconst (1))) (by decide) rfl
theorem x_101_115   : am_E d 101 Q (115, L, .int y :: .int x :: st, g) ↔ am_E d 101 Q (116, L, .int (x + y) :: st, g) := am_E_iadd (by decide +kernel : am_dc 101 115 = some (.iadd)) rfl
theorem x_101_116  : am_E d 101 Q (116, L, st, g) ↔ am_K d 101 Q (am_S 101 (.invokevirtual 28) 116 L st g) := am_E_x (by decide +kernel : am_dc 101 116 = some (.invokevirtual 28))
theorem x_101_119   : am_E d 101 Q (119, L, .int x :: st, g) ↔ am_E d 101 Q (am_cmp .ne x 0 124 122, L, st, g) := am_E_if (by decide +kernel : am_dc 101 119 = some (.ifCond .ne (5))) rfl rfl
theorem x_101_122   : am_E d 101 Q (122, L, st, g) ↔ am_E d 101 Q (123, L, .int (0) :: st, g) := am_E_iconst (by decide +kernel : am_dc 101 122 = some (.iconst (0))) (by decide) rfl
theorem x_101_123  : am_E d 101 Q (123, L, [.int x], g) ↔ if am_ok (FieldType.boolean) (.int x) = true then Q (.inl (some (.int x))) g else False := am_E_ireturn (by decide +kernel : am_dc 101 123 = some (.ireturn)) (by decide +kernel)
theorem x_101_124   : am_E d 101 Q (124, L, st, g) ↔ am_K d 101 Q (am_ldA 125 L st g 0) := am_E_aload_n (by decide +kernel : am_dc 101 124 = some (.aload_n 0)) rfl rfl
theorem x_101_125   : am_E d 101 Q (125, L, .ref a :: st, g) ↔ am_kv d 101 Q 128 L st g (am_gf g a 5 1) := am_E_getfield (by decide +kernel : am_dc 101 125 = some (.getfield 15)) (by decide +kernel) rfl
theorem x_101_128   : am_E d 101 Q (128, L, .ref a :: st, g) ↔ am_kv d 101 Q 131 L st g (am_gf g a 6 3) := am_E_getfield (by decide +kernel : am_dc 101 128 = some (.getfield 50)) (by decide +kernel) rfl
theorem x_101_131   : am_E d 101 Q (131, L, st, g) ↔ am_K d 101 Q (am_ldI 132 L st g 3) := am_E_iload_n (by decide +kernel : am_dc 101 131 = some (.iload_n 3)) rfl rfl
theorem x_101_132   : am_E d 101 Q (132, L, st, g) ↔ am_K d 101 Q (am_ldA 133 L st g 0) := am_E_aload_n (by decide +kernel : am_dc 101 132 = some (.aload_n 0)) rfl rfl
theorem x_101_133   : am_E d 101 Q (133, L, .ref a :: st, g) ↔ am_kv d 101 Q 136 L st g (am_gf g a 5 1) := am_E_getfield (by decide +kernel : am_dc 101 133 = some (.getfield 15)) (by decide +kernel) rfl
theorem x_101_136   : am_E d 101 Q (136, L, .ref a :: st, g) ↔ am_kv d 101 Q 139 L st g (am_gf g a 6 4) := am_E_getfield (by decide +kernel : am_dc 101 136 = some (.getfield 23)) (by decide +kernel) rfl
theorem x_101_139   : am_E d 101 Q (139, L, v :: .int x :: .ref a :: st, g) ↔ am_kg d 101 Q 140 L st (am_sat .iastore g a x v) := am_E_iastore (by decide +kernel : am_dc 101 139 = some (.iastore)) rfl
theorem x_101_140   : am_E d 101 Q (140, L, st, g) ↔ am_E d 101 Q (141, L, .int (1) :: st, g) := am_E_iconst (by decide +kernel : am_dc 101 140 = some (.iconst (1))) (by decide) rfl
theorem x_101_141  : am_E d 101 Q (141, L, [.int x], g) ↔ if am_ok (FieldType.boolean) (.int x) = true then Q (.inl (some (.int x))) g else False := am_E_ireturn (by decide +kernel : am_dc 101 141 = some (.ireturn)) (by decide +kernel)
theorem v_101_39 : am_iv 101 39 = some (1, 105, 2) := by decide +kernel
theorem v_101_42 : am_iv 101 42 = some (1, 99, 1) := by decide +kernel
theorem f_101_19 : am_fl 101 19 = some (5, 2) := by decide +kernel
theorem f_101_15 : am_fl 101 15 = some (5, 1) := by decide +kernel
theorem v_101_46 : am_iv 101 46 = some (1, 108, 3) := by decide +kernel
theorem v_101_28 : am_iv 101 28 = some (1, 101, 2) := by decide +kernel
theorem f_101_50 : am_fl 101 50 = some (6, 3) := by decide +kernel
theorem f_101_23 : am_fl 101 23 = some (6, 4) := by decide +kernel
theorem t_101 : am_t 101 = some (FieldType.boolean) := by decide +kernel
theorem h_101 : am_h 101 = [] := by decide +kernel
theorem m_101 : am_m 101 = 4 := by decide +kernel
theorem x_102_0   : am_E d 102 Q (0, L, st, g) ↔ am_E d 102 Q (1, L, .int (0) :: st, g) := am_E_iconst (by decide +kernel : am_dc 102 0 = some (.iconst (0))) (by decide) rfl
theorem x_102_1   : am_E d 102 Q (1, L, st, g) ↔ am_K d 102 Q (am_stI 2 L st g 1) := am_E_istore_n (by decide +kernel : am_dc 102 1 = some (.istore_n 1)) rfl rfl
theorem x_102_2   : am_E d 102 Q (2, L, st, g) ↔ am_E d 102 Q (3, L, .int (0) :: st, g) := am_E_iconst (by decide +kernel : am_dc 102 2 = some (.iconst (0))) (by decide) rfl
theorem x_102_3   : am_E d 102 Q (3, L, st, g) ↔ am_K d 102 Q (am_stI 4 L st g 2) := am_E_istore_n (by decide +kernel : am_dc 102 3 = some (.istore_n 2)) rfl rfl
theorem x_102_4   : am_E d 102 Q (4, L, st, g) ↔ am_K d 102 Q (am_ldI 5 L st g 2) := am_E_iload_n (by decide +kernel : am_dc 102 4 = some (.iload_n 2)) rfl rfl
theorem x_102_5   : am_E d 102 Q (5, L, st, g) ↔ am_E d 102 Q (6, L, .int (5) :: st, g) := am_E_iconst (by decide +kernel : am_dc 102 5 = some (.iconst (5))) (by decide) rfl
theorem x_102_6   : am_E d 102 Q (6, L, .int y :: .int x :: st, g) ↔ am_E d 102 Q (am_cmp .ge x y 48 9, L, st, g) := am_E_ic (by decide +kernel : am_dc 102 6 = some (.if_icmp .ge (42))) rfl rfl
theorem x_102_9   : am_E d 102 Q (9, L, st, g) ↔ am_K d 102 Q (am_ldA 10 L st g 0) := am_E_aload_n (by decide +kernel : am_dc 102 9 = some (.aload_n 0)) rfl rfl
theorem x_102_10  : am_E d 102 Q (10, L, st, g) ↔ am_K d 102 Q (am_S 102 (.invokevirtual 42) 10 L st g) := am_E_x (by decide +kernel : am_dc 102 10 = some (.invokevirtual 42))
theorem x_102_13  : am_E d 102 Q (13, L, st, g) ↔ am_K d 102 Q (am_S 102 (.invokestatic 69) 13 L st g) := am_E_x (by decide +kernel : am_dc 102 13 = some (.invokestatic 69))
theorem x_102_16   : am_E d 102 Q (16, L, .int x :: st, g) ↔ am_E d 102 Q (am_cmp .eq x 0 48 19, L, st, g) := am_E_if (by decide +kernel : am_dc 102 16 = some (.ifCond .eq (32))) rfl rfl
theorem x_102_19   : am_E d 102 Q (19, L, st, g) ↔ am_K d 102 Q (am_ldI 20 L st g 1) := am_E_iload_n (by decide +kernel : am_dc 102 19 = some (.iload_n 1)) rfl rfl
theorem x_102_20   : am_E d 102 Q (20, L, st, g) ↔ am_E d 102 Q (22, L, .int (10) :: st, g) := am_E_bipush (by decide +kernel : am_dc 102 20 = some (.bipush (10))) (by decide) rfl
theorem x_102_22   : am_E d 102 Q (22, L, .int y :: .int x :: st, g) ↔ am_E d 102 Q (23, L, .int (x * y) :: st, g) := am_E_imul (by decide +kernel : am_dc 102 22 = some (.imul)) rfl
theorem x_102_23   : am_E d 102 Q (23, L, st, g) ↔ am_K d 102 Q (am_ldA 24 L st g 0) := am_E_aload_n (by decide +kernel : am_dc 102 23 = some (.aload_n 0)) rfl rfl
theorem x_102_24  : am_E d 102 Q (24, L, st, g) ↔ am_K d 102 Q (am_S 102 (.invokevirtual 42) 24 L st g) := am_E_x (by decide +kernel : am_dc 102 24 = some (.invokevirtual 42))
theorem x_102_27   : am_E d 102 Q (27, L, st, g) ↔ am_E d 102 Q (29, L, .int (48) :: st, g) := am_E_bipush (by decide +kernel : am_dc 102 27 = some (.bipush (48))) (by decide) rfl
theorem x_102_29   : am_E d 102 Q (29, L, .int y :: .int x :: st, g) ↔ am_E d 102 Q (30, L, .int (x - y) :: st, g) := am_E_isub (by decide +kernel : am_dc 102 29 = some (.isub)) rfl
theorem x_102_30   : am_E d 102 Q (30, L, .int y :: .int x :: st, g) ↔ am_E d 102 Q (31, L, .int (x + y) :: st, g) := am_E_iadd (by decide +kernel : am_dc 102 30 = some (.iadd)) rfl
theorem x_102_31   : am_E d 102 Q (31, L, st, g) ↔ am_K d 102 Q (am_stI 32 L st g 1) := am_E_istore_n (by decide +kernel : am_dc 102 31 = some (.istore_n 1)) rfl rfl
theorem x_102_32   : am_E d 102 Q (32, L, st, g) ↔ am_K d 102 Q (am_ldA 33 L st g 0) := am_E_aload_n (by decide +kernel : am_dc 102 32 = some (.aload_n 0)) rfl rfl
theorem x_102_33   : am_E d 102 Q (33, L, v :: st, g) ↔ if v.category = 1 then am_E d 102 Q (34, L, v :: v :: st, g) else False := am_E_dup (by decide +kernel : am_dc 102 33 = some (.dup)) rfl
theorem x_102_34   : am_E d 102 Q (34, L, .ref a :: st, g) ↔ am_kv d 102 Q 37 L st g (am_gf g a 5 2) := am_E_getfield (by decide +kernel : am_dc 102 34 = some (.getfield 19)) (by decide +kernel) rfl
theorem x_102_37   : am_E d 102 Q (37, L, st, g) ↔ am_E d 102 Q (38, L, .int (1) :: st, g) := am_E_iconst (by decide +kernel : am_dc 102 37 = some (.iconst (1))) (by decide) rfl
theorem x_102_38   : am_E d 102 Q (38, L, .int y :: .int x :: st, g) ↔ am_E d 102 Q (39, L, .int (x + y) :: st, g) := am_E_iadd (by decide +kernel : am_dc 102 38 = some (.iadd)) rfl
theorem x_102_39   (hok : (am_ok (am_ft 5 2).1 v && (!(am_ft 5 2).2 || (am_ini 102 && am_co 5 == am_o 102)) && decide (5 < 13)) = true) : am_E d 102 Q (39, L, v :: .ref a :: st, g) ↔ am_kg d 102 Q 42 L st (am_pf g a 5 2 v) := am_E_putfield (by decide +kernel : am_dc 102 39 = some (.putfield 19)) (by decide +kernel) rfl hok
theorem x_102_42   (hk : L.getD 2 none = some (.int x)) (hl : 2 < L.length) : am_E d 102 Q (42, L, st, g) ↔ am_E d 102 Q (45, am_s1 L 2 (.int (x + (1))), st, g) := am_E_iinc (by decide +kernel : am_dc 102 42 = some (.iinc 2 (1))) (by decide) rfl hk hl
theorem x_102_45   : am_E d 102 Q (45, L, st, g) ↔ am_E d 102 Q (4, L, st, g) := am_E_gt (by decide +kernel : am_dc 102 45 = some (.goto (-41))) rfl rfl
theorem x_102_48   : am_E d 102 Q (48, L, st, g) ↔ am_K d 102 Q (am_ldA 49 L st g 0) := am_E_aload_n (by decide +kernel : am_dc 102 48 = some (.aload_n 0)) rfl rfl
theorem x_102_49   : am_E d 102 Q (49, L, .ref a :: st, g) ↔ am_kv d 102 Q 52 L st g (am_gf g a 5 1) := am_E_getfield (by decide +kernel : am_dc 102 49 = some (.getfield 15)) (by decide +kernel) rfl
theorem x_102_52   : am_E d 102 Q (52, L, st, g) ↔ am_E d 102 Q (53, L, .int (5) :: st, g) := am_E_iconst (by decide +kernel : am_dc 102 52 = some (.iconst (5))) (by decide) rfl
theorem x_102_53   : am_E d 102 Q (53, L, st, g) ↔ am_K d 102 Q (am_ldI 54 L st g 1) := am_E_iload_n (by decide +kernel : am_dc 102 53 = some (.iload_n 1)) rfl rfl
theorem x_102_54   : am_E d 102 Q (54, L, st, g) ↔ am_E d 102 Q (57, L, .int (1000) :: st, g) := am_E_sipush (by decide +kernel : am_dc 102 54 = some (.sipush (1000))) (by decide) rfl
theorem x_102_57   : am_E d 102 Q (57, L, .int y :: .int x :: st, g) ↔ am_E d 102 Q (58, L, .int (x * y) :: st, g) := am_E_imul (by decide +kernel : am_dc 102 57 = some (.imul)) rfl
theorem x_102_58  : am_E d 102 Q (58, L, st, g) ↔ am_K d 102 Q (am_S 102 (.invokevirtual 46) 58 L st g) := am_E_x (by decide +kernel : am_dc 102 58 = some (.invokevirtual 46))
theorem x_102_61   : am_E d 102 Q (61, L, v :: st, g) ↔ if v.category = 1 then am_E d 102 Q (62, L, st, g) else False := am_E_pop (by decide +kernel : am_dc 102 61 = some (.pop)) rfl
theorem x_102_62  : am_E d 102 Q (62, L, [], g) ↔ Q (.inl none) g := am_E_return (by decide +kernel : am_dc 102 62 = some (.return_)) (by decide +kernel)
theorem v_102_42 : am_iv 102 42 = some (1, 99, 1) := by decide +kernel
theorem v_102_69 : am_iv 102 69 = some (0, 96, 1) := by decide +kernel
theorem f_102_19 : am_fl 102 19 = some (5, 2) := by decide +kernel
theorem f_102_15 : am_fl 102 15 = some (5, 1) := by decide +kernel
theorem v_102_46 : am_iv 102 46 = some (1, 108, 3) := by decide +kernel
theorem t_102 : am_t 102 = none := by decide +kernel
theorem h_102 : am_h 102 = [] := by decide +kernel
theorem m_102 : am_m 102 = 3 := by decide +kernel
theorem x_103_0   : am_E d 103 Q (0, L, st, g) ↔ am_K d 103 Q (am_ldA 1 L st g 0) := am_E_aload_n (by decide +kernel : am_dc 103 0 = some (.aload_n 0)) rfl rfl
theorem x_103_1   : am_E d 103 Q (1, L, st, g) ↔ am_K d 103 Q (am_ldI 2 L st g 1) := am_E_iload_n (by decide +kernel : am_dc 103 1 = some (.iload_n 1)) rfl rfl
theorem x_103_2  : am_E d 103 Q (2, L, st, g) ↔ am_K d 103 Q (am_S 103 (.invokevirtual 63) 2 L st g) := am_E_x (by decide +kernel : am_dc 103 2 = some (.invokevirtual 63))
theorem x_103_5   : am_E d 103 Q (5, L, st, g) ↔ am_K d 103 Q (am_stI 6 L st g 2) := am_E_istore_n (by decide +kernel : am_dc 103 5 = some (.istore_n 2)) rfl rfl
theorem x_103_6   : am_E d 103 Q (6, L, st, g) ↔ am_E d 103 Q (7, L, .int (0) :: st, g) := am_E_iconst (by decide +kernel : am_dc 103 6 = some (.iconst (0))) (by decide) rfl
theorem x_103_7   : am_E d 103 Q (7, L, st, g) ↔ am_K d 103 Q (am_stI 8 L st g 3) := am_E_istore_n (by decide +kernel : am_dc 103 7 = some (.istore_n 3)) rfl rfl
theorem x_103_8   : am_E d 103 Q (8, L, st, g) ↔ am_K d 103 Q (am_ldI 9 L st g 3) := am_E_iload_n (by decide +kernel : am_dc 103 8 = some (.iload_n 3)) rfl rfl
theorem x_103_9   : am_E d 103 Q (9, L, st, g) ↔ am_E d 103 Q (11, L, .int (24) :: st, g) := am_E_bipush (by decide +kernel : am_dc 103 9 = some (.bipush (24))) (by decide) rfl
theorem x_103_11   : am_E d 103 Q (11, L, .int y :: .int x :: st, g) ↔ am_E d 103 Q (am_cmp .ge x y 77 14, L, st, g) := am_E_ic (by decide +kernel : am_dc 103 11 = some (.if_icmp .ge (66))) rfl rfl
theorem x_103_14   : am_E d 103 Q (14, L, st, g) ↔ am_K d 103 Q (am_ldI 15 L st g 2) := am_E_iload_n (by decide +kernel : am_dc 103 14 = some (.iload_n 2)) rfl rfl
theorem x_103_15   : am_E d 103 Q (15, L, .int x :: st, g) ↔ am_E d 103 Q (am_cmp .eq x 0 77 18, L, st, g) := am_E_if (by decide +kernel : am_dc 103 15 = some (.ifCond .eq (62))) rfl rfl
theorem x_103_18   : am_E d 103 Q (18, L, st, g) ↔ am_K d 103 Q (am_ldA 19 L st g 0) := am_E_aload_n (by decide +kernel : am_dc 103 18 = some (.aload_n 0)) rfl rfl
theorem x_103_19  : am_E d 103 Q (19, L, st, g) ↔ am_K d 103 Q (am_S 103 (.invokevirtual 42) 19 L st g) := am_E_x (by decide +kernel : am_dc 103 19 = some (.invokevirtual 42))
theorem x_103_22  : am_E d 103 Q (22, L, st, g) ↔ am_K d 103 Q (am_S 103 (.invokestatic 66) 22 L st g) := am_E_x (by decide +kernel : am_dc 103 22 = some (.invokestatic 66))
theorem x_103_25   : am_E d 103 Q (25, L, .int x :: st, g) ↔ am_E d 103 Q (am_cmp .eq x 0 77 28, L, st, g) := am_E_if (by decide +kernel : am_dc 103 25 = some (.ifCond .eq (52))) rfl rfl
theorem x_103_28   : am_E d 103 Q (28, L, st, g) ↔ am_K d 103 Q (am_ldA 29 L st g 0) := am_E_aload_n (by decide +kernel : am_dc 103 28 = some (.aload_n 0)) rfl rfl
theorem x_103_29  : am_E d 103 Q (29, L, st, g) ↔ am_K d 103 Q (am_S 103 (.invokevirtual 42) 29 L st g) := am_E_x (by decide +kernel : am_dc 103 29 = some (.invokevirtual 42))
theorem x_103_32   : am_E d 103 Q (32, L, st, g) ↔ am_E d 103 Q (34, L, .int (42) :: st, g) := am_E_bipush (by decide +kernel : am_dc 103 32 = some (.bipush (42))) (by decide) rfl
theorem x_103_34   : am_E d 103 Q (34, L, .int y :: .int x :: st, g) ↔ am_E d 103 Q (am_cmp .ne x y 41 37, L, st, g) := am_E_ic (by decide +kernel : am_dc 103 34 = some (.if_icmp .ne (7))) rfl rfl
theorem x_103_37   : am_E d 103 Q (37, L, st, g) ↔ am_E d 103 Q (38, L, .int (3) :: st, g) := am_E_iconst (by decide +kernel : am_dc 103 37 = some (.iconst (3))) (by decide) rfl
theorem x_103_38   : am_E d 103 Q (38, L, st, g) ↔ am_E d 103 Q (42, L, st, g) := am_E_gt (by decide +kernel : am_dc 103 38 = some (.goto (4))) rfl rfl
theorem x_103_41   : am_E d 103 Q (41, L, st, g) ↔ am_E d 103 Q (42, L, .int (4) :: st, g) := am_E_iconst (by decide +kernel : am_dc 103 41 = some (.iconst (4))) (by decide) rfl
theorem x_103_42   : am_E d 103 Q (42, L, st, g) ↔ am_K d 103 Q (am_stI 44 L st g 4) := am_E_istore (by decide +kernel : am_dc 103 42 = some (.istore 4)) rfl
theorem x_103_44   : am_E d 103 Q (44, L, st, g) ↔ am_K d 103 Q (am_ldA 45 L st g 0) := am_E_aload_n (by decide +kernel : am_dc 103 44 = some (.aload_n 0)) rfl rfl
theorem x_103_45   : am_E d 103 Q (45, L, v :: st, g) ↔ if v.category = 1 then am_E d 103 Q (46, L, v :: v :: st, g) else False := am_E_dup (by decide +kernel : am_dc 103 45 = some (.dup)) rfl
theorem x_103_46   : am_E d 103 Q (46, L, .ref a :: st, g) ↔ am_kv d 103 Q 49 L st g (am_gf g a 5 2) := am_E_getfield (by decide +kernel : am_dc 103 46 = some (.getfield 19)) (by decide +kernel) rfl
theorem x_103_49   : am_E d 103 Q (49, L, st, g) ↔ am_E d 103 Q (50, L, .int (1) :: st, g) := am_E_iconst (by decide +kernel : am_dc 103 49 = some (.iconst (1))) (by decide) rfl
theorem x_103_50   : am_E d 103 Q (50, L, .int y :: .int x :: st, g) ↔ am_E d 103 Q (51, L, .int (x + y) :: st, g) := am_E_iadd (by decide +kernel : am_dc 103 50 = some (.iadd)) rfl
theorem x_103_51   (hok : (am_ok (am_ft 5 2).1 v && (!(am_ft 5 2).2 || (am_ini 103 && am_co 5 == am_o 103)) && decide (5 < 13)) = true) : am_E d 103 Q (51, L, v :: .ref a :: st, g) ↔ am_kg d 103 Q 54 L st (am_pf g a 5 2 v) := am_E_putfield (by decide +kernel : am_dc 103 51 = some (.putfield 19)) (by decide +kernel) rfl hok
theorem x_103_54   : am_E d 103 Q (54, L, st, g) ↔ am_K d 103 Q (am_ldA 55 L st g 0) := am_E_aload_n (by decide +kernel : am_dc 103 54 = some (.aload_n 0)) rfl rfl
theorem x_103_55   : am_E d 103 Q (55, L, st, g) ↔ am_K d 103 Q (am_ldI 56 L st g 1) := am_E_iload_n (by decide +kernel : am_dc 103 55 = some (.iload_n 1)) rfl rfl
theorem x_103_56  : am_E d 103 Q (56, L, st, g) ↔ am_K d 103 Q (am_S 103 (.invokevirtual 63) 56 L st g) := am_E_x (by decide +kernel : am_dc 103 56 = some (.invokevirtual 63))
theorem x_103_59   : am_E d 103 Q (59, L, st, g) ↔ am_K d 103 Q (am_stI 60 L st g 2) := am_E_istore_n (by decide +kernel : am_dc 103 59 = some (.istore_n 2)) rfl rfl
theorem x_103_60   : am_E d 103 Q (60, L, st, g) ↔ am_K d 103 Q (am_ldA 61 L st g 0) := am_E_aload_n (by decide +kernel : am_dc 103 60 = some (.aload_n 0)) rfl rfl
theorem x_103_61   : am_E d 103 Q (61, L, .ref a :: st, g) ↔ am_kv d 103 Q 64 L st g (am_gf g a 5 1) := am_E_getfield (by decide +kernel : am_dc 103 61 = some (.getfield 15)) (by decide +kernel) rfl
theorem x_103_64   : am_E d 103 Q (64, L, st, g) ↔ am_K d 103 Q (am_ldI 66 L st g 4) := am_E_iload (by decide +kernel : am_dc 103 64 = some (.iload 4)) rfl
theorem x_103_66   : am_E d 103 Q (66, L, st, g) ↔ am_E d 103 Q (67, L, .int (0) :: st, g) := am_E_iconst (by decide +kernel : am_dc 103 66 = some (.iconst (0))) (by decide) rfl
theorem x_103_67  : am_E d 103 Q (67, L, st, g) ↔ am_K d 103 Q (am_S 103 (.invokevirtual 46) 67 L st g) := am_E_x (by decide +kernel : am_dc 103 67 = some (.invokevirtual 46))
theorem x_103_70   : am_E d 103 Q (70, L, v :: st, g) ↔ if v.category = 1 then am_E d 103 Q (71, L, st, g) else False := am_E_pop (by decide +kernel : am_dc 103 70 = some (.pop)) rfl
theorem x_103_71   (hk : L.getD 3 none = some (.int x)) (hl : 3 < L.length) : am_E d 103 Q (71, L, st, g) ↔ am_E d 103 Q (74, am_s1 L 3 (.int (x + (1))), st, g) := am_E_iinc (by decide +kernel : am_dc 103 71 = some (.iinc 3 (1))) (by decide) rfl hk hl
theorem x_103_74   : am_E d 103 Q (74, L, st, g) ↔ am_E d 103 Q (8, L, st, g) := am_E_gt (by decide +kernel : am_dc 103 74 = some (.goto (-66))) rfl rfl
theorem x_103_77   : am_E d 103 Q (77, L, st, g) ↔ am_K d 103 Q (am_ldI 78 L st g 2) := am_E_iload_n (by decide +kernel : am_dc 103 77 = some (.iload_n 2)) rfl rfl
theorem x_103_78  : am_E d 103 Q (78, L, [.int x], g) ↔ if am_ok (FieldType.boolean) (.int x) = true then Q (.inl (some (.int x))) g else False := am_E_ireturn (by decide +kernel : am_dc 103 78 = some (.ireturn)) (by decide +kernel)
theorem v_103_63 : am_iv 103 63 = some (1, 106, 2) := by decide +kernel
theorem v_103_42 : am_iv 103 42 = some (1, 99, 1) := by decide +kernel
theorem v_103_66 : am_iv 103 66 = some (0, 97, 1) := by decide +kernel
theorem f_103_19 : am_fl 103 19 = some (5, 2) := by decide +kernel
theorem f_103_15 : am_fl 103 15 = some (5, 1) := by decide +kernel
theorem v_103_46 : am_iv 103 46 = some (1, 108, 3) := by decide +kernel
theorem t_103 : am_t 103 = some (FieldType.boolean) := by decide +kernel
theorem h_103 : am_h 103 = [] := by decide +kernel
theorem m_103 : am_m 103 = 5 := by decide +kernel
theorem x_104_0   : am_E d 104 Q (0, L, st, g) ↔ am_K d 104 Q (am_ldA 1 L st g 0) := am_E_aload_n (by decide +kernel : am_dc 104 0 = some (.aload_n 0)) rfl rfl
theorem x_104_1   : am_E d 104 Q (1, L, .ref a :: st, g) ↔ am_kv d 104 Q 4 L st g (am_gf g a 5 1) := am_E_getfield (by decide +kernel : am_dc 104 1 = some (.getfield 15)) (by decide +kernel) rfl
theorem x_104_4   : am_E d 104 Q (4, L, st, g) ↔ am_E d 104 Q (6, L, .int (6) :: st, g) := am_E_bipush (by decide +kernel : am_dc 104 4 = some (.bipush (6))) (by decide) rfl
theorem x_104_6   : am_E d 104 Q (6, L, st, g) ↔ am_E d 104 Q (7, L, .int (0) :: st, g) := am_E_iconst (by decide +kernel : am_dc 104 6 = some (.iconst (0))) (by decide) rfl
theorem x_104_7  : am_E d 104 Q (7, L, st, g) ↔ am_K d 104 Q (am_S 104 (.invokevirtual 46) 7 L st g) := am_E_x (by decide +kernel : am_dc 104 7 = some (.invokevirtual 46))
theorem x_104_10   : am_E d 104 Q (10, L, st, g) ↔ am_K d 104 Q (am_stI 11 L st g 1) := am_E_istore_n (by decide +kernel : am_dc 104 10 = some (.istore_n 1)) rfl rfl
theorem x_104_11   : am_E d 104 Q (11, L, st, g) ↔ am_E d 104 Q (12, L, .int (1) :: st, g) := am_E_iconst (by decide +kernel : am_dc 104 11 = some (.iconst (1))) (by decide) rfl
theorem x_104_12   : am_E d 104 Q (12, L, st, g) ↔ am_K d 104 Q (am_stI 13 L st g 2) := am_E_istore_n (by decide +kernel : am_dc 104 12 = some (.istore_n 2)) rfl rfl
theorem x_104_13   : am_E d 104 Q (13, L, st, g) ↔ am_E d 104 Q (14, L, .int (0) :: st, g) := am_E_iconst (by decide +kernel : am_dc 104 13 = some (.iconst (0))) (by decide) rfl
theorem x_104_14   : am_E d 104 Q (14, L, st, g) ↔ am_K d 104 Q (am_stI 15 L st g 3) := am_E_istore_n (by decide +kernel : am_dc 104 14 = some (.istore_n 3)) rfl rfl
theorem x_104_15   : am_E d 104 Q (15, L, st, g) ↔ am_K d 104 Q (am_ldI 16 L st g 3) := am_E_iload_n (by decide +kernel : am_dc 104 15 = some (.iload_n 3)) rfl rfl
theorem x_104_16   : am_E d 104 Q (16, L, st, g) ↔ am_E d 104 Q (18, L, .int (24) :: st, g) := am_E_bipush (by decide +kernel : am_dc 104 16 = some (.bipush (24))) (by decide) rfl
theorem x_104_18   : am_E d 104 Q (18, L, .int y :: .int x :: st, g) ↔ am_E d 104 Q (am_cmp .ge x y 135 21, L, st, g) := am_E_ic (by decide +kernel : am_dc 104 18 = some (.if_icmp .ge (117))) rfl rfl
theorem x_104_21   : am_E d 104 Q (21, L, st, g) ↔ am_K d 104 Q (am_ldI 22 L st g 2) := am_E_iload_n (by decide +kernel : am_dc 104 21 = some (.iload_n 2)) rfl rfl
theorem x_104_22   : am_E d 104 Q (22, L, .int x :: st, g) ↔ am_E d 104 Q (am_cmp .eq x 0 135 25, L, st, g) := am_E_if (by decide +kernel : am_dc 104 22 = some (.ifCond .eq (113))) rfl rfl
theorem x_104_25  : am_E d 104 Q (25, L, st, g) ↔ am_K d 104 Q (am_S 104 (.ldc 78) 25 L st g) := am_E_x (by decide +kernel : am_dc 104 25 = some (.ldc 78))
theorem x_104_27   : am_E d 104 Q (27, L, st, g) ↔ am_K d 104 Q (am_ldA 28 L st g 0) := am_E_aload_n (by decide +kernel : am_dc 104 27 = some (.aload_n 0)) rfl rfl
theorem x_104_28  : am_E d 104 Q (28, L, st, g) ↔ am_K d 104 Q (am_S 104 (.invokevirtual 42) 28 L st g) := am_E_x (by decide +kernel : am_dc 104 28 = some (.invokevirtual 42))
theorem x_104_31  : am_E d 104 Q (31, L, st, g) ↔ am_K d 104 Q (am_S 104 (.invokevirtual 80) 31 L st g) := am_E_x (by decide +kernel : am_dc 104 31 = some (.invokevirtual 80))
theorem x_104_34   : am_E d 104 Q (34, L, st, g) ↔ am_K d 104 Q (am_stI 36 L st g 4) := am_E_istore (by decide +kernel : am_dc 104 34 = some (.istore 4)) rfl
theorem x_104_36   : am_E d 104 Q (36, L, st, g) ↔ am_K d 104 Q (am_ldA 37 L st g 0) := am_E_aload_n (by decide +kernel : am_dc 104 36 = some (.aload_n 0)) rfl rfl
theorem x_104_37   : am_E d 104 Q (37, L, v :: st, g) ↔ if v.category = 1 then am_E d 104 Q (38, L, v :: v :: st, g) else False := am_E_dup (by decide +kernel : am_dc 104 37 = some (.dup)) rfl
theorem x_104_38   : am_E d 104 Q (38, L, .ref a :: st, g) ↔ am_kv d 104 Q 41 L st g (am_gf g a 5 2) := am_E_getfield (by decide +kernel : am_dc 104 38 = some (.getfield 19)) (by decide +kernel) rfl
theorem x_104_41   : am_E d 104 Q (41, L, st, g) ↔ am_E d 104 Q (42, L, .int (1) :: st, g) := am_E_iconst (by decide +kernel : am_dc 104 41 = some (.iconst (1))) (by decide) rfl
theorem x_104_42   : am_E d 104 Q (42, L, .int y :: .int x :: st, g) ↔ am_E d 104 Q (43, L, .int (x + y) :: st, g) := am_E_iadd (by decide +kernel : am_dc 104 42 = some (.iadd)) rfl
theorem x_104_43   (hok : (am_ok (am_ft 5 2).1 v && (!(am_ft 5 2).2 || (am_ini 104 && am_co 5 == am_o 104)) && decide (5 < 13)) = true) : am_E d 104 Q (43, L, v :: .ref a :: st, g) ↔ am_kg d 104 Q 46 L st (am_pf g a 5 2 v) := am_E_putfield (by decide +kernel : am_dc 104 43 = some (.putfield 19)) (by decide +kernel) rfl hok
theorem x_104_46  : am_E d 104 Q (46, L, st, g) ↔ am_K d 104 Q (am_S 104 (.ldc 90) 46 L st g) := am_E_x (by decide +kernel : am_dc 104 46 = some (.ldc 90))
theorem x_104_48   : am_E d 104 Q (48, L, st, g) ↔ am_K d 104 Q (am_ldA 49 L st g 0) := am_E_aload_n (by decide +kernel : am_dc 104 48 = some (.aload_n 0)) rfl rfl
theorem x_104_49  : am_E d 104 Q (49, L, st, g) ↔ am_K d 104 Q (am_S 104 (.invokevirtual 42) 49 L st g) := am_E_x (by decide +kernel : am_dc 104 49 = some (.invokevirtual 42))
theorem x_104_52  : am_E d 104 Q (52, L, st, g) ↔ am_K d 104 Q (am_S 104 (.invokevirtual 80) 52 L st g) := am_E_x (by decide +kernel : am_dc 104 52 = some (.invokevirtual 80))
theorem x_104_55   : am_E d 104 Q (55, L, st, g) ↔ am_K d 104 Q (am_stI 57 L st g 5) := am_E_istore (by decide +kernel : am_dc 104 55 = some (.istore 5)) rfl
theorem x_104_57   : am_E d 104 Q (57, L, st, g) ↔ am_K d 104 Q (am_ldI 59 L st g 5) := am_E_iload (by decide +kernel : am_dc 104 57 = some (.iload 5)) rfl
theorem x_104_59   : am_E d 104 Q (59, L, .int x :: st, g) ↔ am_E d 104 Q (am_cmp .ge x 0 64 62, L, st, g) := am_E_if (by decide +kernel : am_dc 104 59 = some (.ifCond .ge (5))) rfl rfl
theorem x_104_62   : am_E d 104 Q (62, L, st, g) ↔ am_E d 104 Q (63, L, .int (0) :: st, g) := am_E_iconst (by decide +kernel : am_dc 104 62 = some (.iconst (0))) (by decide) rfl
theorem x_104_63  : am_E d 104 Q (63, L, [.int x], g) ↔ if am_ok (FieldType.boolean) (.int x) = true then Q (.inl (some (.int x))) g else False := am_E_ireturn (by decide +kernel : am_dc 104 63 = some (.ireturn)) (by decide +kernel)
theorem x_104_64   : am_E d 104 Q (64, L, st, g) ↔ am_K d 104 Q (am_ldA 65 L st g 0) := am_E_aload_n (by decide +kernel : am_dc 104 64 = some (.aload_n 0)) rfl rfl
theorem x_104_65   : am_E d 104 Q (65, L, v :: st, g) ↔ if v.category = 1 then am_E d 104 Q (66, L, v :: v :: st, g) else False := am_E_dup (by decide +kernel : am_dc 104 65 = some (.dup)) rfl
theorem x_104_66   : am_E d 104 Q (66, L, .ref a :: st, g) ↔ am_kv d 104 Q 69 L st g (am_gf g a 5 2) := am_E_getfield (by decide +kernel : am_dc 104 66 = some (.getfield 19)) (by decide +kernel) rfl
theorem x_104_69   : am_E d 104 Q (69, L, st, g) ↔ am_E d 104 Q (70, L, .int (1) :: st, g) := am_E_iconst (by decide +kernel : am_dc 104 69 = some (.iconst (1))) (by decide) rfl
theorem x_104_70   : am_E d 104 Q (70, L, .int y :: .int x :: st, g) ↔ am_E d 104 Q (71, L, .int (x + y) :: st, g) := am_E_iadd (by decide +kernel : am_dc 104 70 = some (.iadd)) rfl
theorem x_104_71   (hok : (am_ok (am_ft 5 2).1 v && (!(am_ft 5 2).2 || (am_ini 104 && am_co 5 == am_o 104)) && decide (5 < 13)) = true) : am_E d 104 Q (71, L, v :: .ref a :: st, g) ↔ am_kg d 104 Q 74 L st (am_pf g a 5 2 v) := am_E_putfield (by decide +kernel : am_dc 104 71 = some (.putfield 19)) (by decide +kernel) rfl hok
theorem x_104_74   : am_E d 104 Q (74, L, st, g) ↔ am_K d 104 Q (am_ldA 75 L st g 0) := am_E_aload_n (by decide +kernel : am_dc 104 74 = some (.aload_n 0)) rfl rfl
theorem x_104_75   : am_E d 104 Q (75, L, .ref a :: st, g) ↔ am_kv d 104 Q 78 L st g (am_gf g a 5 1) := am_E_getfield (by decide +kernel : am_dc 104 75 = some (.getfield 15)) (by decide +kernel) rfl
theorem x_104_78   : am_E d 104 Q (78, L, st, g) ↔ am_E d 104 Q (80, L, .int (7) :: st, g) := am_E_bipush (by decide +kernel : am_dc 104 78 = some (.bipush (7))) (by decide) rfl
theorem x_104_80   : am_E d 104 Q (80, L, st, g) ↔ am_K d 104 Q (am_ldI 82 L st g 4) := am_E_iload (by decide +kernel : am_dc 104 80 = some (.iload 4)) rfl
theorem x_104_82   : am_E d 104 Q (82, L, st, g) ↔ am_K d 104 Q (am_ldI 84 L st g 5) := am_E_iload (by decide +kernel : am_dc 104 82 = some (.iload 5)) rfl
theorem x_104_84  : am_E d 104 Q (84, L, st, g) ↔ am_K d 104 Q (am_S 104 (.invokestatic 92) 84 L st g) := am_E_x (by decide +kernel : am_dc 104 84 = some (.invokestatic 92))
theorem x_104_87  : am_E d 104 Q (87, L, st, g) ↔ am_K d 104 Q (am_S 104 (.invokevirtual 46) 87 L st g) := am_E_x (by decide +kernel : am_dc 104 87 = some (.invokevirtual 46))
theorem x_104_90   : am_E d 104 Q (90, L, v :: st, g) ↔ if v.category = 1 then am_E d 104 Q (91, L, st, g) else False := am_E_pop (by decide +kernel : am_dc 104 90 = some (.pop)) rfl
theorem x_104_91   : am_E d 104 Q (91, L, st, g) ↔ am_K d 104 Q (am_ldA 92 L st g 0) := am_E_aload_n (by decide +kernel : am_dc 104 91 = some (.aload_n 0)) rfl rfl
theorem x_104_92   : am_E d 104 Q (92, L, .ref a :: st, g) ↔ am_kv d 104 Q 95 L st g (am_gf g a 5 1) := am_E_getfield (by decide +kernel : am_dc 104 92 = some (.getfield 15)) (by decide +kernel) rfl
theorem x_104_95   : am_E d 104 Q (95, L, .ref a :: st, g) ↔ am_kv d 104 Q 98 L st g (am_gf g a 6 3) := am_E_getfield (by decide +kernel : am_dc 104 95 = some (.getfield 50)) (by decide +kernel) rfl
theorem x_104_98   : am_E d 104 Q (98, L, st, g) ↔ am_K d 104 Q (am_ldI 99 L st g 1) := am_E_iload_n (by decide +kernel : am_dc 104 98 = some (.iload_n 1)) rfl rfl
theorem x_104_99   : am_E d 104 Q (99, L, v :: v1 :: st, g) ↔ if v.category = 1 ∧ v1.category = 1 then am_E d 104 Q (100, L, v :: v1 :: v :: v1 :: st, g) else False := am_E_dup2 (by decide +kernel : am_dc 104 99 = some (.dup2)) rfl
theorem x_104_100   : am_E d 104 Q (100, L, .int x :: .ref a :: st, g) ↔ am_kv d 104 Q 101 L st g (am_iat .iaload g a x) := am_E_iaload (by decide +kernel : am_dc 104 100 = some (.iaload)) rfl
theorem x_104_101   : am_E d 104 Q (101, L, st, g) ↔ am_E d 104 Q (102, L, .int (1) :: st, g) := am_E_iconst (by decide +kernel : am_dc 104 101 = some (.iconst (1))) (by decide) rfl
theorem x_104_102   : am_E d 104 Q (102, L, .int y :: .int x :: st, g) ↔ am_E d 104 Q (103, L, .int (x + y) :: st, g) := am_E_iadd (by decide +kernel : am_dc 104 102 = some (.iadd)) rfl
theorem x_104_103   : am_E d 104 Q (103, L, v :: .int x :: .ref a :: st, g) ↔ am_kg d 104 Q 104 L st (am_sat .iastore g a x v) := am_E_iastore (by decide +kernel : am_dc 104 103 = some (.iastore)) rfl
theorem x_104_104   : am_E d 104 Q (104, L, st, g) ↔ am_K d 104 Q (am_ldI 106 L st g 5) := am_E_iload (by decide +kernel : am_dc 104 104 = some (.iload 5)) rfl
theorem x_104_106   : am_E d 104 Q (106, L, st, g) ↔ am_E d 104 Q (108, L, .int (9) :: st, g) := am_E_bipush (by decide +kernel : am_dc 104 106 = some (.bipush (9))) (by decide) rfl
theorem x_104_108   : am_E d 104 Q (108, L, .int y :: .int x :: st, g) ↔ am_E d 104 Q (am_cmp .eq x y 127 111, L, st, g) := am_E_ic (by decide +kernel : am_dc 104 108 = some (.if_icmp .eq (19))) rfl rfl
theorem x_104_111  : am_E d 104 Q (111, L, st, g) ↔ am_K d 104 Q (am_S 104 (.ldc 78) 111 L st g) := am_E_x (by decide +kernel : am_dc 104 111 = some (.ldc 78))
theorem x_104_113   : am_E d 104 Q (113, L, st, g) ↔ am_K d 104 Q (am_ldA 114 L st g 0) := am_E_aload_n (by decide +kernel : am_dc 104 113 = some (.aload_n 0)) rfl rfl
theorem x_104_114  : am_E d 104 Q (114, L, st, g) ↔ am_K d 104 Q (am_S 104 (.invokevirtual 42) 114 L st g) := am_E_x (by decide +kernel : am_dc 104 114 = some (.invokevirtual 42))
theorem x_104_117  : am_E d 104 Q (117, L, st, g) ↔ am_K d 104 Q (am_S 104 (.invokevirtual 80) 117 L st g) := am_E_x (by decide +kernel : am_dc 104 117 = some (.invokevirtual 80))
theorem x_104_120   : am_E d 104 Q (120, L, .int x :: st, g) ↔ am_E d 104 Q (am_cmp .lt x 0 127 123, L, st, g) := am_E_if (by decide +kernel : am_dc 104 120 = some (.ifCond .lt (7))) rfl rfl
theorem x_104_123   : am_E d 104 Q (123, L, st, g) ↔ am_E d 104 Q (124, L, .int (1) :: st, g) := am_E_iconst (by decide +kernel : am_dc 104 123 = some (.iconst (1))) (by decide) rfl
theorem x_104_124   : am_E d 104 Q (124, L, st, g) ↔ am_E d 104 Q (128, L, st, g) := am_E_gt (by decide +kernel : am_dc 104 124 = some (.goto (4))) rfl rfl
theorem x_104_127   : am_E d 104 Q (127, L, st, g) ↔ am_E d 104 Q (128, L, .int (0) :: st, g) := am_E_iconst (by decide +kernel : am_dc 104 127 = some (.iconst (0))) (by decide) rfl
theorem x_104_128   : am_E d 104 Q (128, L, st, g) ↔ am_K d 104 Q (am_stI 129 L st g 2) := am_E_istore_n (by decide +kernel : am_dc 104 128 = some (.istore_n 2)) rfl rfl
theorem x_104_129   (hk : L.getD 3 none = some (.int x)) (hl : 3 < L.length) : am_E d 104 Q (129, L, st, g) ↔ am_E d 104 Q (132, am_s1 L 3 (.int (x + (1))), st, g) := am_E_iinc (by decide +kernel : am_dc 104 129 = some (.iinc 3 (1))) (by decide) rfl hk hl
theorem x_104_132   : am_E d 104 Q (132, L, st, g) ↔ am_E d 104 Q (15, L, st, g) := am_E_gt (by decide +kernel : am_dc 104 132 = some (.goto (-117))) rfl rfl
theorem x_104_135   : am_E d 104 Q (135, L, st, g) ↔ am_E d 104 Q (136, L, .int (1) :: st, g) := am_E_iconst (by decide +kernel : am_dc 104 135 = some (.iconst (1))) (by decide) rfl
theorem x_104_136  : am_E d 104 Q (136, L, [.int x], g) ↔ if am_ok (FieldType.boolean) (.int x) = true then Q (.inl (some (.int x))) g else False := am_E_ireturn (by decide +kernel : am_dc 104 136 = some (.ireturn)) (by decide +kernel)
theorem f_104_15 : am_fl 104 15 = some (5, 1) := by decide +kernel
theorem v_104_46 : am_iv 104 46 = some (1, 108, 3) := by decide +kernel
theorem k_104_78 : am_ci 104 78 = none := by decide +kernel
theorem t_104_78 : am_cs 104 78 = some 3 := by decide +kernel
theorem v_104_42 : am_iv 104 42 = some (1, 99, 1) := by decide +kernel
theorem v_104_80 : am_iv 104 80 = some (1, 277, 2) := by decide +kernel
theorem f_104_19 : am_fl 104 19 = some (5, 2) := by decide +kernel
theorem k_104_90 : am_ci 104 90 = none := by decide +kernel
theorem t_104_90 : am_cs 104 90 = some 4 := by decide +kernel
theorem v_104_92 : am_iv 104 92 = some (0, 116, 2) := by decide +kernel
theorem f_104_50 : am_fl 104 50 = some (6, 3) := by decide +kernel
theorem t_104 : am_t 104 = some (FieldType.boolean) := by decide +kernel
theorem h_104 : am_h 104 = [] := by decide +kernel
theorem m_104 : am_m 104 = 6 := by decide +kernel
theorem x_105_0   : am_E d 105 Q (0, L, st, g) ↔ am_K d 105 Q (am_ldA 1 L st g 0) := am_E_aload_n (by decide +kernel : am_dc 105 0 = some (.aload_n 0)) rfl rfl
theorem x_105_1   : am_E d 105 Q (1, L, st, g) ↔ am_K d 105 Q (am_ldI 2 L st g 1) := am_E_iload_n (by decide +kernel : am_dc 105 1 = some (.iload_n 1)) rfl rfl
theorem x_105_2  : am_E d 105 Q (2, L, st, g) ↔ am_K d 105 Q (am_S 105 (.invokevirtual 54) 2 L st g) := am_E_x (by decide +kernel : am_dc 105 2 = some (.invokevirtual 54))
theorem x_105_5   : am_E d 105 Q (5, L, st, g) ↔ am_K d 105 Q (am_stI 6 L st g 2) := am_E_istore_n (by decide +kernel : am_dc 105 5 = some (.istore_n 2)) rfl rfl
theorem x_105_6   : am_E d 105 Q (6, L, st, g) ↔ am_E d 105 Q (7, L, .int (0) :: st, g) := am_E_iconst (by decide +kernel : am_dc 105 6 = some (.iconst (0))) (by decide) rfl
theorem x_105_7   : am_E d 105 Q (7, L, st, g) ↔ am_K d 105 Q (am_stI 8 L st g 3) := am_E_istore_n (by decide +kernel : am_dc 105 7 = some (.istore_n 3)) rfl rfl
theorem x_105_8   : am_E d 105 Q (8, L, st, g) ↔ am_K d 105 Q (am_ldI 9 L st g 3) := am_E_iload_n (by decide +kernel : am_dc 105 8 = some (.iload_n 3)) rfl rfl
theorem x_105_9   : am_E d 105 Q (9, L, st, g) ↔ am_E d 105 Q (11, L, .int (24) :: st, g) := am_E_bipush (by decide +kernel : am_dc 105 9 = some (.bipush (24))) (by decide) rfl
theorem x_105_11   : am_E d 105 Q (11, L, .int y :: .int x :: st, g) ↔ am_E d 105 Q (am_cmp .ge x y 77 14, L, st, g) := am_E_ic (by decide +kernel : am_dc 105 11 = some (.if_icmp .ge (66))) rfl rfl
theorem x_105_14   : am_E d 105 Q (14, L, st, g) ↔ am_K d 105 Q (am_ldI 15 L st g 2) := am_E_iload_n (by decide +kernel : am_dc 105 14 = some (.iload_n 2)) rfl rfl
theorem x_105_15   : am_E d 105 Q (15, L, .int x :: st, g) ↔ am_E d 105 Q (am_cmp .eq x 0 77 18, L, st, g) := am_E_if (by decide +kernel : am_dc 105 15 = some (.ifCond .eq (62))) rfl rfl
theorem x_105_18   : am_E d 105 Q (18, L, st, g) ↔ am_K d 105 Q (am_ldA 19 L st g 0) := am_E_aload_n (by decide +kernel : am_dc 105 18 = some (.aload_n 0)) rfl rfl
theorem x_105_19  : am_E d 105 Q (19, L, st, g) ↔ am_K d 105 Q (am_S 105 (.invokevirtual 42) 19 L st g) := am_E_x (by decide +kernel : am_dc 105 19 = some (.invokevirtual 42))
theorem x_105_22  : am_E d 105 Q (22, L, st, g) ↔ am_K d 105 Q (am_S 105 (.invokestatic 57) 22 L st g) := am_E_x (by decide +kernel : am_dc 105 22 = some (.invokestatic 57))
theorem x_105_25   : am_E d 105 Q (25, L, .int x :: st, g) ↔ am_E d 105 Q (am_cmp .eq x 0 77 28, L, st, g) := am_E_if (by decide +kernel : am_dc 105 25 = some (.ifCond .eq (52))) rfl rfl
theorem x_105_28   : am_E d 105 Q (28, L, st, g) ↔ am_K d 105 Q (am_ldA 29 L st g 0) := am_E_aload_n (by decide +kernel : am_dc 105 28 = some (.aload_n 0)) rfl rfl
theorem x_105_29  : am_E d 105 Q (29, L, st, g) ↔ am_K d 105 Q (am_S 105 (.invokevirtual 42) 29 L st g) := am_E_x (by decide +kernel : am_dc 105 29 = some (.invokevirtual 42))
theorem x_105_32   : am_E d 105 Q (32, L, st, g) ↔ am_E d 105 Q (34, L, .int (43) :: st, g) := am_E_bipush (by decide +kernel : am_dc 105 32 = some (.bipush (43))) (by decide) rfl
theorem x_105_34   : am_E d 105 Q (34, L, .int y :: .int x :: st, g) ↔ am_E d 105 Q (am_cmp .ne x y 41 37, L, st, g) := am_E_ic (by decide +kernel : am_dc 105 34 = some (.if_icmp .ne (7))) rfl rfl
theorem x_105_37   : am_E d 105 Q (37, L, st, g) ↔ am_E d 105 Q (38, L, .int (1) :: st, g) := am_E_iconst (by decide +kernel : am_dc 105 37 = some (.iconst (1))) (by decide) rfl
theorem x_105_38   : am_E d 105 Q (38, L, st, g) ↔ am_E d 105 Q (42, L, st, g) := am_E_gt (by decide +kernel : am_dc 105 38 = some (.goto (4))) rfl rfl
theorem x_105_41   : am_E d 105 Q (41, L, st, g) ↔ am_E d 105 Q (42, L, .int (2) :: st, g) := am_E_iconst (by decide +kernel : am_dc 105 41 = some (.iconst (2))) (by decide) rfl
theorem x_105_42   : am_E d 105 Q (42, L, st, g) ↔ am_K d 105 Q (am_stI 44 L st g 4) := am_E_istore (by decide +kernel : am_dc 105 42 = some (.istore 4)) rfl
theorem x_105_44   : am_E d 105 Q (44, L, st, g) ↔ am_K d 105 Q (am_ldA 45 L st g 0) := am_E_aload_n (by decide +kernel : am_dc 105 44 = some (.aload_n 0)) rfl rfl
theorem x_105_45   : am_E d 105 Q (45, L, v :: st, g) ↔ if v.category = 1 then am_E d 105 Q (46, L, v :: v :: st, g) else False := am_E_dup (by decide +kernel : am_dc 105 45 = some (.dup)) rfl
theorem x_105_46   : am_E d 105 Q (46, L, .ref a :: st, g) ↔ am_kv d 105 Q 49 L st g (am_gf g a 5 2) := am_E_getfield (by decide +kernel : am_dc 105 46 = some (.getfield 19)) (by decide +kernel) rfl
theorem x_105_49   : am_E d 105 Q (49, L, st, g) ↔ am_E d 105 Q (50, L, .int (1) :: st, g) := am_E_iconst (by decide +kernel : am_dc 105 49 = some (.iconst (1))) (by decide) rfl
theorem x_105_50   : am_E d 105 Q (50, L, .int y :: .int x :: st, g) ↔ am_E d 105 Q (51, L, .int (x + y) :: st, g) := am_E_iadd (by decide +kernel : am_dc 105 50 = some (.iadd)) rfl
theorem x_105_51   (hok : (am_ok (am_ft 5 2).1 v && (!(am_ft 5 2).2 || (am_ini 105 && am_co 5 == am_o 105)) && decide (5 < 13)) = true) : am_E d 105 Q (51, L, v :: .ref a :: st, g) ↔ am_kg d 105 Q 54 L st (am_pf g a 5 2 v) := am_E_putfield (by decide +kernel : am_dc 105 51 = some (.putfield 19)) (by decide +kernel) rfl hok
theorem x_105_54   : am_E d 105 Q (54, L, st, g) ↔ am_K d 105 Q (am_ldA 55 L st g 0) := am_E_aload_n (by decide +kernel : am_dc 105 54 = some (.aload_n 0)) rfl rfl
theorem x_105_55   : am_E d 105 Q (55, L, st, g) ↔ am_K d 105 Q (am_ldI 56 L st g 1) := am_E_iload_n (by decide +kernel : am_dc 105 55 = some (.iload_n 1)) rfl rfl
theorem x_105_56  : am_E d 105 Q (56, L, st, g) ↔ am_K d 105 Q (am_S 105 (.invokevirtual 54) 56 L st g) := am_E_x (by decide +kernel : am_dc 105 56 = some (.invokevirtual 54))
theorem x_105_59   : am_E d 105 Q (59, L, st, g) ↔ am_K d 105 Q (am_stI 60 L st g 2) := am_E_istore_n (by decide +kernel : am_dc 105 59 = some (.istore_n 2)) rfl rfl
theorem x_105_60   : am_E d 105 Q (60, L, st, g) ↔ am_K d 105 Q (am_ldA 61 L st g 0) := am_E_aload_n (by decide +kernel : am_dc 105 60 = some (.aload_n 0)) rfl rfl
theorem x_105_61   : am_E d 105 Q (61, L, .ref a :: st, g) ↔ am_kv d 105 Q 64 L st g (am_gf g a 5 1) := am_E_getfield (by decide +kernel : am_dc 105 61 = some (.getfield 15)) (by decide +kernel) rfl
theorem x_105_64   : am_E d 105 Q (64, L, st, g) ↔ am_K d 105 Q (am_ldI 66 L st g 4) := am_E_iload (by decide +kernel : am_dc 105 64 = some (.iload 4)) rfl
theorem x_105_66   : am_E d 105 Q (66, L, st, g) ↔ am_E d 105 Q (67, L, .int (0) :: st, g) := am_E_iconst (by decide +kernel : am_dc 105 66 = some (.iconst (0))) (by decide) rfl
theorem x_105_67  : am_E d 105 Q (67, L, st, g) ↔ am_K d 105 Q (am_S 105 (.invokevirtual 46) 67 L st g) := am_E_x (by decide +kernel : am_dc 105 67 = some (.invokevirtual 46))
theorem x_105_70   : am_E d 105 Q (70, L, v :: st, g) ↔ if v.category = 1 then am_E d 105 Q (71, L, st, g) else False := am_E_pop (by decide +kernel : am_dc 105 70 = some (.pop)) rfl
theorem x_105_71   (hk : L.getD 3 none = some (.int x)) (hl : 3 < L.length) : am_E d 105 Q (71, L, st, g) ↔ am_E d 105 Q (74, am_s1 L 3 (.int (x + (1))), st, g) := am_E_iinc (by decide +kernel : am_dc 105 71 = some (.iinc 3 (1))) (by decide) rfl hk hl
theorem x_105_74   : am_E d 105 Q (74, L, st, g) ↔ am_E d 105 Q (8, L, st, g) := am_E_gt (by decide +kernel : am_dc 105 74 = some (.goto (-66))) rfl rfl
theorem x_105_77   : am_E d 105 Q (77, L, st, g) ↔ am_K d 105 Q (am_ldI 78 L st g 2) := am_E_iload_n (by decide +kernel : am_dc 105 77 = some (.iload_n 2)) rfl rfl
theorem x_105_78  : am_E d 105 Q (78, L, [.int x], g) ↔ if am_ok (FieldType.boolean) (.int x) = true then Q (.inl (some (.int x))) g else False := am_E_ireturn (by decide +kernel : am_dc 105 78 = some (.ireturn)) (by decide +kernel)
theorem v_105_54 : am_iv 105 54 = some (1, 103, 2) := by decide +kernel
theorem v_105_42 : am_iv 105 42 = some (1, 99, 1) := by decide +kernel
theorem v_105_57 : am_iv 105 57 = some (0, 98, 1) := by decide +kernel
theorem f_105_19 : am_fl 105 19 = some (5, 2) := by decide +kernel
theorem f_105_15 : am_fl 105 15 = some (5, 1) := by decide +kernel
theorem v_105_46 : am_iv 105 46 = some (1, 108, 3) := by decide +kernel
theorem t_105 : am_t 105 = some (FieldType.boolean) := by decide +kernel
theorem h_105 : am_h 105 = [] := by decide +kernel
theorem m_105 : am_m 105 = 5 := by decide +kernel
theorem x_106_0   : am_E d 106 Q (0, L, st, g) ↔ am_K d 106 Q (am_ldA 1 L st g 0) := am_E_aload_n (by decide +kernel : am_dc 106 0 = some (.aload_n 0)) rfl rfl
theorem x_106_1  : am_E d 106 Q (1, L, st, g) ↔ am_K d 106 Q (am_S 106 (.invokevirtual 42) 1 L st g) := am_E_x (by decide +kernel : am_dc 106 1 = some (.invokevirtual 42))
theorem x_106_4   : am_E d 106 Q (4, L, st, g) ↔ am_K d 106 Q (am_stI 5 L st g 2) := am_E_istore_n (by decide +kernel : am_dc 106 4 = some (.istore_n 2)) rfl rfl
theorem x_106_5   : am_E d 106 Q (5, L, st, g) ↔ am_K d 106 Q (am_ldI 6 L st g 2) := am_E_iload_n (by decide +kernel : am_dc 106 5 = some (.iload_n 2)) rfl rfl
theorem x_106_6  : am_E d 106 Q (6, L, st, g) ↔ am_K d 106 Q (am_S 106 (.invokestatic 69) 6 L st g) := am_E_x (by decide +kernel : am_dc 106 6 = some (.invokestatic 69))
theorem x_106_9   : am_E d 106 Q (9, L, .int x :: st, g) ↔ am_E d 106 Q (am_cmp .eq x 0 18 12, L, st, g) := am_E_if (by decide +kernel : am_dc 106 9 = some (.ifCond .eq (9))) rfl rfl
theorem x_106_12   : am_E d 106 Q (12, L, st, g) ↔ am_K d 106 Q (am_ldA 13 L st g 0) := am_E_aload_n (by decide +kernel : am_dc 106 12 = some (.aload_n 0)) rfl rfl
theorem x_106_13  : am_E d 106 Q (13, L, st, g) ↔ am_K d 106 Q (am_S 106 (.invokevirtual 72) 13 L st g) := am_E_x (by decide +kernel : am_dc 106 13 = some (.invokevirtual 72))
theorem x_106_16   : am_E d 106 Q (16, L, st, g) ↔ am_E d 106 Q (17, L, .int (1) :: st, g) := am_E_iconst (by decide +kernel : am_dc 106 16 = some (.iconst (1))) (by decide) rfl
theorem x_106_17  : am_E d 106 Q (17, L, [.int x], g) ↔ if am_ok (FieldType.boolean) (.int x) = true then Q (.inl (some (.int x))) g else False := am_E_ireturn (by decide +kernel : am_dc 106 17 = some (.ireturn)) (by decide +kernel)
theorem x_106_18   : am_E d 106 Q (18, L, st, g) ↔ am_K d 106 Q (am_ldI 19 L st g 2) := am_E_iload_n (by decide +kernel : am_dc 106 18 = some (.iload_n 2)) rfl rfl
theorem x_106_19   : am_E d 106 Q (19, L, st, g) ↔ am_E d 106 Q (21, L, .int (40) :: st, g) := am_E_bipush (by decide +kernel : am_dc 106 19 = some (.bipush (40))) (by decide) rfl
theorem x_106_21   : am_E d 106 Q (21, L, .int y :: .int x :: st, g) ↔ am_E d 106 Q (am_cmp .ne x y 30 24, L, st, g) := am_E_ic (by decide +kernel : am_dc 106 21 = some (.if_icmp .ne (9))) rfl rfl
theorem x_106_24   : am_E d 106 Q (24, L, st, g) ↔ am_K d 106 Q (am_ldA 25 L st g 0) := am_E_aload_n (by decide +kernel : am_dc 106 24 = some (.aload_n 0)) rfl rfl
theorem x_106_25   : am_E d 106 Q (25, L, st, g) ↔ am_K d 106 Q (am_ldI 26 L st g 1) := am_E_iload_n (by decide +kernel : am_dc 106 25 = some (.iload_n 1)) rfl rfl
theorem x_106_26  : am_E d 106 Q (26, L, st, g) ↔ am_K d 106 Q (am_S 106 (.invokevirtual 75) 26 L st g) := am_E_x (by decide +kernel : am_dc 106 26 = some (.invokevirtual 75))
theorem x_106_29  : am_E d 106 Q (29, L, [.int x], g) ↔ if am_ok (FieldType.boolean) (.int x) = true then Q (.inl (some (.int x))) g else False := am_E_ireturn (by decide +kernel : am_dc 106 29 = some (.ireturn)) (by decide +kernel)
theorem x_106_30  : am_E d 106 Q (30, L, st, g) ↔ am_K d 106 Q (am_S 106 (.ldc 78) 30 L st g) := am_E_x (by decide +kernel : am_dc 106 30 = some (.ldc 78))
theorem x_106_32   : am_E d 106 Q (32, L, st, g) ↔ am_K d 106 Q (am_ldI 33 L st g 2) := am_E_iload_n (by decide +kernel : am_dc 106 32 = some (.iload_n 2)) rfl rfl
theorem x_106_33  : am_E d 106 Q (33, L, st, g) ↔ am_K d 106 Q (am_S 106 (.invokevirtual 80) 33 L st g) := am_E_x (by decide +kernel : am_dc 106 33 = some (.invokevirtual 80))
theorem x_106_36   : am_E d 106 Q (36, L, .int x :: st, g) ↔ am_E d 106 Q (am_cmp .lt x 0 50 39, L, st, g) := am_E_if (by decide +kernel : am_dc 106 36 = some (.ifCond .lt (14))) rfl rfl
theorem x_106_39   : am_E d 106 Q (39, L, st, g) ↔ am_K d 106 Q (am_ldA 40 L st g 0) := am_E_aload_n (by decide +kernel : am_dc 106 39 = some (.aload_n 0)) rfl rfl
theorem x_106_40  : am_E d 106 Q (40, L, st, g) ↔ am_K d 106 Q (am_S 106 (.invokevirtual 86) 40 L st g) := am_E_x (by decide +kernel : am_dc 106 40 = some (.invokevirtual 86))
theorem x_106_43   : am_E d 106 Q (43, L, .int x :: st, g) ↔ am_E d 106 Q (am_cmp .eq x 0 50 46, L, st, g) := am_E_if (by decide +kernel : am_dc 106 43 = some (.ifCond .eq (7))) rfl rfl
theorem x_106_46   : am_E d 106 Q (46, L, st, g) ↔ am_E d 106 Q (47, L, .int (1) :: st, g) := am_E_iconst (by decide +kernel : am_dc 106 46 = some (.iconst (1))) (by decide) rfl
theorem x_106_47   : am_E d 106 Q (47, L, st, g) ↔ am_E d 106 Q (51, L, st, g) := am_E_gt (by decide +kernel : am_dc 106 47 = some (.goto (4))) rfl rfl
theorem x_106_50   : am_E d 106 Q (50, L, st, g) ↔ am_E d 106 Q (51, L, .int (0) :: st, g) := am_E_iconst (by decide +kernel : am_dc 106 50 = some (.iconst (0))) (by decide) rfl
theorem x_106_51  : am_E d 106 Q (51, L, [.int x], g) ↔ if am_ok (FieldType.boolean) (.int x) = true then Q (.inl (some (.int x))) g else False := am_E_ireturn (by decide +kernel : am_dc 106 51 = some (.ireturn)) (by decide +kernel)
theorem v_106_42 : am_iv 106 42 = some (1, 99, 1) := by decide +kernel
theorem v_106_69 : am_iv 106 69 = some (0, 96, 1) := by decide +kernel
theorem v_106_72 : am_iv 106 72 = some (1, 102, 1) := by decide +kernel
theorem v_106_75 : am_iv 106 75 = some (1, 100, 2) := by decide +kernel
theorem k_106_78 : am_ci 106 78 = none := by decide +kernel
theorem t_106_78 : am_cs 106 78 = some 3 := by decide +kernel
theorem v_106_80 : am_iv 106 80 = some (1, 277, 2) := by decide +kernel
theorem v_106_86 : am_iv 106 86 = some (1, 104, 1) := by decide +kernel
theorem t_106 : am_t 106 = some (FieldType.boolean) := by decide +kernel
theorem h_106 : am_h 106 = [] := by decide +kernel
theorem m_106 : am_m 106 = 3 := by decide +kernel
theorem x_107_0   : am_E d 107 Q (0, L, st, g) ↔ am_K d 107 Q (am_ldA 1 L st g 0) := am_E_aload_n (by decide +kernel : am_dc 107 0 = some (.aload_n 0)) rfl rfl
theorem x_107_1  : am_E d 107 Q (1, L, st, g) ↔ am_K d 107 Q (am_S 107 (.invokespecial 3) 1 L st g) := am_E_x (by decide +kernel : am_dc 107 1 = some (.invokespecial 3))
theorem x_107_4   : am_E d 107 Q (4, L, st, g) ↔ am_K d 107 Q (am_ldA 5 L st g 0) := am_E_aload_n (by decide +kernel : am_dc 107 4 = some (.aload_n 0)) rfl rfl
theorem x_107_5   : am_E d 107 Q (5, L, st, g) ↔ am_E d 107 Q (6, L, .int (3) :: st, g) := am_E_iconst (by decide +kernel : am_dc 107 5 = some (.iconst (3))) (by decide) rfl
theorem x_107_6  : am_E d 107 Q (6, L, st, g) ↔ am_K d 107 Q (am_S 107 (.newarray .int) 6 L st g) := am_E_x (by decide +kernel : am_dc 107 6 = some (.newarray .int))
theorem x_107_8   (hok : (am_ok (am_ft 6 0).1 v && (!(am_ft 6 0).2 || (am_ini 107 && am_co 6 == am_o 107)) && decide (6 < 13)) = true) : am_E d 107 Q (8, L, v :: .ref a :: st, g) ↔ am_kg d 107 Q 11 L st (am_pf g a 6 0 v) := am_E_putfield (by decide +kernel : am_dc 107 8 = some (.putfield 9)) (by decide +kernel) rfl hok
theorem x_107_11   : am_E d 107 Q (11, L, st, g) ↔ am_K d 107 Q (am_ldA 12 L st g 0) := am_E_aload_n (by decide +kernel : am_dc 107 11 = some (.aload_n 0)) rfl rfl
theorem x_107_12   : am_E d 107 Q (12, L, st, g) ↔ am_E d 107 Q (13, L, .int (3) :: st, g) := am_E_iconst (by decide +kernel : am_dc 107 12 = some (.iconst (3))) (by decide) rfl
theorem x_107_13  : am_E d 107 Q (13, L, st, g) ↔ am_K d 107 Q (am_S 107 (.newarray .int) 13 L st g) := am_E_x (by decide +kernel : am_dc 107 13 = some (.newarray .int))
theorem x_107_15   (hok : (am_ok (am_ft 6 1).1 v && (!(am_ft 6 1).2 || (am_ini 107 && am_co 6 == am_o 107)) && decide (6 < 13)) = true) : am_E d 107 Q (15, L, v :: .ref a :: st, g) ↔ am_kg d 107 Q 18 L st (am_pf g a 6 1 v) := am_E_putfield (by decide +kernel : am_dc 107 15 = some (.putfield 15)) (by decide +kernel) rfl hok
theorem x_107_18   : am_E d 107 Q (18, L, st, g) ↔ am_K d 107 Q (am_ldA 19 L st g 0) := am_E_aload_n (by decide +kernel : am_dc 107 18 = some (.aload_n 0)) rfl rfl
theorem x_107_19   : am_E d 107 Q (19, L, st, g) ↔ am_E d 107 Q (21, L, .int (24) :: st, g) := am_E_bipush (by decide +kernel : am_dc 107 19 = some (.bipush (24))) (by decide) rfl
theorem x_107_21  : am_E d 107 Q (21, L, st, g) ↔ am_K d 107 Q (am_S 107 (.newarray .int) 21 L st g) := am_E_x (by decide +kernel : am_dc 107 21 = some (.newarray .int))
theorem x_107_23   (hok : (am_ok (am_ft 6 2).1 v && (!(am_ft 6 2).2 || (am_ini 107 && am_co 6 == am_o 107)) && decide (6 < 13)) = true) : am_E d 107 Q (23, L, v :: .ref a :: st, g) ↔ am_kg d 107 Q 26 L st (am_pf g a 6 2 v) := am_E_putfield (by decide +kernel : am_dc 107 23 = some (.putfield 18)) (by decide +kernel) rfl hok
theorem x_107_26   : am_E d 107 Q (26, L, st, g) ↔ am_K d 107 Q (am_ldA 27 L st g 0) := am_E_aload_n (by decide +kernel : am_dc 107 26 = some (.aload_n 0)) rfl rfl
theorem x_107_27   : am_E d 107 Q (27, L, st, g) ↔ am_E d 107 Q (29, L, .int (24) :: st, g) := am_E_bipush (by decide +kernel : am_dc 107 27 = some (.bipush (24))) (by decide) rfl
theorem x_107_29  : am_E d 107 Q (29, L, st, g) ↔ am_K d 107 Q (am_S 107 (.newarray .int) 29 L st g) := am_E_x (by decide +kernel : am_dc 107 29 = some (.newarray .int))
theorem x_107_31   (hok : (am_ok (am_ft 6 3).1 v && (!(am_ft 6 3).2 || (am_ini 107 && am_co 6 == am_o 107)) && decide (6 < 13)) = true) : am_E d 107 Q (31, L, v :: .ref a :: st, g) ↔ am_kg d 107 Q 34 L st (am_pf g a 6 3 v) := am_E_putfield (by decide +kernel : am_dc 107 31 = some (.putfield 21)) (by decide +kernel) rfl hok
theorem x_107_34  : am_E d 107 Q (34, L, [], g) ↔ Q (.inl none) g := am_E_return (by decide +kernel : am_dc 107 34 = some (.return_)) (by decide +kernel)
theorem v_107_3 : am_iv 107 3 = some (3, 0, 1) := by decide +kernel
theorem f_107_9 : am_fl 107 9 = some (6, 0) := by decide +kernel
theorem f_107_15 : am_fl 107 15 = some (6, 1) := by decide +kernel
theorem f_107_18 : am_fl 107 18 = some (6, 2) := by decide +kernel
theorem f_107_21 : am_fl 107 21 = some (6, 3) := by decide +kernel
theorem t_107 : am_t 107 = none := by decide +kernel
theorem h_107 : am_h 107 = [] := by decide +kernel
theorem m_107 : am_m 107 = 1 := by decide +kernel
theorem x_108_0   : am_E d 108 Q (0, L, st, g) ↔ am_K d 108 Q (am_ldA 1 L st g 0) := am_E_aload_n (by decide +kernel : am_dc 108 0 = some (.aload_n 0)) rfl rfl
theorem x_108_1   : am_E d 108 Q (1, L, .ref a :: st, g) ↔ am_kv d 108 Q 4 L st g (am_gf g a 6 4) := am_E_getfield (by decide +kernel : am_dc 108 1 = some (.getfield 30)) (by decide +kernel) rfl
theorem x_108_4   : am_E d 108 Q (4, L, st, g) ↔ am_E d 108 Q (6, L, .int (24) :: st, g) := am_E_bipush (by decide +kernel : am_dc 108 4 = some (.bipush (24))) (by decide) rfl
theorem x_108_6   : am_E d 108 Q (6, L, .int y :: .int x :: st, g) ↔ am_E d 108 Q (am_cmp .lt x y 12 9, L, st, g) := am_E_ic (by decide +kernel : am_dc 108 6 = some (.if_icmp .lt (6))) rfl rfl
theorem x_108_9   : am_E d 108 Q (9, L, st, g) ↔ am_E d 108 Q (11, L, .int (23) :: st, g) := am_E_bipush (by decide +kernel : am_dc 108 9 = some (.bipush (23))) (by decide) rfl
theorem x_108_11  : am_E d 108 Q (11, L, [.int x], g) ↔ if am_ok (FieldType.int) (.int x) = true then Q (.inl (some (.int x))) g else False := am_E_ireturn (by decide +kernel : am_dc 108 11 = some (.ireturn)) (by decide +kernel)
theorem x_108_12   : am_E d 108 Q (12, L, st, g) ↔ am_K d 108 Q (am_ldA 13 L st g 0) := am_E_aload_n (by decide +kernel : am_dc 108 12 = some (.aload_n 0)) rfl rfl
theorem x_108_13   : am_E d 108 Q (13, L, .ref a :: st, g) ↔ am_kv d 108 Q 16 L st g (am_gf g a 6 2) := am_E_getfield (by decide +kernel : am_dc 108 13 = some (.getfield 18)) (by decide +kernel) rfl
theorem x_108_16   : am_E d 108 Q (16, L, st, g) ↔ am_K d 108 Q (am_ldA 17 L st g 0) := am_E_aload_n (by decide +kernel : am_dc 108 16 = some (.aload_n 0)) rfl rfl
theorem x_108_17   : am_E d 108 Q (17, L, .ref a :: st, g) ↔ am_kv d 108 Q 20 L st g (am_gf g a 6 4) := am_E_getfield (by decide +kernel : am_dc 108 17 = some (.getfield 30)) (by decide +kernel) rfl
theorem x_108_20   : am_E d 108 Q (20, L, st, g) ↔ am_K d 108 Q (am_ldI 21 L st g 1) := am_E_iload_n (by decide +kernel : am_dc 108 20 = some (.iload_n 1)) rfl rfl
theorem x_108_21   : am_E d 108 Q (21, L, v :: .int x :: .ref a :: st, g) ↔ am_kg d 108 Q 22 L st (am_sat .iastore g a x v) := am_E_iastore (by decide +kernel : am_dc 108 21 = some (.iastore)) rfl
theorem x_108_22   : am_E d 108 Q (22, L, st, g) ↔ am_K d 108 Q (am_ldA 23 L st g 0) := am_E_aload_n (by decide +kernel : am_dc 108 22 = some (.aload_n 0)) rfl rfl
theorem x_108_23   : am_E d 108 Q (23, L, .ref a :: st, g) ↔ am_kv d 108 Q 26 L st g (am_gf g a 6 3) := am_E_getfield (by decide +kernel : am_dc 108 23 = some (.getfield 21)) (by decide +kernel) rfl
theorem x_108_26   : am_E d 108 Q (26, L, st, g) ↔ am_K d 108 Q (am_ldA 27 L st g 0) := am_E_aload_n (by decide +kernel : am_dc 108 26 = some (.aload_n 0)) rfl rfl
theorem x_108_27   : am_E d 108 Q (27, L, .ref a :: st, g) ↔ am_kv d 108 Q 30 L st g (am_gf g a 6 4) := am_E_getfield (by decide +kernel : am_dc 108 27 = some (.getfield 30)) (by decide +kernel) rfl
theorem x_108_30   : am_E d 108 Q (30, L, st, g) ↔ am_K d 108 Q (am_ldI 31 L st g 2) := am_E_iload_n (by decide +kernel : am_dc 108 30 = some (.iload_n 2)) rfl rfl
theorem x_108_31   : am_E d 108 Q (31, L, v :: .int x :: .ref a :: st, g) ↔ am_kg d 108 Q 32 L st (am_sat .iastore g a x v) := am_E_iastore (by decide +kernel : am_dc 108 31 = some (.iastore)) rfl
theorem x_108_32   : am_E d 108 Q (32, L, st, g) ↔ am_K d 108 Q (am_ldA 33 L st g 0) := am_E_aload_n (by decide +kernel : am_dc 108 32 = some (.aload_n 0)) rfl rfl
theorem x_108_33   : am_E d 108 Q (33, L, v :: st, g) ↔ if v.category = 1 then am_E d 108 Q (34, L, v :: v :: st, g) else False := am_E_dup (by decide +kernel : am_dc 108 33 = some (.dup)) rfl
theorem x_108_34   : am_E d 108 Q (34, L, .ref a :: st, g) ↔ am_kv d 108 Q 37 L st g (am_gf g a 6 4) := am_E_getfield (by decide +kernel : am_dc 108 34 = some (.getfield 30)) (by decide +kernel) rfl
theorem x_108_37   : am_E d 108 Q (37, L, st, g) ↔ am_E d 108 Q (38, L, .int (1) :: st, g) := am_E_iconst (by decide +kernel : am_dc 108 37 = some (.iconst (1))) (by decide) rfl
theorem x_108_38   : am_E d 108 Q (38, L, .int y :: .int x :: st, g) ↔ am_E d 108 Q (39, L, .int (x + y) :: st, g) := am_E_iadd (by decide +kernel : am_dc 108 38 = some (.iadd)) rfl
theorem x_108_39   (hok : (am_ok (am_ft 6 4).1 v && (!(am_ft 6 4).2 || (am_ini 108 && am_co 6 == am_o 108)) && decide (6 < 13)) = true) : am_E d 108 Q (39, L, v :: .ref a :: st, g) ↔ am_kg d 108 Q 42 L st (am_pf g a 6 4 v) := am_E_putfield (by decide +kernel : am_dc 108 39 = some (.putfield 30)) (by decide +kernel) rfl hok
theorem x_108_42   : am_E d 108 Q (42, L, st, g) ↔ am_K d 108 Q (am_ldA 43 L st g 0) := am_E_aload_n (by decide +kernel : am_dc 108 42 = some (.aload_n 0)) rfl rfl
theorem x_108_43   : am_E d 108 Q (43, L, .ref a :: st, g) ↔ am_kv d 108 Q 46 L st g (am_gf g a 6 4) := am_E_getfield (by decide +kernel : am_dc 108 43 = some (.getfield 30)) (by decide +kernel) rfl
theorem x_108_46   : am_E d 108 Q (46, L, st, g) ↔ am_E d 108 Q (47, L, .int (1) :: st, g) := am_E_iconst (by decide +kernel : am_dc 108 46 = some (.iconst (1))) (by decide) rfl
theorem x_108_47   : am_E d 108 Q (47, L, .int y :: .int x :: st, g) ↔ am_E d 108 Q (48, L, .int (x - y) :: st, g) := am_E_isub (by decide +kernel : am_dc 108 47 = some (.isub)) rfl
theorem x_108_48  : am_E d 108 Q (48, L, [.int x], g) ↔ if am_ok (FieldType.int) (.int x) = true then Q (.inl (some (.int x))) g else False := am_E_ireturn (by decide +kernel : am_dc 108 48 = some (.ireturn)) (by decide +kernel)
theorem f_108_30 : am_fl 108 30 = some (6, 4) := by decide +kernel
theorem f_108_18 : am_fl 108 18 = some (6, 2) := by decide +kernel
theorem f_108_21 : am_fl 108 21 = some (6, 3) := by decide +kernel
theorem t_108 : am_t 108 = some (FieldType.int) := by decide +kernel
theorem h_108 : am_h 108 = [] := by decide +kernel
theorem m_108 : am_m 108 = 3 := by decide +kernel
theorem x_109_0   : am_E d 109 Q (0, L, st, g) ↔ am_K d 109 Q (am_ldA 1 L st g 0) := am_E_aload_n (by decide +kernel : am_dc 109 0 = some (.aload_n 0)) rfl rfl
theorem x_109_1   : am_E d 109 Q (1, L, .ref a :: st, g) ↔ am_kv d 109 Q 4 L st g (am_gf g a 6 0) := am_E_getfield (by decide +kernel : am_dc 109 1 = some (.getfield 9)) (by decide +kernel) rfl
theorem x_109_4   : am_E d 109 Q (4, L, st, g) ↔ am_E d 109 Q (5, L, .int (0) :: st, g) := am_E_iconst (by decide +kernel : am_dc 109 4 = some (.iconst (0))) (by decide) rfl
theorem x_109_5  : am_E d 109 Q (5, L, st, g) ↔ am_K d 109 Q (am_S 109 (.invokestatic 24) 5 L st g) := am_E_x (by decide +kernel : am_dc 109 5 = some (.invokestatic 24))
theorem x_109_8   : am_E d 109 Q (8, L, st, g) ↔ am_K d 109 Q (am_ldA 9 L st g 0) := am_E_aload_n (by decide +kernel : am_dc 109 8 = some (.aload_n 0)) rfl rfl
theorem x_109_9   : am_E d 109 Q (9, L, .ref a :: st, g) ↔ am_kv d 109 Q 12 L st g (am_gf g a 6 1) := am_E_getfield (by decide +kernel : am_dc 109 9 = some (.getfield 15)) (by decide +kernel) rfl
theorem x_109_12   : am_E d 109 Q (12, L, st, g) ↔ am_E d 109 Q (13, L, .int (0) :: st, g) := am_E_iconst (by decide +kernel : am_dc 109 12 = some (.iconst (0))) (by decide) rfl
theorem x_109_13  : am_E d 109 Q (13, L, st, g) ↔ am_K d 109 Q (am_S 109 (.invokestatic 24) 13 L st g) := am_E_x (by decide +kernel : am_dc 109 13 = some (.invokestatic 24))
theorem x_109_16   : am_E d 109 Q (16, L, st, g) ↔ am_K d 109 Q (am_ldA 17 L st g 0) := am_E_aload_n (by decide +kernel : am_dc 109 16 = some (.aload_n 0)) rfl rfl
theorem x_109_17   : am_E d 109 Q (17, L, st, g) ↔ am_E d 109 Q (18, L, .int (0) :: st, g) := am_E_iconst (by decide +kernel : am_dc 109 17 = some (.iconst (0))) (by decide) rfl
theorem x_109_18   (hok : (am_ok (am_ft 6 4).1 v && (!(am_ft 6 4).2 || (am_ini 109 && am_co 6 == am_o 109)) && decide (6 < 13)) = true) : am_E d 109 Q (18, L, v :: .ref a :: st, g) ↔ am_kg d 109 Q 21 L st (am_pf g a 6 4 v) := am_E_putfield (by decide +kernel : am_dc 109 18 = some (.putfield 30)) (by decide +kernel) rfl hok
theorem x_109_21  : am_E d 109 Q (21, L, [], g) ↔ Q (.inl none) g := am_E_return (by decide +kernel : am_dc 109 21 = some (.return_)) (by decide +kernel)
theorem f_109_9 : am_fl 109 9 = some (6, 0) := by decide +kernel
theorem v_109_24 : am_iv 109 24 = some (0, 311, 2) := by decide +kernel
theorem f_109_15 : am_fl 109 15 = some (6, 1) := by decide +kernel
theorem f_109_30 : am_fl 109 30 = some (6, 4) := by decide +kernel
theorem t_109 : am_t 109 = none := by decide +kernel
theorem h_109 : am_h 109 = [] := by decide +kernel
theorem m_109 : am_m 109 = 1 := by decide +kernel
theorem x_110_0   : am_E d 110 Q (0, L, st, g) ↔ am_K d 110 Q (am_ldA 1 L st g 1) := am_E_aload_n (by decide +kernel : am_dc 110 0 = some (.aload_n 1)) rfl rfl
theorem x_110_1   : am_E d 110 Q (1, L, .ref a :: st, g) ↔ am_kv d 110 Q 4 L st g (am_gf g a 6 0) := am_E_getfield (by decide +kernel : am_dc 110 1 = some (.getfield 9)) (by decide +kernel) rfl
theorem x_110_4   : am_E d 110 Q (4, L, st, g) ↔ am_E d 110 Q (5, L, .int (0) :: st, g) := am_E_iconst (by decide +kernel : am_dc 110 4 = some (.iconst (0))) (by decide) rfl
theorem x_110_5   : am_E d 110 Q (5, L, st, g) ↔ am_K d 110 Q (am_ldA 6 L st g 0) := am_E_aload_n (by decide +kernel : am_dc 110 5 = some (.aload_n 0)) rfl rfl
theorem x_110_6   : am_E d 110 Q (6, L, .ref a :: st, g) ↔ am_kv d 110 Q 9 L st g (am_gf g a 6 0) := am_E_getfield (by decide +kernel : am_dc 110 6 = some (.getfield 9)) (by decide +kernel) rfl
theorem x_110_9   : am_E d 110 Q (9, L, st, g) ↔ am_E d 110 Q (10, L, .int (0) :: st, g) := am_E_iconst (by decide +kernel : am_dc 110 9 = some (.iconst (0))) (by decide) rfl
theorem x_110_10   : am_E d 110 Q (10, L, st, g) ↔ am_E d 110 Q (11, L, .int (3) :: st, g) := am_E_iconst (by decide +kernel : am_dc 110 10 = some (.iconst (3))) (by decide) rfl
theorem x_110_11  : am_E d 110 Q (11, L, st, g) ↔ am_K d 110 Q (am_S 110 (.invokestatic 34) 11 L st g) := am_E_x (by decide +kernel : am_dc 110 11 = some (.invokestatic 34))
theorem x_110_14   : am_E d 110 Q (14, L, st, g) ↔ am_K d 110 Q (am_ldA 15 L st g 1) := am_E_aload_n (by decide +kernel : am_dc 110 14 = some (.aload_n 1)) rfl rfl
theorem x_110_15   : am_E d 110 Q (15, L, .ref a :: st, g) ↔ am_kv d 110 Q 18 L st g (am_gf g a 6 1) := am_E_getfield (by decide +kernel : am_dc 110 15 = some (.getfield 15)) (by decide +kernel) rfl
theorem x_110_18   : am_E d 110 Q (18, L, st, g) ↔ am_E d 110 Q (19, L, .int (0) :: st, g) := am_E_iconst (by decide +kernel : am_dc 110 18 = some (.iconst (0))) (by decide) rfl
theorem x_110_19   : am_E d 110 Q (19, L, st, g) ↔ am_K d 110 Q (am_ldA 20 L st g 0) := am_E_aload_n (by decide +kernel : am_dc 110 19 = some (.aload_n 0)) rfl rfl
theorem x_110_20   : am_E d 110 Q (20, L, .ref a :: st, g) ↔ am_kv d 110 Q 23 L st g (am_gf g a 6 1) := am_E_getfield (by decide +kernel : am_dc 110 20 = some (.getfield 15)) (by decide +kernel) rfl
theorem x_110_23   : am_E d 110 Q (23, L, st, g) ↔ am_E d 110 Q (24, L, .int (0) :: st, g) := am_E_iconst (by decide +kernel : am_dc 110 23 = some (.iconst (0))) (by decide) rfl
theorem x_110_24   : am_E d 110 Q (24, L, st, g) ↔ am_E d 110 Q (25, L, .int (3) :: st, g) := am_E_iconst (by decide +kernel : am_dc 110 24 = some (.iconst (3))) (by decide) rfl
theorem x_110_25  : am_E d 110 Q (25, L, st, g) ↔ am_K d 110 Q (am_S 110 (.invokestatic 34) 25 L st g) := am_E_x (by decide +kernel : am_dc 110 25 = some (.invokestatic 34))
theorem x_110_28   : am_E d 110 Q (28, L, st, g) ↔ am_K d 110 Q (am_ldA 29 L st g 1) := am_E_aload_n (by decide +kernel : am_dc 110 28 = some (.aload_n 1)) rfl rfl
theorem x_110_29   : am_E d 110 Q (29, L, .ref a :: st, g) ↔ am_kv d 110 Q 32 L st g (am_gf g a 6 2) := am_E_getfield (by decide +kernel : am_dc 110 29 = some (.getfield 18)) (by decide +kernel) rfl
theorem x_110_32   : am_E d 110 Q (32, L, st, g) ↔ am_E d 110 Q (33, L, .int (0) :: st, g) := am_E_iconst (by decide +kernel : am_dc 110 32 = some (.iconst (0))) (by decide) rfl
theorem x_110_33   : am_E d 110 Q (33, L, st, g) ↔ am_K d 110 Q (am_ldA 34 L st g 0) := am_E_aload_n (by decide +kernel : am_dc 110 33 = some (.aload_n 0)) rfl rfl
theorem x_110_34   : am_E d 110 Q (34, L, .ref a :: st, g) ↔ am_kv d 110 Q 37 L st g (am_gf g a 6 2) := am_E_getfield (by decide +kernel : am_dc 110 34 = some (.getfield 18)) (by decide +kernel) rfl
theorem x_110_37   : am_E d 110 Q (37, L, st, g) ↔ am_E d 110 Q (38, L, .int (0) :: st, g) := am_E_iconst (by decide +kernel : am_dc 110 37 = some (.iconst (0))) (by decide) rfl
theorem x_110_38   : am_E d 110 Q (38, L, st, g) ↔ am_E d 110 Q (40, L, .int (24) :: st, g) := am_E_bipush (by decide +kernel : am_dc 110 38 = some (.bipush (24))) (by decide) rfl
theorem x_110_40  : am_E d 110 Q (40, L, st, g) ↔ am_K d 110 Q (am_S 110 (.invokestatic 34) 40 L st g) := am_E_x (by decide +kernel : am_dc 110 40 = some (.invokestatic 34))
theorem x_110_43   : am_E d 110 Q (43, L, st, g) ↔ am_K d 110 Q (am_ldA 44 L st g 1) := am_E_aload_n (by decide +kernel : am_dc 110 43 = some (.aload_n 1)) rfl rfl
theorem x_110_44   : am_E d 110 Q (44, L, .ref a :: st, g) ↔ am_kv d 110 Q 47 L st g (am_gf g a 6 3) := am_E_getfield (by decide +kernel : am_dc 110 44 = some (.getfield 21)) (by decide +kernel) rfl
theorem x_110_47   : am_E d 110 Q (47, L, st, g) ↔ am_E d 110 Q (48, L, .int (0) :: st, g) := am_E_iconst (by decide +kernel : am_dc 110 47 = some (.iconst (0))) (by decide) rfl
theorem x_110_48   : am_E d 110 Q (48, L, st, g) ↔ am_K d 110 Q (am_ldA 49 L st g 0) := am_E_aload_n (by decide +kernel : am_dc 110 48 = some (.aload_n 0)) rfl rfl
theorem x_110_49   : am_E d 110 Q (49, L, .ref a :: st, g) ↔ am_kv d 110 Q 52 L st g (am_gf g a 6 3) := am_E_getfield (by decide +kernel : am_dc 110 49 = some (.getfield 21)) (by decide +kernel) rfl
theorem x_110_52   : am_E d 110 Q (52, L, st, g) ↔ am_E d 110 Q (53, L, .int (0) :: st, g) := am_E_iconst (by decide +kernel : am_dc 110 52 = some (.iconst (0))) (by decide) rfl
theorem x_110_53   : am_E d 110 Q (53, L, st, g) ↔ am_E d 110 Q (55, L, .int (24) :: st, g) := am_E_bipush (by decide +kernel : am_dc 110 53 = some (.bipush (24))) (by decide) rfl
theorem x_110_55  : am_E d 110 Q (55, L, st, g) ↔ am_K d 110 Q (am_S 110 (.invokestatic 34) 55 L st g) := am_E_x (by decide +kernel : am_dc 110 55 = some (.invokestatic 34))
theorem x_110_58   : am_E d 110 Q (58, L, st, g) ↔ am_K d 110 Q (am_ldA 59 L st g 0) := am_E_aload_n (by decide +kernel : am_dc 110 58 = some (.aload_n 0)) rfl rfl
theorem x_110_59   : am_E d 110 Q (59, L, st, g) ↔ am_K d 110 Q (am_ldA 60 L st g 1) := am_E_aload_n (by decide +kernel : am_dc 110 59 = some (.aload_n 1)) rfl rfl
theorem x_110_60   : am_E d 110 Q (60, L, .ref a :: st, g) ↔ am_kv d 110 Q 63 L st g (am_gf g a 6 4) := am_E_getfield (by decide +kernel : am_dc 110 60 = some (.getfield 30)) (by decide +kernel) rfl
theorem x_110_63   (hok : (am_ok (am_ft 6 4).1 v && (!(am_ft 6 4).2 || (am_ini 110 && am_co 6 == am_o 110)) && decide (6 < 13)) = true) : am_E d 110 Q (63, L, v :: .ref a :: st, g) ↔ am_kg d 110 Q 66 L st (am_pf g a 6 4 v) := am_E_putfield (by decide +kernel : am_dc 110 63 = some (.putfield 30)) (by decide +kernel) rfl hok
theorem x_110_66  : am_E d 110 Q (66, L, [], g) ↔ Q (.inl none) g := am_E_return (by decide +kernel : am_dc 110 66 = some (.return_)) (by decide +kernel)
theorem f_110_9 : am_fl 110 9 = some (6, 0) := by decide +kernel
theorem v_110_34 : am_iv 110 34 = some (4, 0, 5) := by decide +kernel
theorem f_110_15 : am_fl 110 15 = some (6, 1) := by decide +kernel
theorem f_110_18 : am_fl 110 18 = some (6, 2) := by decide +kernel
theorem f_110_21 : am_fl 110 21 = some (6, 3) := by decide +kernel
theorem f_110_30 : am_fl 110 30 = some (6, 4) := by decide +kernel
theorem t_110 : am_t 110 = none := by decide +kernel
theorem h_110 : am_h 110 = [] := by decide +kernel
theorem m_110 : am_m 110 = 2 := by decide +kernel
theorem x_111_0   : am_E d 111 Q (0, L, st, g) ↔ am_K d 111 Q (am_ldI 1 L st g 0) := am_E_iload_n (by decide +kernel : am_dc 111 0 = some (.iload_n 0)) rfl rfl
theorem x_111_1   : am_E d 111 Q (1, L, st, g) ↔ am_E d 111 Q (3, L, .int (10) :: st, g) := am_E_bipush (by decide +kernel : am_dc 111 1 = some (.bipush (10))) (by decide) rfl
theorem x_111_3   : am_E d 111 Q (3, L, .int y :: .int x :: st, g) ↔ if y = 0 then False else am_E d 111 Q (4, L, .int (x / y) :: st, g) := am_E_idiv (by decide +kernel : am_dc 111 3 = some (.idiv)) rfl
theorem x_111_4  : am_E d 111 Q (4, L, [.int x], g) ↔ if am_ok (FieldType.int) (.int x) = true then Q (.inl (some (.int x))) g else False := am_E_ireturn (by decide +kernel : am_dc 111 4 = some (.ireturn)) (by decide +kernel)
theorem t_111 : am_t 111 = some (FieldType.int) := by decide +kernel
theorem h_111 : am_h 111 = [] := by decide +kernel
theorem m_111 : am_m 111 = 1 := by decide +kernel
theorem x_112_0   : am_E d 112 Q (0, L, st, g) ↔ am_E d 112 Q (1, L, .int (0) :: st, g) := am_E_iconst (by decide +kernel : am_dc 112 0 = some (.iconst (0))) (by decide) rfl
theorem x_112_1   : am_E d 112 Q (1, L, st, g) ↔ am_K d 112 Q (am_stI 2 L st g 3) := am_E_istore_n (by decide +kernel : am_dc 112 1 = some (.istore_n 3)) rfl rfl
theorem x_112_2   : am_E d 112 Q (2, L, st, g) ↔ am_K d 112 Q (am_ldI 3 L st g 3) := am_E_iload_n (by decide +kernel : am_dc 112 2 = some (.iload_n 3)) rfl rfl
theorem x_112_3   : am_E d 112 Q (3, L, st, g) ↔ am_E d 112 Q (4, L, .int (3) :: st, g) := am_E_iconst (by decide +kernel : am_dc 112 3 = some (.iconst (3))) (by decide) rfl
theorem x_112_4   : am_E d 112 Q (4, L, .int y :: .int x :: st, g) ↔ am_E d 112 Q (am_cmp .ge x y 89 7, L, st, g) := am_E_ic (by decide +kernel : am_dc 112 4 = some (.if_icmp .ge (85))) rfl rfl
theorem x_112_7   : am_E d 112 Q (7, L, st, g) ↔ am_K d 112 Q (am_ldI 8 L st g 2) := am_E_iload_n (by decide +kernel : am_dc 112 7 = some (.iload_n 2)) rfl rfl
theorem x_112_8   : am_E d 112 Q (8, L, st, g) ↔ am_K d 112 Q (am_ldI 9 L st g 3) := am_E_iload_n (by decide +kernel : am_dc 112 8 = some (.iload_n 3)) rfl rfl
theorem x_112_9  : am_E d 112 Q (9, L, st, g) ↔ am_K d 112 Q (am_S 112 (.invokestatic 44) 9 L st g) := am_E_x (by decide +kernel : am_dc 112 9 = some (.invokestatic 44))
theorem x_112_12   : am_E d 112 Q (12, L, st, g) ↔ am_K d 112 Q (am_stI 14 L st g 4) := am_E_istore (by decide +kernel : am_dc 112 12 = some (.istore 4)) rfl
theorem x_112_14   : am_E d 112 Q (14, L, st, g) ↔ am_K d 112 Q (am_ldA 15 L st g 1) := am_E_aload_n (by decide +kernel : am_dc 112 14 = some (.aload_n 1)) rfl rfl
theorem x_112_15   : am_E d 112 Q (15, L, .ref a :: st, g) ↔ am_kv d 112 Q 18 L st g (am_gf g a 8 0) := am_E_getfield (by decide +kernel : am_dc 112 15 = some (.getfield 49)) (by decide +kernel) rfl
theorem x_112_18   : am_E d 112 Q (18, L, st, g) ↔ am_K d 112 Q (am_ldI 19 L st g 3) := am_E_iload_n (by decide +kernel : am_dc 112 18 = some (.iload_n 3)) rfl rfl
theorem x_112_19   : am_E d 112 Q (19, L, .int x :: .ref a :: st, g) ↔ am_kv d 112 Q 20 L st g (am_iat .aaload g a x) := am_E_aaload (by decide +kernel : am_dc 112 19 = some (.aaload)) rfl
theorem x_112_20   : am_E d 112 Q (20, L, st, g) ↔ am_K d 112 Q (am_stA 22 L st g 5) := am_E_astore (by decide +kernel : am_dc 112 20 = some (.astore 5)) rfl
theorem x_112_22   : am_E d 112 Q (22, L, st, g) ↔ am_K d 112 Q (am_ldA 23 L st g 0) := am_E_aload_n (by decide +kernel : am_dc 112 22 = some (.aload_n 0)) rfl rfl
theorem x_112_23   : am_E d 112 Q (23, L, .ref a :: st, g) ↔ am_kv d 112 Q 26 L st g (am_gf g a 6 0) := am_E_getfield (by decide +kernel : am_dc 112 23 = some (.getfield 9)) (by decide +kernel) rfl
theorem x_112_26   : am_E d 112 Q (26, L, st, g) ↔ am_K d 112 Q (am_ldI 27 L st g 3) := am_E_iload_n (by decide +kernel : am_dc 112 26 = some (.iload_n 3)) rfl rfl
theorem x_112_27   : am_E d 112 Q (27, L, .int x :: .ref a :: st, g) ↔ am_kv d 112 Q 28 L st g (am_iat .iaload g a x) := am_E_iaload (by decide +kernel : am_dc 112 27 = some (.iaload)) rfl
theorem x_112_28   : am_E d 112 Q (28, L, st, g) ↔ am_E d 112 Q (29, L, .int (1) :: st, g) := am_E_iconst (by decide +kernel : am_dc 112 28 = some (.iconst (1))) (by decide) rfl
theorem x_112_29   : am_E d 112 Q (29, L, .int y :: .int x :: st, g) ↔ am_E d 112 Q (am_cmp .ne x y 45 32, L, st, g) := am_E_ic (by decide +kernel : am_dc 112 29 = some (.if_icmp .ne (16))) rfl rfl
theorem x_112_32   : am_E d 112 Q (32, L, st, g) ↔ am_K d 112 Q (am_ldI 34 L st g 4) := am_E_iload (by decide +kernel : am_dc 112 32 = some (.iload 4)) rfl
theorem x_112_34   : am_E d 112 Q (34, L, st, g) ↔ am_K d 112 Q (am_ldA 35 L st g 0) := am_E_aload_n (by decide +kernel : am_dc 112 34 = some (.aload_n 0)) rfl rfl
theorem x_112_35   : am_E d 112 Q (35, L, .ref a :: st, g) ↔ am_kv d 112 Q 38 L st g (am_gf g a 6 1) := am_E_getfield (by decide +kernel : am_dc 112 35 = some (.getfield 15)) (by decide +kernel) rfl
theorem x_112_38   : am_E d 112 Q (38, L, st, g) ↔ am_K d 112 Q (am_ldI 39 L st g 3) := am_E_iload_n (by decide +kernel : am_dc 112 38 = some (.iload_n 3)) rfl rfl
theorem x_112_39   : am_E d 112 Q (39, L, .int x :: .ref a :: st, g) ↔ am_kv d 112 Q 40 L st g (am_iat .iaload g a x) := am_E_iaload (by decide +kernel : am_dc 112 39 = some (.iaload)) rfl
theorem x_112_40   : am_E d 112 Q (40, L, .int y :: .int x :: st, g) ↔ am_E d 112 Q (am_cmp .eq x y 45 43, L, st, g) := am_E_ic (by decide +kernel : am_dc 112 40 = some (.if_icmp .eq (5))) rfl rfl
theorem x_112_43   : am_E d 112 Q (43, L, st, g) ↔ am_E d 112 Q (44, L, .int (0) :: st, g) := am_E_iconst (by decide +kernel : am_dc 112 43 = some (.iconst (0))) (by decide) rfl
theorem x_112_44  : am_E d 112 Q (44, L, [.int x], g) ↔ if am_ok (FieldType.boolean) (.int x) = true then Q (.inl (some (.int x))) g else False := am_E_ireturn (by decide +kernel : am_dc 112 44 = some (.ireturn)) (by decide +kernel)
theorem x_112_45   : am_E d 112 Q (45, L, st, g) ↔ am_K d 112 Q (am_ldA 46 L st g 0) := am_E_aload_n (by decide +kernel : am_dc 112 45 = some (.aload_n 0)) rfl rfl
theorem x_112_46   : am_E d 112 Q (46, L, .ref a :: st, g) ↔ am_kv d 112 Q 49 L st g (am_gf g a 6 0) := am_E_getfield (by decide +kernel : am_dc 112 46 = some (.getfield 9)) (by decide +kernel) rfl
theorem x_112_49   : am_E d 112 Q (49, L, st, g) ↔ am_K d 112 Q (am_ldI 50 L st g 3) := am_E_iload_n (by decide +kernel : am_dc 112 49 = some (.iload_n 3)) rfl rfl
theorem x_112_50   : am_E d 112 Q (50, L, .int x :: .ref a :: st, g) ↔ am_kv d 112 Q 51 L st g (am_iat .iaload g a x) := am_E_iaload (by decide +kernel : am_dc 112 50 = some (.iaload)) rfl
theorem x_112_51   : am_E d 112 Q (51, L, st, g) ↔ am_E d 112 Q (52, L, .int (2) :: st, g) := am_E_iconst (by decide +kernel : am_dc 112 51 = some (.iconst (2))) (by decide) rfl
theorem x_112_52   : am_E d 112 Q (52, L, .int y :: .int x :: st, g) ↔ am_E d 112 Q (am_cmp .ne x y 83 55, L, st, g) := am_E_ic (by decide +kernel : am_dc 112 52 = some (.if_icmp .ne (31))) rfl rfl
theorem x_112_55   : am_E d 112 Q (55, L, st, g) ↔ am_K d 112 Q (am_ldA 57 L st g 5) := am_E_aload (by decide +kernel : am_dc 112 55 = some (.aload 5)) rfl
theorem x_112_57   : am_E d 112 Q (57, L, st, g) ↔ am_K d 112 Q (am_ldI 59 L st g 4) := am_E_iload (by decide +kernel : am_dc 112 57 = some (.iload 4)) rfl
theorem x_112_59  : am_E d 112 Q (59, L, st, g) ↔ am_K d 112 Q (am_S 112 (.invokevirtual 53) 59 L st g) := am_E_x (by decide +kernel : am_dc 112 59 = some (.invokevirtual 53))
theorem x_112_62   : am_E d 112 Q (62, L, .int x :: st, g) ↔ am_E d 112 Q (am_cmp .eq x 0 81 65, L, st, g) := am_E_if (by decide +kernel : am_dc 112 62 = some (.ifCond .eq (19))) rfl rfl
theorem x_112_65   : am_E d 112 Q (65, L, st, g) ↔ am_K d 112 Q (am_ldA 67 L st g 5) := am_E_aload (by decide +kernel : am_dc 112 65 = some (.aload 5)) rfl
theorem x_112_67   : am_E d 112 Q (67, L, st, g) ↔ am_K d 112 Q (am_ldI 69 L st g 4) := am_E_iload (by decide +kernel : am_dc 112 67 = some (.iload 4)) rfl
theorem x_112_69   : am_E d 112 Q (69, L, st, g) ↔ am_K d 112 Q (am_ldA 70 L st g 0) := am_E_aload_n (by decide +kernel : am_dc 112 69 = some (.aload_n 0)) rfl rfl
theorem x_112_70   : am_E d 112 Q (70, L, .ref a :: st, g) ↔ am_kv d 112 Q 73 L st g (am_gf g a 6 1) := am_E_getfield (by decide +kernel : am_dc 112 70 = some (.getfield 15)) (by decide +kernel) rfl
theorem x_112_73   : am_E d 112 Q (73, L, st, g) ↔ am_K d 112 Q (am_ldI 74 L st g 3) := am_E_iload_n (by decide +kernel : am_dc 112 73 = some (.iload_n 3)) rfl rfl
theorem x_112_74   : am_E d 112 Q (74, L, .int x :: .ref a :: st, g) ↔ am_kv d 112 Q 75 L st g (am_iat .iaload g a x) := am_E_iaload (by decide +kernel : am_dc 112 74 = some (.iaload)) rfl
theorem x_112_75  : am_E d 112 Q (75, L, st, g) ↔ am_K d 112 Q (am_S 112 (.invokevirtual 59) 75 L st g) := am_E_x (by decide +kernel : am_dc 112 75 = some (.invokevirtual 59))
theorem x_112_78   : am_E d 112 Q (78, L, .int x :: st, g) ↔ am_E d 112 Q (am_cmp .ne x 0 83 81, L, st, g) := am_E_if (by decide +kernel : am_dc 112 78 = some (.ifCond .ne (5))) rfl rfl
theorem x_112_81   : am_E d 112 Q (81, L, st, g) ↔ am_E d 112 Q (82, L, .int (0) :: st, g) := am_E_iconst (by decide +kernel : am_dc 112 81 = some (.iconst (0))) (by decide) rfl
theorem x_112_82  : am_E d 112 Q (82, L, [.int x], g) ↔ if am_ok (FieldType.boolean) (.int x) = true then Q (.inl (some (.int x))) g else False := am_E_ireturn (by decide +kernel : am_dc 112 82 = some (.ireturn)) (by decide +kernel)
theorem x_112_83   (hk : L.getD 3 none = some (.int x)) (hl : 3 < L.length) : am_E d 112 Q (83, L, st, g) ↔ am_E d 112 Q (86, am_s1 L 3 (.int (x + (1))), st, g) := am_E_iinc (by decide +kernel : am_dc 112 83 = some (.iinc 3 (1))) (by decide) rfl hk hl
theorem x_112_86   : am_E d 112 Q (86, L, st, g) ↔ am_E d 112 Q (2, L, st, g) := am_E_gt (by decide +kernel : am_dc 112 86 = some (.goto (-84))) rfl rfl
theorem x_112_89   : am_E d 112 Q (89, L, st, g) ↔ am_E d 112 Q (90, L, .int (1) :: st, g) := am_E_iconst (by decide +kernel : am_dc 112 89 = some (.iconst (1))) (by decide) rfl
theorem x_112_90  : am_E d 112 Q (90, L, [.int x], g) ↔ if am_ok (FieldType.boolean) (.int x) = true then Q (.inl (some (.int x))) g else False := am_E_ireturn (by decide +kernel : am_dc 112 90 = some (.ireturn)) (by decide +kernel)
theorem v_112_44 : am_iv 112 44 = some (0, 131, 2) := by decide +kernel
theorem f_112_49 : am_fl 112 49 = some (8, 0) := by decide +kernel
theorem f_112_9 : am_fl 112 9 = some (6, 0) := by decide +kernel
theorem f_112_15 : am_fl 112 15 = some (6, 1) := by decide +kernel
theorem v_112_53 : am_iv 112 53 = some (1, 150, 2) := by decide +kernel
theorem v_112_59 : am_iv 112 59 = some (1, 151, 3) := by decide +kernel
theorem t_112 : am_t 112 = some (FieldType.boolean) := by decide +kernel
theorem h_112 : am_h 112 = [] := by decide +kernel
theorem m_112 : am_m 112 = 6 := by decide +kernel
theorem x_113_0   : am_E d 113 Q (0, L, st, g) ↔ am_K d 113 Q (am_ldA 1 L st g 0) := am_E_aload_n (by decide +kernel : am_dc 113 0 = some (.aload_n 0)) rfl rfl
theorem x_113_1   : am_E d 113 Q (1, L, .ref a :: st, g) ↔ am_kv d 113 Q 4 L st g (am_gf g a 6 1) := am_E_getfield (by decide +kernel : am_dc 113 1 = some (.getfield 15)) (by decide +kernel) rfl
theorem x_113_4   : am_E d 113 Q (4, L, st, g) ↔ am_K d 113 Q (am_ldI 5 L st g 1) := am_E_iload_n (by decide +kernel : am_dc 113 4 = some (.iload_n 1)) rfl rfl
theorem x_113_5   : am_E d 113 Q (5, L, .int x :: .ref a :: st, g) ↔ am_kv d 113 Q 6 L st g (am_iat .iaload g a x) := am_E_iaload (by decide +kernel : am_dc 113 5 = some (.iaload)) rfl
theorem x_113_6   : am_E d 113 Q (6, L, st, g) ↔ am_K d 113 Q (am_ldI 7 L st g 2) := am_E_iload_n (by decide +kernel : am_dc 113 6 = some (.iload_n 2)) rfl rfl
theorem x_113_7   : am_E d 113 Q (7, L, .int y :: .int x :: st, g) ↔ am_E d 113 Q (am_cmp .ne x y 24 10, L, st, g) := am_E_ic (by decide +kernel : am_dc 113 7 = some (.if_icmp .ne (17))) rfl rfl
theorem x_113_10   : am_E d 113 Q (10, L, st, g) ↔ am_K d 113 Q (am_ldA 11 L st g 0) := am_E_aload_n (by decide +kernel : am_dc 113 10 = some (.aload_n 0)) rfl rfl
theorem x_113_11   : am_E d 113 Q (11, L, .ref a :: st, g) ↔ am_kv d 113 Q 14 L st g (am_gf g a 6 0) := am_E_getfield (by decide +kernel : am_dc 113 11 = some (.getfield 9)) (by decide +kernel) rfl
theorem x_113_14   : am_E d 113 Q (14, L, st, g) ↔ am_K d 113 Q (am_ldI 15 L st g 1) := am_E_iload_n (by decide +kernel : am_dc 113 14 = some (.iload_n 1)) rfl rfl
theorem x_113_15   : am_E d 113 Q (15, L, st, g) ↔ am_E d 113 Q (16, L, .int (0) :: st, g) := am_E_iconst (by decide +kernel : am_dc 113 15 = some (.iconst (0))) (by decide) rfl
theorem x_113_16   : am_E d 113 Q (16, L, v :: .int x :: .ref a :: st, g) ↔ am_kg d 113 Q 17 L st (am_sat .iastore g a x v) := am_E_iastore (by decide +kernel : am_dc 113 16 = some (.iastore)) rfl
theorem x_113_17   : am_E d 113 Q (17, L, st, g) ↔ am_K d 113 Q (am_ldA 18 L st g 0) := am_E_aload_n (by decide +kernel : am_dc 113 17 = some (.aload_n 0)) rfl rfl
theorem x_113_18   : am_E d 113 Q (18, L, .ref a :: st, g) ↔ am_kv d 113 Q 21 L st g (am_gf g a 6 1) := am_E_getfield (by decide +kernel : am_dc 113 18 = some (.getfield 15)) (by decide +kernel) rfl
theorem x_113_21   : am_E d 113 Q (21, L, st, g) ↔ am_K d 113 Q (am_ldI 22 L st g 1) := am_E_iload_n (by decide +kernel : am_dc 113 21 = some (.iload_n 1)) rfl rfl
theorem x_113_22   : am_E d 113 Q (22, L, st, g) ↔ am_E d 113 Q (23, L, .int (0) :: st, g) := am_E_iconst (by decide +kernel : am_dc 113 22 = some (.iconst (0))) (by decide) rfl
theorem x_113_23   : am_E d 113 Q (23, L, v :: .int x :: .ref a :: st, g) ↔ am_kg d 113 Q 24 L st (am_sat .iastore g a x v) := am_E_iastore (by decide +kernel : am_dc 113 23 = some (.iastore)) rfl
theorem x_113_24  : am_E d 113 Q (24, L, [], g) ↔ Q (.inl none) g := am_E_return (by decide +kernel : am_dc 113 24 = some (.return_)) (by decide +kernel)
theorem f_113_15 : am_fl 113 15 = some (6, 1) := by decide +kernel
theorem f_113_9 : am_fl 113 9 = some (6, 0) := by decide +kernel
theorem t_113 : am_t 113 = none := by decide +kernel
theorem h_113 : am_h 113 = [] := by decide +kernel
theorem m_113 : am_m 113 = 3 := by decide +kernel
theorem x_114_0   : am_E d 114 Q (0, L, st, g) ↔ am_K d 114 Q (am_ldA 1 L st g 0) := am_E_aload_n (by decide +kernel : am_dc 114 0 = some (.aload_n 0)) rfl rfl
theorem x_114_1   : am_E d 114 Q (1, L, .ref a :: st, g) ↔ am_kv d 114 Q 4 L st g (am_gf g a 6 0) := am_E_getfield (by decide +kernel : am_dc 114 1 = some (.getfield 9)) (by decide +kernel) rfl
theorem x_114_4   : am_E d 114 Q (4, L, st, g) ↔ am_K d 114 Q (am_ldI 5 L st g 1) := am_E_iload_n (by decide +kernel : am_dc 114 4 = some (.iload_n 1)) rfl rfl
theorem x_114_5   : am_E d 114 Q (5, L, .int x :: .ref a :: st, g) ↔ am_kv d 114 Q 6 L st g (am_iat .iaload g a x) := am_E_iaload (by decide +kernel : am_dc 114 5 = some (.iaload)) rfl
theorem x_114_6   : am_E d 114 Q (6, L, .int x :: st, g) ↔ am_E d 114 Q (am_cmp .eq x 0 21 9, L, st, g) := am_E_if (by decide +kernel : am_dc 114 6 = some (.ifCond .eq (15))) rfl rfl
theorem x_114_9   : am_E d 114 Q (9, L, st, g) ↔ am_K d 114 Q (am_ldA 10 L st g 0) := am_E_aload_n (by decide +kernel : am_dc 114 9 = some (.aload_n 0)) rfl rfl
theorem x_114_10   : am_E d 114 Q (10, L, .ref a :: st, g) ↔ am_kv d 114 Q 13 L st g (am_gf g a 6 1) := am_E_getfield (by decide +kernel : am_dc 114 10 = some (.getfield 15)) (by decide +kernel) rfl
theorem x_114_13   : am_E d 114 Q (13, L, st, g) ↔ am_K d 114 Q (am_ldI 14 L st g 1) := am_E_iload_n (by decide +kernel : am_dc 114 13 = some (.iload_n 1)) rfl rfl
theorem x_114_14   : am_E d 114 Q (14, L, .int x :: .ref a :: st, g) ↔ am_kv d 114 Q 15 L st g (am_iat .iaload g a x) := am_E_iaload (by decide +kernel : am_dc 114 14 = some (.iaload)) rfl
theorem x_114_15   : am_E d 114 Q (15, L, st, g) ↔ am_K d 114 Q (am_ldI 16 L st g 2) := am_E_iload_n (by decide +kernel : am_dc 114 15 = some (.iload_n 2)) rfl rfl
theorem x_114_16   : am_E d 114 Q (16, L, .int y :: .int x :: st, g) ↔ am_E d 114 Q (am_cmp .ne x y 21 19, L, st, g) := am_E_ic (by decide +kernel : am_dc 114 16 = some (.if_icmp .ne (5))) rfl rfl
theorem x_114_19   : am_E d 114 Q (19, L, st, g) ↔ am_E d 114 Q (20, L, .int (1) :: st, g) := am_E_iconst (by decide +kernel : am_dc 114 19 = some (.iconst (1))) (by decide) rfl
theorem x_114_20  : am_E d 114 Q (20, L, [.int x], g) ↔ if am_ok (FieldType.boolean) (.int x) = true then Q (.inl (some (.int x))) g else False := am_E_ireturn (by decide +kernel : am_dc 114 20 = some (.ireturn)) (by decide +kernel)
theorem x_114_21   : am_E d 114 Q (21, L, st, g) ↔ am_E d 114 Q (22, L, .int (0) :: st, g) := am_E_iconst (by decide +kernel : am_dc 114 21 = some (.iconst (0))) (by decide) rfl
theorem x_114_22   : am_E d 114 Q (22, L, st, g) ↔ am_K d 114 Q (am_stI 23 L st g 3) := am_E_istore_n (by decide +kernel : am_dc 114 22 = some (.istore_n 3)) rfl rfl
theorem x_114_23   : am_E d 114 Q (23, L, st, g) ↔ am_K d 114 Q (am_ldI 24 L st g 3) := am_E_iload_n (by decide +kernel : am_dc 114 23 = some (.iload_n 3)) rfl rfl
theorem x_114_24   : am_E d 114 Q (24, L, st, g) ↔ am_K d 114 Q (am_ldA 25 L st g 0) := am_E_aload_n (by decide +kernel : am_dc 114 24 = some (.aload_n 0)) rfl rfl
theorem x_114_25   : am_E d 114 Q (25, L, .ref a :: st, g) ↔ am_kv d 114 Q 28 L st g (am_gf g a 6 4) := am_E_getfield (by decide +kernel : am_dc 114 25 = some (.getfield 30)) (by decide +kernel) rfl
theorem x_114_28   : am_E d 114 Q (28, L, .int y :: .int x :: st, g) ↔ am_E d 114 Q (am_cmp .ge x y 64 31, L, st, g) := am_E_ic (by decide +kernel : am_dc 114 28 = some (.if_icmp .ge (36))) rfl rfl
theorem x_114_31   : am_E d 114 Q (31, L, st, g) ↔ am_K d 114 Q (am_ldA 32 L st g 0) := am_E_aload_n (by decide +kernel : am_dc 114 31 = some (.aload_n 0)) rfl rfl
theorem x_114_32   : am_E d 114 Q (32, L, .ref a :: st, g) ↔ am_kv d 114 Q 35 L st g (am_gf g a 6 2) := am_E_getfield (by decide +kernel : am_dc 114 32 = some (.getfield 18)) (by decide +kernel) rfl
theorem x_114_35   : am_E d 114 Q (35, L, st, g) ↔ am_K d 114 Q (am_ldI 36 L st g 3) := am_E_iload_n (by decide +kernel : am_dc 114 35 = some (.iload_n 3)) rfl rfl
theorem x_114_36   : am_E d 114 Q (36, L, .int x :: .ref a :: st, g) ↔ am_kv d 114 Q 37 L st g (am_iat .iaload g a x) := am_E_iaload (by decide +kernel : am_dc 114 36 = some (.iaload)) rfl
theorem x_114_37   : am_E d 114 Q (37, L, st, g) ↔ am_E d 114 Q (39, L, .int (7) :: st, g) := am_E_bipush (by decide +kernel : am_dc 114 37 = some (.bipush (7))) (by decide) rfl
theorem x_114_39   : am_E d 114 Q (39, L, .int y :: .int x :: st, g) ↔ am_E d 114 Q (am_cmp .ne x y 58 42, L, st, g) := am_E_ic (by decide +kernel : am_dc 114 39 = some (.if_icmp .ne (19))) rfl rfl
theorem x_114_42   : am_E d 114 Q (42, L, st, g) ↔ am_K d 114 Q (am_ldA 43 L st g 0) := am_E_aload_n (by decide +kernel : am_dc 114 42 = some (.aload_n 0)) rfl rfl
theorem x_114_43   : am_E d 114 Q (43, L, .ref a :: st, g) ↔ am_kv d 114 Q 46 L st g (am_gf g a 6 3) := am_E_getfield (by decide +kernel : am_dc 114 43 = some (.getfield 21)) (by decide +kernel) rfl
theorem x_114_46   : am_E d 114 Q (46, L, st, g) ↔ am_K d 114 Q (am_ldI 47 L st g 3) := am_E_iload_n (by decide +kernel : am_dc 114 46 = some (.iload_n 3)) rfl rfl
theorem x_114_47   : am_E d 114 Q (47, L, .int x :: .ref a :: st, g) ↔ am_kv d 114 Q 48 L st g (am_iat .iaload g a x) := am_E_iaload (by decide +kernel : am_dc 114 47 = some (.iaload)) rfl
theorem x_114_48   : am_E d 114 Q (48, L, st, g) ↔ am_K d 114 Q (am_ldI 49 L st g 1) := am_E_iload_n (by decide +kernel : am_dc 114 48 = some (.iload_n 1)) rfl rfl
theorem x_114_49   : am_E d 114 Q (49, L, st, g) ↔ am_K d 114 Q (am_ldI 50 L st g 2) := am_E_iload_n (by decide +kernel : am_dc 114 49 = some (.iload_n 2)) rfl rfl
theorem x_114_50  : am_E d 114 Q (50, L, st, g) ↔ am_K d 114 Q (am_S 114 (.invokestatic 40) 50 L st g) := am_E_x (by decide +kernel : am_dc 114 50 = some (.invokestatic 40))
theorem x_114_53   : am_E d 114 Q (53, L, .int y :: .int x :: st, g) ↔ am_E d 114 Q (am_cmp .ne x y 58 56, L, st, g) := am_E_ic (by decide +kernel : am_dc 114 53 = some (.if_icmp .ne (5))) rfl rfl
theorem x_114_56   : am_E d 114 Q (56, L, st, g) ↔ am_E d 114 Q (57, L, .int (1) :: st, g) := am_E_iconst (by decide +kernel : am_dc 114 56 = some (.iconst (1))) (by decide) rfl
theorem x_114_57  : am_E d 114 Q (57, L, [.int x], g) ↔ if am_ok (FieldType.boolean) (.int x) = true then Q (.inl (some (.int x))) g else False := am_E_ireturn (by decide +kernel : am_dc 114 57 = some (.ireturn)) (by decide +kernel)
theorem x_114_58   (hk : L.getD 3 none = some (.int x)) (hl : 3 < L.length) : am_E d 114 Q (58, L, st, g) ↔ am_E d 114 Q (61, am_s1 L 3 (.int (x + (1))), st, g) := am_E_iinc (by decide +kernel : am_dc 114 58 = some (.iinc 3 (1))) (by decide) rfl hk hl
theorem x_114_61   : am_E d 114 Q (61, L, st, g) ↔ am_E d 114 Q (23, L, st, g) := am_E_gt (by decide +kernel : am_dc 114 61 = some (.goto (-38))) rfl rfl
theorem x_114_64   : am_E d 114 Q (64, L, st, g) ↔ am_E d 114 Q (65, L, .int (0) :: st, g) := am_E_iconst (by decide +kernel : am_dc 114 64 = some (.iconst (0))) (by decide) rfl
theorem x_114_65  : am_E d 114 Q (65, L, [.int x], g) ↔ if am_ok (FieldType.boolean) (.int x) = true then Q (.inl (some (.int x))) g else False := am_E_ireturn (by decide +kernel : am_dc 114 65 = some (.ireturn)) (by decide +kernel)
theorem f_114_9 : am_fl 114 9 = some (6, 0) := by decide +kernel
theorem f_114_15 : am_fl 114 15 = some (6, 1) := by decide +kernel
theorem f_114_30 : am_fl 114 30 = some (6, 4) := by decide +kernel
theorem f_114_18 : am_fl 114 18 = some (6, 2) := by decide +kernel
theorem f_114_21 : am_fl 114 21 = some (6, 3) := by decide +kernel
theorem v_114_40 : am_iv 114 40 = some (0, 116, 2) := by decide +kernel
theorem t_114 : am_t 114 = some (FieldType.boolean) := by decide +kernel
theorem h_114 : am_h 114 = [] := by decide +kernel
theorem m_114 : am_m 114 = 4 := by decide +kernel
theorem x_115_0   : am_E d 115 Q (0, L, st, g) ↔ am_E d 115 Q (1, L, .int (0) :: st, g) := am_E_iconst (by decide +kernel : am_dc 115 0 = some (.iconst (0))) (by decide) rfl
theorem x_115_1   : am_E d 115 Q (1, L, st, g) ↔ am_K d 115 Q (am_stI 2 L st g 2) := am_E_istore_n (by decide +kernel : am_dc 115 1 = some (.istore_n 2)) rfl rfl
theorem x_115_2   : am_E d 115 Q (2, L, st, g) ↔ am_E d 115 Q (3, L, .int (0) :: st, g) := am_E_iconst (by decide +kernel : am_dc 115 2 = some (.iconst (0))) (by decide) rfl
theorem x_115_3   : am_E d 115 Q (3, L, st, g) ↔ am_K d 115 Q (am_stI 4 L st g 3) := am_E_istore_n (by decide +kernel : am_dc 115 3 = some (.istore_n 3)) rfl rfl
theorem x_115_4   : am_E d 115 Q (4, L, st, g) ↔ am_E d 115 Q (5, L, .int (0) :: st, g) := am_E_iconst (by decide +kernel : am_dc 115 4 = some (.iconst (0))) (by decide) rfl
theorem x_115_5   : am_E d 115 Q (5, L, st, g) ↔ am_K d 115 Q (am_stI 7 L st g 4) := am_E_istore (by decide +kernel : am_dc 115 5 = some (.istore 4)) rfl
theorem x_115_7   : am_E d 115 Q (7, L, st, g) ↔ am_K d 115 Q (am_ldI 9 L st g 4) := am_E_iload (by decide +kernel : am_dc 115 7 = some (.iload 4)) rfl
theorem x_115_9   : am_E d 115 Q (9, L, st, g) ↔ am_E d 115 Q (10, L, .int (3) :: st, g) := am_E_iconst (by decide +kernel : am_dc 115 9 = some (.iconst (3))) (by decide) rfl
theorem x_115_10   : am_E d 115 Q (10, L, .int y :: .int x :: st, g) ↔ am_E d 115 Q (am_cmp .ge x y 53 13, L, st, g) := am_E_ic (by decide +kernel : am_dc 115 10 = some (.if_icmp .ge (43))) rfl rfl
theorem x_115_13   : am_E d 115 Q (13, L, st, g) ↔ am_K d 115 Q (am_ldA 14 L st g 0) := am_E_aload_n (by decide +kernel : am_dc 115 13 = some (.aload_n 0)) rfl rfl
theorem x_115_14   : am_E d 115 Q (14, L, .ref a :: st, g) ↔ am_kv d 115 Q 17 L st g (am_gf g a 6 0) := am_E_getfield (by decide +kernel : am_dc 115 14 = some (.getfield 9)) (by decide +kernel) rfl
theorem x_115_17   : am_E d 115 Q (17, L, st, g) ↔ am_K d 115 Q (am_ldI 19 L st g 4) := am_E_iload (by decide +kernel : am_dc 115 17 = some (.iload 4)) rfl
theorem x_115_19   : am_E d 115 Q (19, L, .int x :: .ref a :: st, g) ↔ am_kv d 115 Q 20 L st g (am_iat .iaload g a x) := am_E_iaload (by decide +kernel : am_dc 115 19 = some (.iaload)) rfl
theorem x_115_20   : am_E d 115 Q (20, L, .int x :: st, g) ↔ am_E d 115 Q (am_cmp .eq x 0 47 23, L, st, g) := am_E_if (by decide +kernel : am_dc 115 20 = some (.ifCond .eq (27))) rfl rfl
theorem x_115_23   (hk : L.getD 2 none = some (.int x)) (hl : 2 < L.length) : am_E d 115 Q (23, L, st, g) ↔ am_E d 115 Q (26, am_s1 L 2 (.int (x + (1))), st, g) := am_E_iinc (by decide +kernel : am_dc 115 23 = some (.iinc 2 (1))) (by decide) rfl hk hl
theorem x_115_26   : am_E d 115 Q (26, L, st, g) ↔ am_K d 115 Q (am_ldI 27 L st g 3) := am_E_iload_n (by decide +kernel : am_dc 115 26 = some (.iload_n 3)) rfl rfl
theorem x_115_27   : am_E d 115 Q (27, L, st, g) ↔ am_K d 115 Q (am_ldA 28 L st g 1) := am_E_aload_n (by decide +kernel : am_dc 115 27 = some (.aload_n 1)) rfl rfl
theorem x_115_28   : am_E d 115 Q (28, L, .ref a :: st, g) ↔ am_kv d 115 Q 31 L st g (am_gf g a 8 0) := am_E_getfield (by decide +kernel : am_dc 115 28 = some (.getfield 49)) (by decide +kernel) rfl
theorem x_115_31   : am_E d 115 Q (31, L, st, g) ↔ am_K d 115 Q (am_ldI 33 L st g 4) := am_E_iload (by decide +kernel : am_dc 115 31 = some (.iload 4)) rfl
theorem x_115_33   : am_E d 115 Q (33, L, .int x :: .ref a :: st, g) ↔ am_kv d 115 Q 34 L st g (am_iat .aaload g a x) := am_E_aaload (by decide +kernel : am_dc 115 33 = some (.aaload)) rfl
theorem x_115_34   : am_E d 115 Q (34, L, .ref a :: st, g) ↔ am_kv d 115 Q 37 L st g (am_gf g a 10 2) := am_E_getfield (by decide +kernel : am_dc 115 34 = some (.getfield 63)) (by decide +kernel) rfl
theorem x_115_37   : am_E d 115 Q (37, L, st, g) ↔ am_K d 115 Q (am_ldA 38 L st g 0) := am_E_aload_n (by decide +kernel : am_dc 115 37 = some (.aload_n 0)) rfl rfl
theorem x_115_38   : am_E d 115 Q (38, L, .ref a :: st, g) ↔ am_kv d 115 Q 41 L st g (am_gf g a 6 1) := am_E_getfield (by decide +kernel : am_dc 115 38 = some (.getfield 15)) (by decide +kernel) rfl
theorem x_115_41   : am_E d 115 Q (41, L, st, g) ↔ am_K d 115 Q (am_ldI 43 L st g 4) := am_E_iload (by decide +kernel : am_dc 115 41 = some (.iload 4)) rfl
theorem x_115_43   : am_E d 115 Q (43, L, .int x :: .ref a :: st, g) ↔ am_kv d 115 Q 44 L st g (am_iat .iaload g a x) := am_E_iaload (by decide +kernel : am_dc 115 43 = some (.iaload)) rfl
theorem x_115_44   : am_E d 115 Q (44, L, .int x :: .ref a :: st, g) ↔ am_kv d 115 Q 45 L st g (am_iat .iaload g a x) := am_E_iaload (by decide +kernel : am_dc 115 44 = some (.iaload)) rfl
theorem x_115_45   : am_E d 115 Q (45, L, .int y :: .int x :: st, g) ↔ am_E d 115 Q (46, L, .int (x + y) :: st, g) := am_E_iadd (by decide +kernel : am_dc 115 45 = some (.iadd)) rfl
theorem x_115_46   : am_E d 115 Q (46, L, st, g) ↔ am_K d 115 Q (am_stI 47 L st g 3) := am_E_istore_n (by decide +kernel : am_dc 115 46 = some (.istore_n 3)) rfl rfl
theorem x_115_47   (hk : L.getD 4 none = some (.int x)) (hl : 4 < L.length) : am_E d 115 Q (47, L, st, g) ↔ am_E d 115 Q (50, am_s1 L 4 (.int (x + (1))), st, g) := am_E_iinc (by decide +kernel : am_dc 115 47 = some (.iinc 4 (1))) (by decide) rfl hk hl
theorem x_115_50   : am_E d 115 Q (50, L, st, g) ↔ am_E d 115 Q (7, L, st, g) := am_E_gt (by decide +kernel : am_dc 115 50 = some (.goto (-43))) rfl rfl
theorem x_115_53   : am_E d 115 Q (53, L, st, g) ↔ am_K d 115 Q (am_ldI 54 L st g 2) := am_E_iload_n (by decide +kernel : am_dc 115 53 = some (.iload_n 2)) rfl rfl
theorem x_115_54   : am_E d 115 Q (54, L, st, g) ↔ am_E d 115 Q (57, L, .int (216) :: st, g) := am_E_sipush (by decide +kernel : am_dc 115 54 = some (.sipush (216))) (by decide) rfl
theorem x_115_57   : am_E d 115 Q (57, L, .int y :: .int x :: st, g) ↔ am_E d 115 Q (58, L, .int (x * y) :: st, g) := am_E_imul (by decide +kernel : am_dc 115 57 = some (.imul)) rfl
theorem x_115_58   : am_E d 115 Q (58, L, st, g) ↔ am_K d 115 Q (am_ldI 59 L st g 3) := am_E_iload_n (by decide +kernel : am_dc 115 58 = some (.iload_n 3)) rfl rfl
theorem x_115_59   : am_E d 115 Q (59, L, .int y :: .int x :: st, g) ↔ am_E d 115 Q (60, L, .int (x + y) :: st, g) := am_E_iadd (by decide +kernel : am_dc 115 59 = some (.iadd)) rfl
theorem x_115_60  : am_E d 115 Q (60, L, [.int x], g) ↔ if am_ok (FieldType.int) (.int x) = true then Q (.inl (some (.int x))) g else False := am_E_ireturn (by decide +kernel : am_dc 115 60 = some (.ireturn)) (by decide +kernel)
theorem f_115_9 : am_fl 115 9 = some (6, 0) := by decide +kernel
theorem f_115_49 : am_fl 115 49 = some (8, 0) := by decide +kernel
theorem f_115_63 : am_fl 115 63 = some (10, 2) := by decide +kernel
theorem f_115_15 : am_fl 115 15 = some (6, 1) := by decide +kernel
theorem t_115 : am_t 115 = some (FieldType.int) := by decide +kernel
theorem h_115 : am_h 115 = [] := by decide +kernel
theorem m_115 : am_m 115 = 5 := by decide +kernel
theorem x_116_0   : am_E d 116 Q (0, L, st, g) ↔ am_K d 116 Q (am_ldI 1 L st g 0) := am_E_iload_n (by decide +kernel : am_dc 116 0 = some (.iload_n 0)) rfl rfl
theorem x_116_1   : am_E d 116 Q (1, L, st, g) ↔ am_E d 116 Q (3, L, .int (10) :: st, g) := am_E_bipush (by decide +kernel : am_dc 116 1 = some (.bipush (10))) (by decide) rfl
theorem x_116_3   : am_E d 116 Q (3, L, .int y :: .int x :: st, g) ↔ am_E d 116 Q (4, L, .int (x * y) :: st, g) := am_E_imul (by decide +kernel : am_dc 116 3 = some (.imul)) rfl
theorem x_116_4   : am_E d 116 Q (4, L, st, g) ↔ am_K d 116 Q (am_ldI 5 L st g 1) := am_E_iload_n (by decide +kernel : am_dc 116 4 = some (.iload_n 1)) rfl rfl
theorem x_116_5   : am_E d 116 Q (5, L, .int y :: .int x :: st, g) ↔ am_E d 116 Q (6, L, .int (x + y) :: st, g) := am_E_iadd (by decide +kernel : am_dc 116 5 = some (.iadd)) rfl
theorem x_116_6  : am_E d 116 Q (6, L, [.int x], g) ↔ if am_ok (FieldType.int) (.int x) = true then Q (.inl (some (.int x))) g else False := am_E_ireturn (by decide +kernel : am_dc 116 6 = some (.ireturn)) (by decide +kernel)
theorem t_116 : am_t 116 = some (FieldType.int) := by decide +kernel
theorem h_116 : am_h 116 = [] := by decide +kernel
theorem m_116 : am_m 116 = 2 := by decide +kernel
theorem x_117_0   : am_E d 117 Q (0, L, st, g) ↔ am_K d 117 Q (am_ldI 1 L st g 0) := am_E_iload_n (by decide +kernel : am_dc 117 0 = some (.iload_n 0)) rfl rfl
theorem x_117_1   : am_E d 117 Q (1, L, st, g) ↔ am_E d 117 Q (3, L, .int (10) :: st, g) := am_E_bipush (by decide +kernel : am_dc 117 1 = some (.bipush (10))) (by decide) rfl
theorem x_117_3   : am_E d 117 Q (3, L, .int y :: .int x :: st, g) ↔ if y = 0 then False else am_E d 117 Q (4, L, .int (x - x / y * y) :: st, g) := am_E_irem (by decide +kernel : am_dc 117 3 = some (.irem)) rfl
theorem x_117_4  : am_E d 117 Q (4, L, [.int x], g) ↔ if am_ok (FieldType.int) (.int x) = true then Q (.inl (some (.int x))) g else False := am_E_ireturn (by decide +kernel : am_dc 117 4 = some (.ireturn)) (by decide +kernel)
theorem t_117 : am_t 117 = some (FieldType.int) := by decide +kernel
theorem h_117 : am_h 117 = [] := by decide +kernel
theorem m_117 : am_m 117 = 1 := by decide +kernel
theorem x_118_0   : am_E d 118 Q (0, L, st, g) ↔ am_K d 118 Q (am_ldA 1 L st g 0) := am_E_aload_n (by decide +kernel : am_dc 118 0 = some (.aload_n 0)) rfl rfl
theorem x_118_1  : am_E d 118 Q (1, L, st, g) ↔ am_K d 118 Q (am_S 118 (.invokespecial 3) 1 L st g) := am_E_x (by decide +kernel : am_dc 118 1 = some (.invokespecial 3))
theorem x_118_4   : am_E d 118 Q (4, L, st, g) ↔ am_K d 118 Q (am_ldA 5 L st g 0) := am_E_aload_n (by decide +kernel : am_dc 118 4 = some (.aload_n 0)) rfl rfl
theorem x_118_5   : am_E d 118 Q (5, L, st, g) ↔ am_E d 118 Q (7, L, .int (8) :: st, g) := am_E_bipush (by decide +kernel : am_dc 118 5 = some (.bipush (8))) (by decide) rfl
theorem x_118_7  : am_E d 118 Q (7, L, st, g) ↔ am_K d 118 Q (am_S 118 (.anewarray 9) 7 L st g) := am_E_x (by decide +kernel : am_dc 118 7 = some (.anewarray 9))
theorem x_118_10   (hok : (am_ok (am_ft 7 0).1 v && (!(am_ft 7 0).2 || (am_ini 118 && am_co 7 == am_o 118)) && decide (7 < 13)) = true) : am_E d 118 Q (10, L, v :: .ref a :: st, g) ↔ am_kg d 118 Q 13 L st (am_pf g a 7 0 v) := am_E_putfield (by decide +kernel : am_dc 118 10 = some (.putfield 11)) (by decide +kernel) rfl hok
theorem x_118_13   : am_E d 118 Q (13, L, st, g) ↔ am_E d 118 Q (14, L, .int (0) :: st, g) := am_E_iconst (by decide +kernel : am_dc 118 13 = some (.iconst (0))) (by decide) rfl
theorem x_118_14   : am_E d 118 Q (14, L, st, g) ↔ am_K d 118 Q (am_stI 15 L st g 1) := am_E_istore_n (by decide +kernel : am_dc 118 14 = some (.istore_n 1)) rfl rfl
theorem x_118_15   : am_E d 118 Q (15, L, st, g) ↔ am_K d 118 Q (am_ldI 16 L st g 1) := am_E_iload_n (by decide +kernel : am_dc 118 15 = some (.iload_n 1)) rfl rfl
theorem x_118_16   : am_E d 118 Q (16, L, st, g) ↔ am_E d 118 Q (18, L, .int (8) :: st, g) := am_E_bipush (by decide +kernel : am_dc 118 16 = some (.bipush (8))) (by decide) rfl
theorem x_118_18   : am_E d 118 Q (18, L, .int y :: .int x :: st, g) ↔ am_E d 118 Q (am_cmp .ge x y 40 21, L, st, g) := am_E_ic (by decide +kernel : am_dc 118 18 = some (.if_icmp .ge (22))) rfl rfl
theorem x_118_21   : am_E d 118 Q (21, L, st, g) ↔ am_K d 118 Q (am_ldA 22 L st g 0) := am_E_aload_n (by decide +kernel : am_dc 118 21 = some (.aload_n 0)) rfl rfl
theorem x_118_22   : am_E d 118 Q (22, L, .ref a :: st, g) ↔ am_kv d 118 Q 25 L st g (am_gf g a 7 0) := am_E_getfield (by decide +kernel : am_dc 118 22 = some (.getfield 11)) (by decide +kernel) rfl
theorem x_118_25   : am_E d 118 Q (25, L, st, g) ↔ am_K d 118 Q (am_ldI 26 L st g 1) := am_E_iload_n (by decide +kernel : am_dc 118 25 = some (.iload_n 1)) rfl rfl
theorem x_118_26  : am_E d 118 Q (26, L, st, g) ↔ am_K d 118 Q (am_S 118 (.new 9) 26 L st g) := am_E_x (by decide +kernel : am_dc 118 26 = some (.new 9))
theorem x_118_29   : am_E d 118 Q (29, L, v :: st, g) ↔ if v.category = 1 then am_E d 118 Q (30, L, v :: v :: st, g) else False := am_E_dup (by decide +kernel : am_dc 118 29 = some (.dup)) rfl
theorem x_118_30  : am_E d 118 Q (30, L, st, g) ↔ am_K d 118 Q (am_S 118 (.invokespecial 17) 30 L st g) := am_E_x (by decide +kernel : am_dc 118 30 = some (.invokespecial 17))
theorem x_118_33   : am_E d 118 Q (33, L, v :: .int x :: .ref a :: st, g) ↔ am_kg d 118 Q 34 L st (am_sat .aastore g a x v) := am_E_aastore (by decide +kernel : am_dc 118 33 = some (.aastore)) rfl
theorem x_118_34   (hk : L.getD 1 none = some (.int x)) (hl : 1 < L.length) : am_E d 118 Q (34, L, st, g) ↔ am_E d 118 Q (37, am_s1 L 1 (.int (x + (1))), st, g) := am_E_iinc (by decide +kernel : am_dc 118 34 = some (.iinc 1 (1))) (by decide) rfl hk hl
theorem x_118_37   : am_E d 118 Q (37, L, st, g) ↔ am_E d 118 Q (15, L, st, g) := am_E_gt (by decide +kernel : am_dc 118 37 = some (.goto (-22))) rfl rfl
theorem x_118_40  : am_E d 118 Q (40, L, [], g) ↔ Q (.inl none) g := am_E_return (by decide +kernel : am_dc 118 40 = some (.return_)) (by decide +kernel)
theorem v_118_3 : am_iv 118 3 = some (3, 0, 1) := by decide +kernel
theorem f_118_11 : am_fl 118 11 = some (7, 0) := by decide +kernel
theorem w_118_9 : am_nw 118 9 = some 6 := by decide +kernel
theorem v_118_17 : am_iv 118 17 = some (5, 107, 1) := by decide +kernel
theorem t_118 : am_t 118 = none := by decide +kernel
theorem h_118 : am_h 118 = [] := by decide +kernel
theorem m_118 : am_m 118 = 2 := by decide +kernel
theorem x_119_0   : am_E d 119 Q (0, L, st, g) ↔ am_K d 119 Q (am_ldA 1 L st g 0) := am_E_aload_n (by decide +kernel : am_dc 119 0 = some (.aload_n 0)) rfl rfl
theorem x_119_1   : am_E d 119 Q (1, L, .ref a :: st, g) ↔ am_kv d 119 Q 4 L st g (am_gf g a 7 1) := am_E_getfield (by decide +kernel : am_dc 119 1 = some (.getfield 18)) (by decide +kernel) rfl
theorem x_119_4   : am_E d 119 Q (4, L, st, g) ↔ am_E d 119 Q (6, L, .int (8) :: st, g) := am_E_bipush (by decide +kernel : am_dc 119 4 = some (.bipush (8))) (by decide) rfl
theorem x_119_6   : am_E d 119 Q (6, L, .int y :: .int x :: st, g) ↔ am_E d 119 Q (am_cmp .ge x y 32 9, L, st, g) := am_E_ic (by decide +kernel : am_dc 119 6 = some (.if_icmp .ge (26))) rfl rfl
theorem x_119_9   : am_E d 119 Q (9, L, st, g) ↔ am_K d 119 Q (am_ldA 10 L st g 0) := am_E_aload_n (by decide +kernel : am_dc 119 9 = some (.aload_n 0)) rfl rfl
theorem x_119_10   : am_E d 119 Q (10, L, .ref a :: st, g) ↔ am_kv d 119 Q 13 L st g (am_gf g a 7 0) := am_E_getfield (by decide +kernel : am_dc 119 10 = some (.getfield 11)) (by decide +kernel) rfl
theorem x_119_13   : am_E d 119 Q (13, L, st, g) ↔ am_K d 119 Q (am_ldA 14 L st g 0) := am_E_aload_n (by decide +kernel : am_dc 119 13 = some (.aload_n 0)) rfl rfl
theorem x_119_14   : am_E d 119 Q (14, L, .ref a :: st, g) ↔ am_kv d 119 Q 17 L st g (am_gf g a 7 1) := am_E_getfield (by decide +kernel : am_dc 119 14 = some (.getfield 18)) (by decide +kernel) rfl
theorem x_119_17   : am_E d 119 Q (17, L, .int x :: .ref a :: st, g) ↔ am_kv d 119 Q 18 L st g (am_iat .aaload g a x) := am_E_aaload (by decide +kernel : am_dc 119 17 = some (.aaload)) rfl
theorem x_119_18   : am_E d 119 Q (18, L, st, g) ↔ am_K d 119 Q (am_ldA 19 L st g 1) := am_E_aload_n (by decide +kernel : am_dc 119 18 = some (.aload_n 1)) rfl rfl
theorem x_119_19  : am_E d 119 Q (19, L, st, g) ↔ am_K d 119 Q (am_S 119 (.invokevirtual 22) 19 L st g) := am_E_x (by decide +kernel : am_dc 119 19 = some (.invokevirtual 22))
theorem x_119_22   : am_E d 119 Q (22, L, st, g) ↔ am_K d 119 Q (am_ldA 23 L st g 0) := am_E_aload_n (by decide +kernel : am_dc 119 22 = some (.aload_n 0)) rfl rfl
theorem x_119_23   : am_E d 119 Q (23, L, v :: st, g) ↔ if v.category = 1 then am_E d 119 Q (24, L, v :: v :: st, g) else False := am_E_dup (by decide +kernel : am_dc 119 23 = some (.dup)) rfl
theorem x_119_24   : am_E d 119 Q (24, L, .ref a :: st, g) ↔ am_kv d 119 Q 27 L st g (am_gf g a 7 1) := am_E_getfield (by decide +kernel : am_dc 119 24 = some (.getfield 18)) (by decide +kernel) rfl
theorem x_119_27   : am_E d 119 Q (27, L, st, g) ↔ am_E d 119 Q (28, L, .int (1) :: st, g) := am_E_iconst (by decide +kernel : am_dc 119 27 = some (.iconst (1))) (by decide) rfl
theorem x_119_28   : am_E d 119 Q (28, L, .int y :: .int x :: st, g) ↔ am_E d 119 Q (29, L, .int (x + y) :: st, g) := am_E_iadd (by decide +kernel : am_dc 119 28 = some (.iadd)) rfl
theorem x_119_29   (hok : (am_ok (am_ft 7 1).1 v && (!(am_ft 7 1).2 || (am_ini 119 && am_co 7 == am_o 119)) && decide (7 < 13)) = true) : am_E d 119 Q (29, L, v :: .ref a :: st, g) ↔ am_kg d 119 Q 32 L st (am_pf g a 7 1 v) := am_E_putfield (by decide +kernel : am_dc 119 29 = some (.putfield 18)) (by decide +kernel) rfl hok
theorem x_119_32  : am_E d 119 Q (32, L, [], g) ↔ Q (.inl none) g := am_E_return (by decide +kernel : am_dc 119 32 = some (.return_)) (by decide +kernel)
theorem f_119_18 : am_fl 119 18 = some (7, 1) := by decide +kernel
theorem f_119_11 : am_fl 119 11 = some (7, 0) := by decide +kernel
theorem v_119_22 : am_iv 119 22 = some (1, 110, 2) := by decide +kernel
theorem t_119 : am_t 119 = none := by decide +kernel
theorem h_119 : am_h 119 = [] := by decide +kernel
theorem m_119 : am_m 119 = 2 := by decide +kernel
theorem x_120_0   : am_E d 120 Q (0, L, st, g) ↔ am_E d 120 Q (1, L, .int (-1) :: st, g) := am_E_iconst (by decide +kernel : am_dc 120 0 = some (.iconst (-1))) (by decide) rfl
theorem x_120_1   : am_E d 120 Q (1, L, st, g) ↔ am_K d 120 Q (am_stI 2 L st g 3) := am_E_istore_n (by decide +kernel : am_dc 120 1 = some (.istore_n 3)) rfl rfl
theorem x_120_2   : am_E d 120 Q (2, L, st, g) ↔ am_E d 120 Q (3, L, .int (0) :: st, g) := am_E_iconst (by decide +kernel : am_dc 120 2 = some (.iconst (0))) (by decide) rfl
theorem x_120_3   : am_E d 120 Q (3, L, st, g) ↔ am_K d 120 Q (am_stI 5 L st g 4) := am_E_istore (by decide +kernel : am_dc 120 3 = some (.istore 4)) rfl
theorem x_120_5   : am_E d 120 Q (5, L, st, g) ↔ am_E d 120 Q (6, L, .int (0) :: st, g) := am_E_iconst (by decide +kernel : am_dc 120 5 = some (.iconst (0))) (by decide) rfl
theorem x_120_6   : am_E d 120 Q (6, L, st, g) ↔ am_K d 120 Q (am_stI 8 L st g 5) := am_E_istore (by decide +kernel : am_dc 120 6 = some (.istore 5)) rfl
theorem x_120_8   : am_E d 120 Q (8, L, st, g) ↔ am_K d 120 Q (am_ldI 10 L st g 5) := am_E_iload (by decide +kernel : am_dc 120 8 = some (.iload 5)) rfl
theorem x_120_10   : am_E d 120 Q (10, L, st, g) ↔ am_K d 120 Q (am_ldA 11 L st g 0) := am_E_aload_n (by decide +kernel : am_dc 120 10 = some (.aload_n 0)) rfl rfl
theorem x_120_11   : am_E d 120 Q (11, L, .ref a :: st, g) ↔ am_kv d 120 Q 14 L st g (am_gf g a 7 1) := am_E_getfield (by decide +kernel : am_dc 120 11 = some (.getfield 18)) (by decide +kernel) rfl
theorem x_120_14   : am_E d 120 Q (14, L, .int y :: .int x :: st, g) ↔ am_E d 120 Q (am_cmp .ge x y 65 17, L, st, g) := am_E_ic (by decide +kernel : am_dc 120 14 = some (.if_icmp .ge (51))) rfl rfl
theorem x_120_17   : am_E d 120 Q (17, L, st, g) ↔ am_K d 120 Q (am_ldA 18 L st g 0) := am_E_aload_n (by decide +kernel : am_dc 120 17 = some (.aload_n 0)) rfl rfl
theorem x_120_18   : am_E d 120 Q (18, L, .ref a :: st, g) ↔ am_kv d 120 Q 21 L st g (am_gf g a 7 0) := am_E_getfield (by decide +kernel : am_dc 120 18 = some (.getfield 11)) (by decide +kernel) rfl
theorem x_120_21   : am_E d 120 Q (21, L, st, g) ↔ am_K d 120 Q (am_ldI 23 L st g 5) := am_E_iload (by decide +kernel : am_dc 120 21 = some (.iload 5)) rfl
theorem x_120_23   : am_E d 120 Q (23, L, .int x :: .ref a :: st, g) ↔ am_kv d 120 Q 24 L st g (am_iat .aaload g a x) := am_E_aaload (by decide +kernel : am_dc 120 23 = some (.aaload)) rfl
theorem x_120_24   : am_E d 120 Q (24, L, st, g) ↔ am_K d 120 Q (am_ldA 25 L st g 1) := am_E_aload_n (by decide +kernel : am_dc 120 24 = some (.aload_n 1)) rfl rfl
theorem x_120_25   : am_E d 120 Q (25, L, st, g) ↔ am_K d 120 Q (am_ldI 26 L st g 2) := am_E_iload_n (by decide +kernel : am_dc 120 25 = some (.iload_n 2)) rfl rfl
theorem x_120_26  : am_E d 120 Q (26, L, st, g) ↔ am_K d 120 Q (am_S 120 (.invokevirtual 30) 26 L st g) := am_E_x (by decide +kernel : am_dc 120 26 = some (.invokevirtual 30))
theorem x_120_29   : am_E d 120 Q (29, L, .int x :: st, g) ↔ am_E d 120 Q (am_cmp .eq x 0 59 32, L, st, g) := am_E_if (by decide +kernel : am_dc 120 29 = some (.ifCond .eq (30))) rfl rfl
theorem x_120_32   : am_E d 120 Q (32, L, st, g) ↔ am_K d 120 Q (am_ldA 33 L st g 0) := am_E_aload_n (by decide +kernel : am_dc 120 32 = some (.aload_n 0)) rfl rfl
theorem x_120_33   : am_E d 120 Q (33, L, .ref a :: st, g) ↔ am_kv d 120 Q 36 L st g (am_gf g a 7 0) := am_E_getfield (by decide +kernel : am_dc 120 33 = some (.getfield 11)) (by decide +kernel) rfl
theorem x_120_36   : am_E d 120 Q (36, L, st, g) ↔ am_K d 120 Q (am_ldI 38 L st g 5) := am_E_iload (by decide +kernel : am_dc 120 36 = some (.iload 5)) rfl
theorem x_120_38   : am_E d 120 Q (38, L, .int x :: .ref a :: st, g) ↔ am_kv d 120 Q 39 L st g (am_iat .aaload g a x) := am_E_aaload (by decide +kernel : am_dc 120 38 = some (.aaload)) rfl
theorem x_120_39   : am_E d 120 Q (39, L, st, g) ↔ am_K d 120 Q (am_ldA 40 L st g 1) := am_E_aload_n (by decide +kernel : am_dc 120 39 = some (.aload_n 1)) rfl rfl
theorem x_120_40  : am_E d 120 Q (40, L, st, g) ↔ am_K d 120 Q (am_S 120 (.invokevirtual 34) 40 L st g) := am_E_x (by decide +kernel : am_dc 120 40 = some (.invokevirtual 34))
theorem x_120_43   : am_E d 120 Q (43, L, st, g) ↔ am_K d 120 Q (am_stI 45 L st g 6) := am_E_istore (by decide +kernel : am_dc 120 43 = some (.istore 6)) rfl
theorem x_120_45   : am_E d 120 Q (45, L, st, g) ↔ am_K d 120 Q (am_ldI 47 L st g 6) := am_E_iload (by decide +kernel : am_dc 120 45 = some (.iload 6)) rfl
theorem x_120_47   : am_E d 120 Q (47, L, st, g) ↔ am_K d 120 Q (am_ldI 49 L st g 4) := am_E_iload (by decide +kernel : am_dc 120 47 = some (.iload 4)) rfl
theorem x_120_49   : am_E d 120 Q (49, L, .int y :: .int x :: st, g) ↔ am_E d 120 Q (am_cmp .lt x y 59 52, L, st, g) := am_E_ic (by decide +kernel : am_dc 120 49 = some (.if_icmp .lt (10))) rfl rfl
theorem x_120_52   : am_E d 120 Q (52, L, st, g) ↔ am_K d 120 Q (am_ldI 54 L st g 5) := am_E_iload (by decide +kernel : am_dc 120 52 = some (.iload 5)) rfl
theorem x_120_54   : am_E d 120 Q (54, L, st, g) ↔ am_K d 120 Q (am_stI 55 L st g 3) := am_E_istore_n (by decide +kernel : am_dc 120 54 = some (.istore_n 3)) rfl rfl
theorem x_120_55   : am_E d 120 Q (55, L, st, g) ↔ am_K d 120 Q (am_ldI 57 L st g 6) := am_E_iload (by decide +kernel : am_dc 120 55 = some (.iload 6)) rfl
theorem x_120_57   : am_E d 120 Q (57, L, st, g) ↔ am_K d 120 Q (am_stI 59 L st g 4) := am_E_istore (by decide +kernel : am_dc 120 57 = some (.istore 4)) rfl
theorem x_120_59   (hk : L.getD 5 none = some (.int x)) (hl : 5 < L.length) : am_E d 120 Q (59, L, st, g) ↔ am_E d 120 Q (62, am_s1 L 5 (.int (x + (1))), st, g) := am_E_iinc (by decide +kernel : am_dc 120 59 = some (.iinc 5 (1))) (by decide) rfl hk hl
theorem x_120_62   : am_E d 120 Q (62, L, st, g) ↔ am_E d 120 Q (8, L, st, g) := am_E_gt (by decide +kernel : am_dc 120 62 = some (.goto (-54))) rfl rfl
theorem x_120_65   : am_E d 120 Q (65, L, st, g) ↔ am_K d 120 Q (am_ldI 66 L st g 3) := am_E_iload_n (by decide +kernel : am_dc 120 65 = some (.iload_n 3)) rfl rfl
theorem x_120_66  : am_E d 120 Q (66, L, [.int x], g) ↔ if am_ok (FieldType.int) (.int x) = true then Q (.inl (some (.int x))) g else False := am_E_ireturn (by decide +kernel : am_dc 120 66 = some (.ireturn)) (by decide +kernel)
theorem f_120_18 : am_fl 120 18 = some (7, 1) := by decide +kernel
theorem f_120_11 : am_fl 120 11 = some (7, 0) := by decide +kernel
theorem v_120_30 : am_iv 120 30 = some (1, 112, 3) := by decide +kernel
theorem v_120_34 : am_iv 120 34 = some (1, 115, 2) := by decide +kernel
theorem t_120 : am_t 120 = some (FieldType.int) := by decide +kernel
theorem h_120 : am_h 120 = [] := by decide +kernel
theorem m_120 : am_m 120 = 7 := by decide +kernel
theorem x_121_0   : am_E d 121 Q (0, L, st, g) ↔ am_K d 121 Q (am_ldA 1 L st g 0) := am_E_aload_n (by decide +kernel : am_dc 121 0 = some (.aload_n 0)) rfl rfl
theorem x_121_1   : am_E d 121 Q (1, L, .ref a :: st, g) ↔ am_kv d 121 Q 4 L st g (am_gf g a 7 0) := am_E_getfield (by decide +kernel : am_dc 121 1 = some (.getfield 11)) (by decide +kernel) rfl
theorem x_121_4   : am_E d 121 Q (4, L, st, g) ↔ am_K d 121 Q (am_ldI 5 L st g 1) := am_E_iload_n (by decide +kernel : am_dc 121 4 = some (.iload_n 1)) rfl rfl
theorem x_121_5   : am_E d 121 Q (5, L, .int x :: .ref a :: st, g) ↔ am_kv d 121 Q 6 L st g (am_iat .aaload g a x) := am_E_aaload (by decide +kernel : am_dc 121 5 = some (.aaload)) rfl
theorem x_121_6  : am_E d 121 Q (6, L, [.ref a], g) ↔ if am_ok ((FieldType.object "ModelSheet$Rule")) (.ref a) = true then Q (.inl (some (.ref a))) g else False := am_E_areturn (by decide +kernel : am_dc 121 6 = some (.areturn)) (by decide +kernel)
theorem f_121_11 : am_fl 121 11 = some (7, 0) := by decide +kernel
theorem t_121 : am_t 121 = some ((FieldType.object "ModelSheet$Rule")) := by decide +kernel
theorem h_121 : am_h 121 = [] := by decide +kernel
theorem m_121 : am_m 121 = 2 := by decide +kernel
theorem x_122_0   : am_E d 122 Q (0, L, st, g) ↔ am_E d 122 Q (1, L, .int (0) :: st, g) := am_E_iconst (by decide +kernel : am_dc 122 0 = some (.iconst (0))) (by decide) rfl
theorem x_122_1   : am_E d 122 Q (1, L, st, g) ↔ am_K d 122 Q (am_stI 2 L st g 3) := am_E_istore_n (by decide +kernel : am_dc 122 1 = some (.istore_n 3)) rfl rfl
theorem x_122_2   : am_E d 122 Q (2, L, st, g) ↔ am_K d 122 Q (am_ldI 3 L st g 3) := am_E_iload_n (by decide +kernel : am_dc 122 2 = some (.iload_n 3)) rfl rfl
theorem x_122_3   : am_E d 122 Q (3, L, st, g) ↔ am_K d 122 Q (am_ldA 4 L st g 0) := am_E_aload_n (by decide +kernel : am_dc 122 3 = some (.aload_n 0)) rfl rfl
theorem x_122_4   : am_E d 122 Q (4, L, .ref a :: st, g) ↔ am_kv d 122 Q 7 L st g (am_gf g a 7 1) := am_E_getfield (by decide +kernel : am_dc 122 4 = some (.getfield 18)) (by decide +kernel) rfl
theorem x_122_7   : am_E d 122 Q (7, L, .int y :: .int x :: st, g) ↔ am_E d 122 Q (am_cmp .ge x y 32 10, L, st, g) := am_E_ic (by decide +kernel : am_dc 122 7 = some (.if_icmp .ge (25))) rfl rfl
theorem x_122_10   : am_E d 122 Q (10, L, st, g) ↔ am_K d 122 Q (am_ldA 11 L st g 0) := am_E_aload_n (by decide +kernel : am_dc 122 10 = some (.aload_n 0)) rfl rfl
theorem x_122_11   : am_E d 122 Q (11, L, .ref a :: st, g) ↔ am_kv d 122 Q 14 L st g (am_gf g a 7 0) := am_E_getfield (by decide +kernel : am_dc 122 11 = some (.getfield 11)) (by decide +kernel) rfl
theorem x_122_14   : am_E d 122 Q (14, L, st, g) ↔ am_K d 122 Q (am_ldI 15 L st g 3) := am_E_iload_n (by decide +kernel : am_dc 122 14 = some (.iload_n 3)) rfl rfl
theorem x_122_15   : am_E d 122 Q (15, L, .int x :: .ref a :: st, g) ↔ am_kv d 122 Q 16 L st g (am_iat .aaload g a x) := am_E_aaload (by decide +kernel : am_dc 122 15 = some (.aaload)) rfl
theorem x_122_16   : am_E d 122 Q (16, L, st, g) ↔ am_K d 122 Q (am_ldI 17 L st g 1) := am_E_iload_n (by decide +kernel : am_dc 122 16 = some (.iload_n 1)) rfl rfl
theorem x_122_17   : am_E d 122 Q (17, L, st, g) ↔ am_K d 122 Q (am_ldI 18 L st g 2) := am_E_iload_n (by decide +kernel : am_dc 122 17 = some (.iload_n 2)) rfl rfl
theorem x_122_18  : am_E d 122 Q (18, L, st, g) ↔ am_K d 122 Q (am_S 122 (.invokevirtual 26) 18 L st g) := am_E_x (by decide +kernel : am_dc 122 18 = some (.invokevirtual 26))
theorem x_122_21   : am_E d 122 Q (21, L, .int x :: st, g) ↔ am_E d 122 Q (am_cmp .eq x 0 26 24, L, st, g) := am_E_if (by decide +kernel : am_dc 122 21 = some (.ifCond .eq (5))) rfl rfl
theorem x_122_24   : am_E d 122 Q (24, L, st, g) ↔ am_E d 122 Q (25, L, .int (1) :: st, g) := am_E_iconst (by decide +kernel : am_dc 122 24 = some (.iconst (1))) (by decide) rfl
theorem x_122_25  : am_E d 122 Q (25, L, [.int x], g) ↔ if am_ok (FieldType.boolean) (.int x) = true then Q (.inl (some (.int x))) g else False := am_E_ireturn (by decide +kernel : am_dc 122 25 = some (.ireturn)) (by decide +kernel)
theorem x_122_26   (hk : L.getD 3 none = some (.int x)) (hl : 3 < L.length) : am_E d 122 Q (26, L, st, g) ↔ am_E d 122 Q (29, am_s1 L 3 (.int (x + (1))), st, g) := am_E_iinc (by decide +kernel : am_dc 122 26 = some (.iinc 3 (1))) (by decide) rfl hk hl
theorem x_122_29   : am_E d 122 Q (29, L, st, g) ↔ am_E d 122 Q (2, L, st, g) := am_E_gt (by decide +kernel : am_dc 122 29 = some (.goto (-27))) rfl rfl
theorem x_122_32   : am_E d 122 Q (32, L, st, g) ↔ am_E d 122 Q (33, L, .int (0) :: st, g) := am_E_iconst (by decide +kernel : am_dc 122 32 = some (.iconst (0))) (by decide) rfl
theorem x_122_33  : am_E d 122 Q (33, L, [.int x], g) ↔ if am_ok (FieldType.boolean) (.int x) = true then Q (.inl (some (.int x))) g else False := am_E_ireturn (by decide +kernel : am_dc 122 33 = some (.ireturn)) (by decide +kernel)
theorem f_122_18 : am_fl 122 18 = some (7, 1) := by decide +kernel
theorem f_122_11 : am_fl 122 11 = some (7, 0) := by decide +kernel
theorem v_122_26 : am_iv 122 26 = some (1, 114, 3) := by decide +kernel
theorem t_122 : am_t 122 = some (FieldType.boolean) := by decide +kernel
theorem h_122 : am_h 122 = [] := by decide +kernel
theorem m_122 : am_m 122 = 4 := by decide +kernel
theorem x_123_0   : am_E d 123 Q (0, L, st, g) ↔ am_K d 123 Q (am_ldA 1 L st g 0) := am_E_aload_n (by decide +kernel : am_dc 123 0 = some (.aload_n 0)) rfl rfl
theorem x_123_1   : am_E d 123 Q (1, L, .ref a :: st, g) ↔ am_kv d 123 Q 4 L st g (am_gf g a 7 0) := am_E_getfield (by decide +kernel : am_dc 123 1 = some (.getfield 11)) (by decide +kernel) rfl
theorem x_123_4   : am_E d 123 Q (4, L, st, g) ↔ am_K d 123 Q (am_ldI 5 L st g 1) := am_E_iload_n (by decide +kernel : am_dc 123 4 = some (.iload_n 1)) rfl rfl
theorem x_123_5   : am_E d 123 Q (5, L, .int x :: .ref a :: st, g) ↔ am_kv d 123 Q 6 L st g (am_iat .aaload g a x) := am_E_aaload (by decide +kernel : am_dc 123 5 = some (.aaload)) rfl
theorem x_123_6   : am_E d 123 Q (6, L, st, g) ↔ am_K d 123 Q (am_stA 7 L st g 2) := am_E_astore_n (by decide +kernel : am_dc 123 6 = some (.astore_n 2)) rfl rfl
theorem x_123_7   : am_E d 123 Q (7, L, st, g) ↔ am_K d 123 Q (am_ldI 8 L st g 1) := am_E_iload_n (by decide +kernel : am_dc 123 7 = some (.iload_n 1)) rfl rfl
theorem x_123_8   : am_E d 123 Q (8, L, st, g) ↔ am_K d 123 Q (am_stI 9 L st g 3) := am_E_istore_n (by decide +kernel : am_dc 123 8 = some (.istore_n 3)) rfl rfl
theorem x_123_9   : am_E d 123 Q (9, L, st, g) ↔ am_K d 123 Q (am_ldI 10 L st g 3) := am_E_iload_n (by decide +kernel : am_dc 123 9 = some (.iload_n 3)) rfl rfl
theorem x_123_10   : am_E d 123 Q (10, L, st, g) ↔ am_E d 123 Q (12, L, .int (7) :: st, g) := am_E_bipush (by decide +kernel : am_dc 123 10 = some (.bipush (7))) (by decide) rfl
theorem x_123_12   : am_E d 123 Q (12, L, .int y :: .int x :: st, g) ↔ am_E d 123 Q (am_cmp .ge x y 35 15, L, st, g) := am_E_ic (by decide +kernel : am_dc 123 12 = some (.if_icmp .ge (23))) rfl rfl
theorem x_123_15   : am_E d 123 Q (15, L, st, g) ↔ am_K d 123 Q (am_ldA 16 L st g 0) := am_E_aload_n (by decide +kernel : am_dc 123 15 = some (.aload_n 0)) rfl rfl
theorem x_123_16   : am_E d 123 Q (16, L, .ref a :: st, g) ↔ am_kv d 123 Q 19 L st g (am_gf g a 7 0) := am_E_getfield (by decide +kernel : am_dc 123 16 = some (.getfield 11)) (by decide +kernel) rfl
theorem x_123_19   : am_E d 123 Q (19, L, st, g) ↔ am_K d 123 Q (am_ldI 20 L st g 3) := am_E_iload_n (by decide +kernel : am_dc 123 19 = some (.iload_n 3)) rfl rfl
theorem x_123_20   : am_E d 123 Q (20, L, st, g) ↔ am_K d 123 Q (am_ldA 21 L st g 0) := am_E_aload_n (by decide +kernel : am_dc 123 20 = some (.aload_n 0)) rfl rfl
theorem x_123_21   : am_E d 123 Q (21, L, .ref a :: st, g) ↔ am_kv d 123 Q 24 L st g (am_gf g a 7 0) := am_E_getfield (by decide +kernel : am_dc 123 21 = some (.getfield 11)) (by decide +kernel) rfl
theorem x_123_24   : am_E d 123 Q (24, L, st, g) ↔ am_K d 123 Q (am_ldI 25 L st g 3) := am_E_iload_n (by decide +kernel : am_dc 123 24 = some (.iload_n 3)) rfl rfl
theorem x_123_25   : am_E d 123 Q (25, L, st, g) ↔ am_E d 123 Q (26, L, .int (1) :: st, g) := am_E_iconst (by decide +kernel : am_dc 123 25 = some (.iconst (1))) (by decide) rfl
theorem x_123_26   : am_E d 123 Q (26, L, .int y :: .int x :: st, g) ↔ am_E d 123 Q (27, L, .int (x + y) :: st, g) := am_E_iadd (by decide +kernel : am_dc 123 26 = some (.iadd)) rfl
theorem x_123_27   : am_E d 123 Q (27, L, .int x :: .ref a :: st, g) ↔ am_kv d 123 Q 28 L st g (am_iat .aaload g a x) := am_E_aaload (by decide +kernel : am_dc 123 27 = some (.aaload)) rfl
theorem x_123_28   : am_E d 123 Q (28, L, v :: .int x :: .ref a :: st, g) ↔ am_kg d 123 Q 29 L st (am_sat .aastore g a x v) := am_E_aastore (by decide +kernel : am_dc 123 28 = some (.aastore)) rfl
theorem x_123_29   (hk : L.getD 3 none = some (.int x)) (hl : 3 < L.length) : am_E d 123 Q (29, L, st, g) ↔ am_E d 123 Q (32, am_s1 L 3 (.int (x + (1))), st, g) := am_E_iinc (by decide +kernel : am_dc 123 29 = some (.iinc 3 (1))) (by decide) rfl hk hl
theorem x_123_32   : am_E d 123 Q (32, L, st, g) ↔ am_E d 123 Q (9, L, st, g) := am_E_gt (by decide +kernel : am_dc 123 32 = some (.goto (-23))) rfl rfl
theorem x_123_35   : am_E d 123 Q (35, L, st, g) ↔ am_K d 123 Q (am_ldA 36 L st g 0) := am_E_aload_n (by decide +kernel : am_dc 123 35 = some (.aload_n 0)) rfl rfl
theorem x_123_36   : am_E d 123 Q (36, L, .ref a :: st, g) ↔ am_kv d 123 Q 39 L st g (am_gf g a 7 0) := am_E_getfield (by decide +kernel : am_dc 123 36 = some (.getfield 11)) (by decide +kernel) rfl
theorem x_123_39   : am_E d 123 Q (39, L, st, g) ↔ am_E d 123 Q (41, L, .int (7) :: st, g) := am_E_bipush (by decide +kernel : am_dc 123 39 = some (.bipush (7))) (by decide) rfl
theorem x_123_41   : am_E d 123 Q (41, L, st, g) ↔ am_K d 123 Q (am_ldA 42 L st g 2) := am_E_aload_n (by decide +kernel : am_dc 123 41 = some (.aload_n 2)) rfl rfl
theorem x_123_42   : am_E d 123 Q (42, L, v :: .int x :: .ref a :: st, g) ↔ am_kg d 123 Q 43 L st (am_sat .aastore g a x v) := am_E_aastore (by decide +kernel : am_dc 123 42 = some (.aastore)) rfl
theorem x_123_43   : am_E d 123 Q (43, L, st, g) ↔ am_K d 123 Q (am_ldA 44 L st g 0) := am_E_aload_n (by decide +kernel : am_dc 123 43 = some (.aload_n 0)) rfl rfl
theorem x_123_44   : am_E d 123 Q (44, L, v :: st, g) ↔ if v.category = 1 then am_E d 123 Q (45, L, v :: v :: st, g) else False := am_E_dup (by decide +kernel : am_dc 123 44 = some (.dup)) rfl
theorem x_123_45   : am_E d 123 Q (45, L, .ref a :: st, g) ↔ am_kv d 123 Q 48 L st g (am_gf g a 7 1) := am_E_getfield (by decide +kernel : am_dc 123 45 = some (.getfield 18)) (by decide +kernel) rfl
theorem x_123_48   : am_E d 123 Q (48, L, st, g) ↔ am_E d 123 Q (49, L, .int (1) :: st, g) := am_E_iconst (by decide +kernel : am_dc 123 48 = some (.iconst (1))) (by decide) rfl
theorem x_123_49   : am_E d 123 Q (49, L, .int y :: .int x :: st, g) ↔ am_E d 123 Q (50, L, .int (x - y) :: st, g) := am_E_isub (by decide +kernel : am_dc 123 49 = some (.isub)) rfl
theorem x_123_50   (hok : (am_ok (am_ft 7 1).1 v && (!(am_ft 7 1).2 || (am_ini 123 && am_co 7 == am_o 123)) && decide (7 < 13)) = true) : am_E d 123 Q (50, L, v :: .ref a :: st, g) ↔ am_kg d 123 Q 53 L st (am_pf g a 7 1 v) := am_E_putfield (by decide +kernel : am_dc 123 50 = some (.putfield 18)) (by decide +kernel) rfl hok
theorem x_123_53  : am_E d 123 Q (53, L, [], g) ↔ Q (.inl none) g := am_E_return (by decide +kernel : am_dc 123 53 = some (.return_)) (by decide +kernel)
theorem f_123_11 : am_fl 123 11 = some (7, 0) := by decide +kernel
theorem f_123_18 : am_fl 123 18 = some (7, 1) := by decide +kernel
theorem t_123 : am_t 123 = none := by decide +kernel
theorem h_123 : am_h 123 = [] := by decide +kernel
theorem m_123 : am_m 123 = 4 := by decide +kernel
theorem x_124_0   : am_E d 124 Q (0, L, st, g) ↔ am_K d 124 Q (am_ldA 1 L st g 0) := am_E_aload_n (by decide +kernel : am_dc 124 0 = some (.aload_n 0)) rfl rfl
theorem x_124_1  : am_E d 124 Q (1, L, st, g) ↔ am_K d 124 Q (am_S 124 (.invokespecial 3) 1 L st g) := am_E_x (by decide +kernel : am_dc 124 1 = some (.invokespecial 3))
theorem x_124_4   : am_E d 124 Q (4, L, st, g) ↔ am_K d 124 Q (am_ldA 5 L st g 0) := am_E_aload_n (by decide +kernel : am_dc 124 4 = some (.aload_n 0)) rfl rfl
theorem x_124_5   : am_E d 124 Q (5, L, st, g) ↔ am_E d 124 Q (6, L, .int (3) :: st, g) := am_E_iconst (by decide +kernel : am_dc 124 5 = some (.iconst (3))) (by decide) rfl
theorem x_124_6  : am_E d 124 Q (6, L, st, g) ↔ am_K d 124 Q (am_S 124 (.anewarray 9) 6 L st g) := am_E_x (by decide +kernel : am_dc 124 6 = some (.anewarray 9))
theorem x_124_9   (hok : (am_ok (am_ft 8 0).1 v && (!(am_ft 8 0).2 || (am_ini 124 && am_co 8 == am_o 124)) && decide (8 < 13)) = true) : am_E d 124 Q (9, L, v :: .ref a :: st, g) ↔ am_kg d 124 Q 12 L st (am_pf g a 8 0 v) := am_E_putfield (by decide +kernel : am_dc 124 9 = some (.putfield 11)) (by decide +kernel) rfl hok
theorem x_124_12   : am_E d 124 Q (12, L, st, g) ↔ am_E d 124 Q (13, L, .int (0) :: st, g) := am_E_iconst (by decide +kernel : am_dc 124 12 = some (.iconst (0))) (by decide) rfl
theorem x_124_13   : am_E d 124 Q (13, L, st, g) ↔ am_K d 124 Q (am_stI 14 L st g 1) := am_E_istore_n (by decide +kernel : am_dc 124 13 = some (.istore_n 1)) rfl rfl
theorem x_124_14   : am_E d 124 Q (14, L, st, g) ↔ am_K d 124 Q (am_ldI 15 L st g 1) := am_E_iload_n (by decide +kernel : am_dc 124 14 = some (.iload_n 1)) rfl rfl
theorem x_124_15   : am_E d 124 Q (15, L, st, g) ↔ am_E d 124 Q (16, L, .int (3) :: st, g) := am_E_iconst (by decide +kernel : am_dc 124 15 = some (.iconst (3))) (by decide) rfl
theorem x_124_16   : am_E d 124 Q (16, L, .int y :: .int x :: st, g) ↔ am_E d 124 Q (am_cmp .ge x y 38 19, L, st, g) := am_E_ic (by decide +kernel : am_dc 124 16 = some (.if_icmp .ge (22))) rfl rfl
theorem x_124_19   : am_E d 124 Q (19, L, st, g) ↔ am_K d 124 Q (am_ldA 20 L st g 0) := am_E_aload_n (by decide +kernel : am_dc 124 19 = some (.aload_n 0)) rfl rfl
theorem x_124_20   : am_E d 124 Q (20, L, .ref a :: st, g) ↔ am_kv d 124 Q 23 L st g (am_gf g a 8 0) := am_E_getfield (by decide +kernel : am_dc 124 20 = some (.getfield 11)) (by decide +kernel) rfl
theorem x_124_23   : am_E d 124 Q (23, L, st, g) ↔ am_K d 124 Q (am_ldI 24 L st g 1) := am_E_iload_n (by decide +kernel : am_dc 124 23 = some (.iload_n 1)) rfl rfl
theorem x_124_24  : am_E d 124 Q (24, L, st, g) ↔ am_K d 124 Q (am_S 124 (.new 9) 24 L st g) := am_E_x (by decide +kernel : am_dc 124 24 = some (.new 9))
theorem x_124_27   : am_E d 124 Q (27, L, v :: st, g) ↔ if v.category = 1 then am_E d 124 Q (28, L, v :: v :: st, g) else False := am_E_dup (by decide +kernel : am_dc 124 27 = some (.dup)) rfl
theorem x_124_28  : am_E d 124 Q (28, L, st, g) ↔ am_K d 124 Q (am_S 124 (.invokespecial 17) 28 L st g) := am_E_x (by decide +kernel : am_dc 124 28 = some (.invokespecial 17))
theorem x_124_31   : am_E d 124 Q (31, L, v :: .int x :: .ref a :: st, g) ↔ am_kg d 124 Q 32 L st (am_sat .aastore g a x v) := am_E_aastore (by decide +kernel : am_dc 124 31 = some (.aastore)) rfl
theorem x_124_32   (hk : L.getD 1 none = some (.int x)) (hl : 1 < L.length) : am_E d 124 Q (32, L, st, g) ↔ am_E d 124 Q (35, am_s1 L 1 (.int (x + (1))), st, g) := am_E_iinc (by decide +kernel : am_dc 124 32 = some (.iinc 1 (1))) (by decide) rfl hk hl
theorem x_124_35   : am_E d 124 Q (35, L, st, g) ↔ am_E d 124 Q (14, L, st, g) := am_E_gt (by decide +kernel : am_dc 124 35 = some (.goto (-21))) rfl rfl
theorem x_124_38  : am_E d 124 Q (38, L, [], g) ↔ Q (.inl none) g := am_E_return (by decide +kernel : am_dc 124 38 = some (.return_)) (by decide +kernel)
theorem v_124_3 : am_iv 124 3 = some (3, 0, 1) := by decide +kernel
theorem f_124_11 : am_fl 124 11 = some (8, 0) := by decide +kernel
theorem w_124_9 : am_nw 124 9 = some 10 := by decide +kernel
theorem v_124_17 : am_iv 124 17 = some (2, 142, 1) := by decide +kernel
theorem t_124 : am_t 124 = none := by decide +kernel
theorem h_124 : am_h 124 = [] := by decide +kernel
theorem m_124 : am_m 124 = 2 := by decide +kernel
theorem x_125_0   : am_E d 125 Q (0, L, st, g) ↔ am_K d 125 Q (am_ldI 1 L st g 1) := am_E_iload_n (by decide +kernel : am_dc 125 0 = some (.iload_n 1)) rfl rfl
theorem x_125_1   : am_E d 125 Q (1, L, .int x :: st, g) ↔ am_E d 125 Q (am_cmp .lt x 0 13 4, L, st, g) := am_E_if (by decide +kernel : am_dc 125 1 = some (.ifCond .lt (12))) rfl rfl
theorem x_125_4   : am_E d 125 Q (4, L, st, g) ↔ am_K d 125 Q (am_ldI 5 L st g 1) := am_E_iload_n (by decide +kernel : am_dc 125 4 = some (.iload_n 1)) rfl rfl
theorem x_125_5   : am_E d 125 Q (5, L, st, g) ↔ am_E d 125 Q (6, L, .int (3) :: st, g) := am_E_iconst (by decide +kernel : am_dc 125 5 = some (.iconst (3))) (by decide) rfl
theorem x_125_6   : am_E d 125 Q (6, L, .int y :: .int x :: st, g) ↔ am_E d 125 Q (am_cmp .ge x y 13 9, L, st, g) := am_E_ic (by decide +kernel : am_dc 125 6 = some (.if_icmp .ge (7))) rfl rfl
theorem x_125_9   : am_E d 125 Q (9, L, st, g) ↔ am_E d 125 Q (10, L, .int (1) :: st, g) := am_E_iconst (by decide +kernel : am_dc 125 9 = some (.iconst (1))) (by decide) rfl
theorem x_125_10   : am_E d 125 Q (10, L, st, g) ↔ am_E d 125 Q (14, L, st, g) := am_E_gt (by decide +kernel : am_dc 125 10 = some (.goto (4))) rfl rfl
theorem x_125_13   : am_E d 125 Q (13, L, st, g) ↔ am_E d 125 Q (14, L, .int (0) :: st, g) := am_E_iconst (by decide +kernel : am_dc 125 13 = some (.iconst (0))) (by decide) rfl
theorem x_125_14   : am_E d 125 Q (14, L, st, g) ↔ am_K d 125 Q (am_stI 15 L st g 3) := am_E_istore_n (by decide +kernel : am_dc 125 14 = some (.istore_n 3)) rfl rfl
theorem x_125_15   : am_E d 125 Q (15, L, st, g) ↔ am_K d 125 Q (am_ldI 16 L st g 3) := am_E_iload_n (by decide +kernel : am_dc 125 15 = some (.iload_n 3)) rfl rfl
theorem x_125_16   : am_E d 125 Q (16, L, .int x :: st, g) ↔ am_E d 125 Q (am_cmp .eq x 0 41 19, L, st, g) := am_E_if (by decide +kernel : am_dc 125 16 = some (.ifCond .eq (25))) rfl rfl
theorem x_125_19   : am_E d 125 Q (19, L, st, g) ↔ am_K d 125 Q (am_ldI 20 L st g 2) := am_E_iload_n (by decide +kernel : am_dc 125 19 = some (.iload_n 2)) rfl rfl
theorem x_125_20   : am_E d 125 Q (20, L, st, g) ↔ am_E d 125 Q (21, L, .int (-1) :: st, g) := am_E_iconst (by decide +kernel : am_dc 125 20 = some (.iconst (-1))) (by decide) rfl
theorem x_125_21   : am_E d 125 Q (21, L, .int y :: .int x :: st, g) ↔ am_E d 125 Q (am_cmp .eq x y 37 24, L, st, g) := am_E_ic (by decide +kernel : am_dc 125 21 = some (.if_icmp .eq (16))) rfl rfl
theorem x_125_24   : am_E d 125 Q (24, L, st, g) ↔ am_K d 125 Q (am_ldA 25 L st g 0) := am_E_aload_n (by decide +kernel : am_dc 125 24 = some (.aload_n 0)) rfl rfl
theorem x_125_25   : am_E d 125 Q (25, L, .ref a :: st, g) ↔ am_kv d 125 Q 28 L st g (am_gf g a 8 0) := am_E_getfield (by decide +kernel : am_dc 125 25 = some (.getfield 11)) (by decide +kernel) rfl
theorem x_125_28   : am_E d 125 Q (28, L, st, g) ↔ am_K d 125 Q (am_ldI 29 L st g 1) := am_E_iload_n (by decide +kernel : am_dc 125 28 = some (.iload_n 1)) rfl rfl
theorem x_125_29   : am_E d 125 Q (29, L, .int x :: .ref a :: st, g) ↔ am_kv d 125 Q 30 L st g (am_iat .aaload g a x) := am_E_aaload (by decide +kernel : am_dc 125 29 = some (.aaload)) rfl
theorem x_125_30   : am_E d 125 Q (30, L, st, g) ↔ am_K d 125 Q (am_ldI 31 L st g 2) := am_E_iload_n (by decide +kernel : am_dc 125 30 = some (.iload_n 2)) rfl rfl
theorem x_125_31  : am_E d 125 Q (31, L, st, g) ↔ am_K d 125 Q (am_S 125 (.invokevirtual 26) 31 L st g) := am_E_x (by decide +kernel : am_dc 125 31 = some (.invokevirtual 26))
theorem x_125_34   : am_E d 125 Q (34, L, .int x :: st, g) ↔ am_E d 125 Q (am_cmp .eq x 0 41 37, L, st, g) := am_E_if (by decide +kernel : am_dc 125 34 = some (.ifCond .eq (7))) rfl rfl
theorem x_125_37   : am_E d 125 Q (37, L, st, g) ↔ am_E d 125 Q (38, L, .int (1) :: st, g) := am_E_iconst (by decide +kernel : am_dc 125 37 = some (.iconst (1))) (by decide) rfl
theorem x_125_38   : am_E d 125 Q (38, L, st, g) ↔ am_E d 125 Q (42, L, st, g) := am_E_gt (by decide +kernel : am_dc 125 38 = some (.goto (4))) rfl rfl
theorem x_125_41   : am_E d 125 Q (41, L, st, g) ↔ am_E d 125 Q (42, L, .int (0) :: st, g) := am_E_iconst (by decide +kernel : am_dc 125 41 = some (.iconst (0))) (by decide) rfl
theorem x_125_42  : am_E d 125 Q (42, L, [.int x], g) ↔ if am_ok (FieldType.boolean) (.int x) = true then Q (.inl (some (.int x))) g else False := am_E_ireturn (by decide +kernel : am_dc 125 42 = some (.ireturn)) (by decide +kernel)
theorem f_125_11 : am_fl 125 11 = some (8, 0) := by decide +kernel
theorem v_125_26 : am_iv 125 26 = some (1, 148, 2) := by decide +kernel
theorem t_125 : am_t 125 = some (FieldType.boolean) := by decide +kernel
theorem h_125 : am_h 125 = [] := by decide +kernel
theorem m_125 : am_m 125 = 4 := by decide +kernel
theorem x_126_0   : am_E d 126 Q (0, L, st, g) ↔ am_K d 126 Q (am_ldI 1 L st g 1) := am_E_iload_n (by decide +kernel : am_dc 126 0 = some (.iload_n 1)) rfl rfl
theorem x_126_1   : am_E d 126 Q (1, L, .int x :: st, g) ↔ am_E d 126 Q (am_cmp .lt x 0 26 4, L, st, g) := am_E_if (by decide +kernel : am_dc 126 1 = some (.ifCond .lt (25))) rfl rfl
theorem x_126_4   : am_E d 126 Q (4, L, st, g) ↔ am_K d 126 Q (am_ldI 5 L st g 1) := am_E_iload_n (by decide +kernel : am_dc 126 4 = some (.iload_n 1)) rfl rfl
theorem x_126_5   : am_E d 126 Q (5, L, st, g) ↔ am_E d 126 Q (6, L, .int (3) :: st, g) := am_E_iconst (by decide +kernel : am_dc 126 5 = some (.iconst (3))) (by decide) rfl
theorem x_126_6   : am_E d 126 Q (6, L, .int y :: .int x :: st, g) ↔ am_E d 126 Q (am_cmp .ge x y 26 9, L, st, g) := am_E_ic (by decide +kernel : am_dc 126 6 = some (.if_icmp .ge (20))) rfl rfl
theorem x_126_9   : am_E d 126 Q (9, L, st, g) ↔ am_K d 126 Q (am_ldA 10 L st g 0) := am_E_aload_n (by decide +kernel : am_dc 126 9 = some (.aload_n 0)) rfl rfl
theorem x_126_10   : am_E d 126 Q (10, L, .ref a :: st, g) ↔ am_kv d 126 Q 13 L st g (am_gf g a 8 0) := am_E_getfield (by decide +kernel : am_dc 126 10 = some (.getfield 11)) (by decide +kernel) rfl
theorem x_126_13   : am_E d 126 Q (13, L, st, g) ↔ am_K d 126 Q (am_ldI 14 L st g 1) := am_E_iload_n (by decide +kernel : am_dc 126 13 = some (.iload_n 1)) rfl rfl
theorem x_126_14   : am_E d 126 Q (14, L, .int x :: .ref a :: st, g) ↔ am_kv d 126 Q 15 L st g (am_iat .aaload g a x) := am_E_aaload (by decide +kernel : am_dc 126 14 = some (.aaload)) rfl
theorem x_126_15   : am_E d 126 Q (15, L, st, g) ↔ am_K d 126 Q (am_ldI 16 L st g 2) := am_E_iload_n (by decide +kernel : am_dc 126 15 = some (.iload_n 2)) rfl rfl
theorem x_126_16  : am_E d 126 Q (16, L, st, g) ↔ am_K d 126 Q (am_S 126 (.invokevirtual 26) 16 L st g) := am_E_x (by decide +kernel : am_dc 126 16 = some (.invokevirtual 26))
theorem x_126_19   : am_E d 126 Q (19, L, .int x :: st, g) ↔ am_E d 126 Q (am_cmp .eq x 0 26 22, L, st, g) := am_E_if (by decide +kernel : am_dc 126 19 = some (.ifCond .eq (7))) rfl rfl
theorem x_126_22   : am_E d 126 Q (22, L, st, g) ↔ am_E d 126 Q (23, L, .int (1) :: st, g) := am_E_iconst (by decide +kernel : am_dc 126 22 = some (.iconst (1))) (by decide) rfl
theorem x_126_23   : am_E d 126 Q (23, L, st, g) ↔ am_E d 126 Q (27, L, st, g) := am_E_gt (by decide +kernel : am_dc 126 23 = some (.goto (4))) rfl rfl
theorem x_126_26   : am_E d 126 Q (26, L, st, g) ↔ am_E d 126 Q (27, L, .int (0) :: st, g) := am_E_iconst (by decide +kernel : am_dc 126 26 = some (.iconst (0))) (by decide) rfl
theorem x_126_27  : am_E d 126 Q (27, L, [.int x], g) ↔ if am_ok (FieldType.boolean) (.int x) = true then Q (.inl (some (.int x))) g else False := am_E_ireturn (by decide +kernel : am_dc 126 27 = some (.ireturn)) (by decide +kernel)
theorem f_126_11 : am_fl 126 11 = some (8, 0) := by decide +kernel
theorem v_126_26 : am_iv 126 26 = some (1, 148, 2) := by decide +kernel
theorem t_126 : am_t 126 = some (FieldType.boolean) := by decide +kernel
theorem h_126 : am_h 126 = [] := by decide +kernel
theorem m_126 : am_m 126 = 3 := by decide +kernel
theorem x_127_0   : am_E d 127 Q (0, L, st, g) ↔ am_K d 127 Q (am_ldA 1 L st g 0) := am_E_aload_n (by decide +kernel : am_dc 127 0 = some (.aload_n 0)) rfl rfl
theorem x_127_1   : am_E d 127 Q (1, L, .ref a :: st, g) ↔ am_kv d 127 Q 4 L st g (am_gf g a 8 0) := am_E_getfield (by decide +kernel : am_dc 127 1 = some (.getfield 11)) (by decide +kernel) rfl
theorem x_127_4   : am_E d 127 Q (4, L, st, g) ↔ am_E d 127 Q (5, L, .int (0) :: st, g) := am_E_iconst (by decide +kernel : am_dc 127 4 = some (.iconst (0))) (by decide) rfl
theorem x_127_5   : am_E d 127 Q (5, L, .int x :: .ref a :: st, g) ↔ am_kv d 127 Q 6 L st g (am_iat .aaload g a x) := am_E_aaload (by decide +kernel : am_dc 127 5 = some (.aaload)) rfl
theorem x_127_6   : am_E d 127 Q (6, L, st, g) ↔ am_K d 127 Q (am_ldA 7 L st g 1) := am_E_aload_n (by decide +kernel : am_dc 127 6 = some (.aload_n 1)) rfl rfl
theorem x_127_7   : am_E d 127 Q (7, L, st, g) ↔ am_E d 127 Q (8, L, .int (0) :: st, g) := am_E_iconst (by decide +kernel : am_dc 127 7 = some (.iconst (0))) (by decide) rfl
theorem x_127_8   : am_E d 127 Q (8, L, .int x :: .ref a :: st, g) ↔ am_kv d 127 Q 9 L st g (am_iat .iaload g a x) := am_E_iaload (by decide +kernel : am_dc 127 8 = some (.iaload)) rfl
theorem x_127_9  : am_E d 127 Q (9, L, st, g) ↔ am_K d 127 Q (am_S 127 (.invokevirtual 26) 9 L st g) := am_E_x (by decide +kernel : am_dc 127 9 = some (.invokevirtual 26))
theorem x_127_12   : am_E d 127 Q (12, L, .int x :: st, g) ↔ am_E d 127 Q (am_cmp .eq x 0 49 15, L, st, g) := am_E_if (by decide +kernel : am_dc 127 12 = some (.ifCond .eq (37))) rfl rfl
theorem x_127_15   : am_E d 127 Q (15, L, st, g) ↔ am_K d 127 Q (am_ldA 16 L st g 0) := am_E_aload_n (by decide +kernel : am_dc 127 15 = some (.aload_n 0)) rfl rfl
theorem x_127_16   : am_E d 127 Q (16, L, .ref a :: st, g) ↔ am_kv d 127 Q 19 L st g (am_gf g a 8 0) := am_E_getfield (by decide +kernel : am_dc 127 16 = some (.getfield 11)) (by decide +kernel) rfl
theorem x_127_19   : am_E d 127 Q (19, L, st, g) ↔ am_E d 127 Q (20, L, .int (1) :: st, g) := am_E_iconst (by decide +kernel : am_dc 127 19 = some (.iconst (1))) (by decide) rfl
theorem x_127_20   : am_E d 127 Q (20, L, .int x :: .ref a :: st, g) ↔ am_kv d 127 Q 21 L st g (am_iat .aaload g a x) := am_E_aaload (by decide +kernel : am_dc 127 20 = some (.aaload)) rfl
theorem x_127_21   : am_E d 127 Q (21, L, st, g) ↔ am_K d 127 Q (am_ldA 22 L st g 1) := am_E_aload_n (by decide +kernel : am_dc 127 21 = some (.aload_n 1)) rfl rfl
theorem x_127_22   : am_E d 127 Q (22, L, st, g) ↔ am_E d 127 Q (23, L, .int (1) :: st, g) := am_E_iconst (by decide +kernel : am_dc 127 22 = some (.iconst (1))) (by decide) rfl
theorem x_127_23   : am_E d 127 Q (23, L, .int x :: .ref a :: st, g) ↔ am_kv d 127 Q 24 L st g (am_iat .iaload g a x) := am_E_iaload (by decide +kernel : am_dc 127 23 = some (.iaload)) rfl
theorem x_127_24  : am_E d 127 Q (24, L, st, g) ↔ am_K d 127 Q (am_S 127 (.invokevirtual 26) 24 L st g) := am_E_x (by decide +kernel : am_dc 127 24 = some (.invokevirtual 26))
theorem x_127_27   : am_E d 127 Q (27, L, .int x :: st, g) ↔ am_E d 127 Q (am_cmp .eq x 0 49 30, L, st, g) := am_E_if (by decide +kernel : am_dc 127 27 = some (.ifCond .eq (22))) rfl rfl
theorem x_127_30   : am_E d 127 Q (30, L, st, g) ↔ am_K d 127 Q (am_ldA 31 L st g 0) := am_E_aload_n (by decide +kernel : am_dc 127 30 = some (.aload_n 0)) rfl rfl
theorem x_127_31   : am_E d 127 Q (31, L, .ref a :: st, g) ↔ am_kv d 127 Q 34 L st g (am_gf g a 8 0) := am_E_getfield (by decide +kernel : am_dc 127 31 = some (.getfield 11)) (by decide +kernel) rfl
theorem x_127_34   : am_E d 127 Q (34, L, st, g) ↔ am_E d 127 Q (35, L, .int (2) :: st, g) := am_E_iconst (by decide +kernel : am_dc 127 34 = some (.iconst (2))) (by decide) rfl
theorem x_127_35   : am_E d 127 Q (35, L, .int x :: .ref a :: st, g) ↔ am_kv d 127 Q 36 L st g (am_iat .aaload g a x) := am_E_aaload (by decide +kernel : am_dc 127 35 = some (.aaload)) rfl
theorem x_127_36   : am_E d 127 Q (36, L, st, g) ↔ am_K d 127 Q (am_ldA 37 L st g 1) := am_E_aload_n (by decide +kernel : am_dc 127 36 = some (.aload_n 1)) rfl rfl
theorem x_127_37   : am_E d 127 Q (37, L, st, g) ↔ am_E d 127 Q (38, L, .int (2) :: st, g) := am_E_iconst (by decide +kernel : am_dc 127 37 = some (.iconst (2))) (by decide) rfl
theorem x_127_38   : am_E d 127 Q (38, L, .int x :: .ref a :: st, g) ↔ am_kv d 127 Q 39 L st g (am_iat .iaload g a x) := am_E_iaload (by decide +kernel : am_dc 127 38 = some (.iaload)) rfl
theorem x_127_39  : am_E d 127 Q (39, L, st, g) ↔ am_K d 127 Q (am_S 127 (.invokevirtual 26) 39 L st g) := am_E_x (by decide +kernel : am_dc 127 39 = some (.invokevirtual 26))
theorem x_127_42   : am_E d 127 Q (42, L, .int x :: st, g) ↔ am_E d 127 Q (am_cmp .eq x 0 49 45, L, st, g) := am_E_if (by decide +kernel : am_dc 127 42 = some (.ifCond .eq (7))) rfl rfl
theorem x_127_45   : am_E d 127 Q (45, L, st, g) ↔ am_E d 127 Q (46, L, .int (1) :: st, g) := am_E_iconst (by decide +kernel : am_dc 127 45 = some (.iconst (1))) (by decide) rfl
theorem x_127_46   : am_E d 127 Q (46, L, st, g) ↔ am_E d 127 Q (50, L, st, g) := am_E_gt (by decide +kernel : am_dc 127 46 = some (.goto (4))) rfl rfl
theorem x_127_49   : am_E d 127 Q (49, L, st, g) ↔ am_E d 127 Q (50, L, .int (0) :: st, g) := am_E_iconst (by decide +kernel : am_dc 127 49 = some (.iconst (0))) (by decide) rfl
theorem x_127_50  : am_E d 127 Q (50, L, [.int x], g) ↔ if am_ok (FieldType.boolean) (.int x) = true then Q (.inl (some (.int x))) g else False := am_E_ireturn (by decide +kernel : am_dc 127 50 = some (.ireturn)) (by decide +kernel)
theorem f_127_11 : am_fl 127 11 = some (8, 0) := by decide +kernel
theorem v_127_26 : am_iv 127 26 = some (1, 148, 2) := by decide +kernel
theorem t_127 : am_t 127 = some (FieldType.boolean) := by decide +kernel
theorem h_127 : am_h 127 = [] := by decide +kernel
theorem m_127 : am_m 127 = 2 := by decide +kernel
theorem x_128_0   : am_E d 128 Q (0, L, st, g) ↔ am_E d 128 Q (1, L, .int (0) :: st, g) := am_E_iconst (by decide +kernel : am_dc 128 0 = some (.iconst (0))) (by decide) rfl
theorem x_128_1   : am_E d 128 Q (1, L, st, g) ↔ am_K d 128 Q (am_stI 2 L st g 2) := am_E_istore_n (by decide +kernel : am_dc 128 1 = some (.istore_n 2)) rfl rfl
theorem x_128_2   : am_E d 128 Q (2, L, st, g) ↔ am_K d 128 Q (am_ldI 3 L st g 2) := am_E_iload_n (by decide +kernel : am_dc 128 2 = some (.iload_n 2)) rfl rfl
theorem x_128_3   : am_E d 128 Q (3, L, st, g) ↔ am_E d 128 Q (4, L, .int (3) :: st, g) := am_E_iconst (by decide +kernel : am_dc 128 3 = some (.iconst (3))) (by decide) rfl
theorem x_128_4   : am_E d 128 Q (4, L, .int y :: .int x :: st, g) ↔ am_E d 128 Q (am_cmp .ge x y 30 7, L, st, g) := am_E_ic (by decide +kernel : am_dc 128 4 = some (.if_icmp .ge (26))) rfl rfl
theorem x_128_7   : am_E d 128 Q (7, L, st, g) ↔ am_K d 128 Q (am_ldA 8 L st g 0) := am_E_aload_n (by decide +kernel : am_dc 128 7 = some (.aload_n 0)) rfl rfl
theorem x_128_8   : am_E d 128 Q (8, L, .ref a :: st, g) ↔ am_kv d 128 Q 11 L st g (am_gf g a 8 0) := am_E_getfield (by decide +kernel : am_dc 128 8 = some (.getfield 11)) (by decide +kernel) rfl
theorem x_128_11   : am_E d 128 Q (11, L, st, g) ↔ am_K d 128 Q (am_ldI 12 L st g 2) := am_E_iload_n (by decide +kernel : am_dc 128 11 = some (.iload_n 2)) rfl rfl
theorem x_128_12   : am_E d 128 Q (12, L, .int x :: .ref a :: st, g) ↔ am_kv d 128 Q 13 L st g (am_iat .aaload g a x) := am_E_aaload (by decide +kernel : am_dc 128 12 = some (.aaload)) rfl
theorem x_128_13   : am_E d 128 Q (13, L, st, g) ↔ am_K d 128 Q (am_ldI 14 L st g 1) := am_E_iload_n (by decide +kernel : am_dc 128 13 = some (.iload_n 1)) rfl rfl
theorem x_128_14   : am_E d 128 Q (14, L, st, g) ↔ am_K d 128 Q (am_ldI 15 L st g 2) := am_E_iload_n (by decide +kernel : am_dc 128 14 = some (.iload_n 2)) rfl rfl
theorem x_128_15  : am_E d 128 Q (15, L, st, g) ↔ am_K d 128 Q (am_S 128 (.invokestatic 22) 15 L st g) := am_E_x (by decide +kernel : am_dc 128 15 = some (.invokestatic 22))
theorem x_128_18  : am_E d 128 Q (18, L, st, g) ↔ am_K d 128 Q (am_S 128 (.invokevirtual 34) 18 L st g) := am_E_x (by decide +kernel : am_dc 128 18 = some (.invokevirtual 34))
theorem x_128_21   : am_E d 128 Q (21, L, .int x :: st, g) ↔ am_E d 128 Q (am_cmp .eq x 0 30 24, L, st, g) := am_E_if (by decide +kernel : am_dc 128 21 = some (.ifCond .eq (9))) rfl rfl
theorem x_128_24   (hk : L.getD 2 none = some (.int x)) (hl : 2 < L.length) : am_E d 128 Q (24, L, st, g) ↔ am_E d 128 Q (27, am_s1 L 2 (.int (x + (1))), st, g) := am_E_iinc (by decide +kernel : am_dc 128 24 = some (.iinc 2 (1))) (by decide) rfl hk hl
theorem x_128_27   : am_E d 128 Q (27, L, st, g) ↔ am_E d 128 Q (2, L, st, g) := am_E_gt (by decide +kernel : am_dc 128 27 = some (.goto (-25))) rfl rfl
theorem x_128_30   : am_E d 128 Q (30, L, st, g) ↔ am_K d 128 Q (am_ldI 31 L st g 2) := am_E_iload_n (by decide +kernel : am_dc 128 30 = some (.iload_n 2)) rfl rfl
theorem x_128_31  : am_E d 128 Q (31, L, [.int x], g) ↔ if am_ok (FieldType.int) (.int x) = true then Q (.inl (some (.int x))) g else False := am_E_ireturn (by decide +kernel : am_dc 128 31 = some (.ireturn)) (by decide +kernel)
theorem f_128_11 : am_fl 128 11 = some (8, 0) := by decide +kernel
theorem v_128_22 : am_iv 128 22 = some (0, 131, 2) := by decide +kernel
theorem v_128_34 : am_iv 128 34 = some (1, 150, 2) := by decide +kernel
theorem t_128 : am_t 128 = some (FieldType.int) := by decide +kernel
theorem h_128 : am_h 128 = [] := by decide +kernel
theorem m_128 : am_m 128 = 3 := by decide +kernel
theorem x_129_0   : am_E d 129 Q (0, L, st, g) ↔ am_K d 129 Q (am_ldA 1 L st g 0) := am_E_aload_n (by decide +kernel : am_dc 129 0 = some (.aload_n 0)) rfl rfl
theorem x_129_1   : am_E d 129 Q (1, L, st, g) ↔ am_K d 129 Q (am_ldI 2 L st g 1) := am_E_iload_n (by decide +kernel : am_dc 129 1 = some (.iload_n 1)) rfl rfl
theorem x_129_2  : am_E d 129 Q (2, L, st, g) ↔ am_K d 129 Q (am_S 129 (.invokevirtual 30) 2 L st g) := am_E_x (by decide +kernel : am_dc 129 2 = some (.invokevirtual 30))
theorem x_129_5   : am_E d 129 Q (5, L, st, g) ↔ am_E d 129 Q (6, L, .int (3) :: st, g) := am_E_iconst (by decide +kernel : am_dc 129 5 = some (.iconst (3))) (by decide) rfl
theorem x_129_6   : am_E d 129 Q (6, L, .int y :: .int x :: st, g) ↔ am_E d 129 Q (am_cmp .ne x y 13 9, L, st, g) := am_E_ic (by decide +kernel : am_dc 129 6 = some (.if_icmp .ne (7))) rfl rfl
theorem x_129_9   : am_E d 129 Q (9, L, st, g) ↔ am_E d 129 Q (10, L, .int (1) :: st, g) := am_E_iconst (by decide +kernel : am_dc 129 9 = some (.iconst (1))) (by decide) rfl
theorem x_129_10   : am_E d 129 Q (10, L, st, g) ↔ am_E d 129 Q (14, L, st, g) := am_E_gt (by decide +kernel : am_dc 129 10 = some (.goto (4))) rfl rfl
theorem x_129_13   : am_E d 129 Q (13, L, st, g) ↔ am_E d 129 Q (14, L, .int (0) :: st, g) := am_E_iconst (by decide +kernel : am_dc 129 13 = some (.iconst (0))) (by decide) rfl
theorem x_129_14  : am_E d 129 Q (14, L, [.int x], g) ↔ if am_ok (FieldType.boolean) (.int x) = true then Q (.inl (some (.int x))) g else False := am_E_ireturn (by decide +kernel : am_dc 129 14 = some (.ireturn)) (by decide +kernel)
theorem v_129_30 : am_iv 129 30 = some (1, 128, 2) := by decide +kernel
theorem t_129 : am_t 129 = some (FieldType.boolean) := by decide +kernel
theorem h_129 : am_h 129 = [] := by decide +kernel
theorem m_129 : am_m 129 = 2 := by decide +kernel
theorem x_130_0   : am_E d 130 Q (0, L, st, g) ↔ am_K d 130 Q (am_ldA 1 L st g 0) := am_E_aload_n (by decide +kernel : am_dc 130 0 = some (.aload_n 0)) rfl rfl
theorem x_130_1   : am_E d 130 Q (1, L, .ref a :: st, g) ↔ am_kv d 130 Q 4 L st g (am_gf g a 8 0) := am_E_getfield (by decide +kernel : am_dc 130 1 = some (.getfield 11)) (by decide +kernel) rfl
theorem x_130_4   : am_E d 130 Q (4, L, st, g) ↔ am_E d 130 Q (5, L, .int (0) :: st, g) := am_E_iconst (by decide +kernel : am_dc 130 4 = some (.iconst (0))) (by decide) rfl
theorem x_130_5   : am_E d 130 Q (5, L, .int x :: .ref a :: st, g) ↔ am_kv d 130 Q 6 L st g (am_iat .aaload g a x) := am_E_aaload (by decide +kernel : am_dc 130 5 = some (.aaload)) rfl
theorem x_130_6   : am_E d 130 Q (6, L, st, g) ↔ am_K d 130 Q (am_ldI 7 L st g 1) := am_E_iload_n (by decide +kernel : am_dc 130 6 = some (.iload_n 1)) rfl rfl
theorem x_130_7   : am_E d 130 Q (7, L, st, g) ↔ am_E d 130 Q (8, L, .int (0) :: st, g) := am_E_iconst (by decide +kernel : am_dc 130 7 = some (.iconst (0))) (by decide) rfl
theorem x_130_8  : am_E d 130 Q (8, L, st, g) ↔ am_K d 130 Q (am_S 130 (.invokestatic 22) 8 L st g) := am_E_x (by decide +kernel : am_dc 130 8 = some (.invokestatic 22))
theorem x_130_11   : am_E d 130 Q (11, L, st, g) ↔ am_K d 130 Q (am_ldA 12 L st g 2) := am_E_aload_n (by decide +kernel : am_dc 130 11 = some (.aload_n 2)) rfl rfl
theorem x_130_12   : am_E d 130 Q (12, L, st, g) ↔ am_E d 130 Q (13, L, .int (0) :: st, g) := am_E_iconst (by decide +kernel : am_dc 130 12 = some (.iconst (0))) (by decide) rfl
theorem x_130_13   : am_E d 130 Q (13, L, .int x :: .ref a :: st, g) ↔ am_kv d 130 Q 14 L st g (am_iat .iaload g a x) := am_E_iaload (by decide +kernel : am_dc 130 13 = some (.iaload)) rfl
theorem x_130_14  : am_E d 130 Q (14, L, st, g) ↔ am_K d 130 Q (am_S 130 (.invokevirtual 37) 14 L st g) := am_E_x (by decide +kernel : am_dc 130 14 = some (.invokevirtual 37))
theorem x_130_17   : am_E d 130 Q (17, L, .int x :: st, g) ↔ am_E d 130 Q (am_cmp .eq x 0 64 20, L, st, g) := am_E_if (by decide +kernel : am_dc 130 17 = some (.ifCond .eq (47))) rfl rfl
theorem x_130_20   : am_E d 130 Q (20, L, st, g) ↔ am_K d 130 Q (am_ldA 21 L st g 0) := am_E_aload_n (by decide +kernel : am_dc 130 20 = some (.aload_n 0)) rfl rfl
theorem x_130_21   : am_E d 130 Q (21, L, .ref a :: st, g) ↔ am_kv d 130 Q 24 L st g (am_gf g a 8 0) := am_E_getfield (by decide +kernel : am_dc 130 21 = some (.getfield 11)) (by decide +kernel) rfl
theorem x_130_24   : am_E d 130 Q (24, L, st, g) ↔ am_E d 130 Q (25, L, .int (1) :: st, g) := am_E_iconst (by decide +kernel : am_dc 130 24 = some (.iconst (1))) (by decide) rfl
theorem x_130_25   : am_E d 130 Q (25, L, .int x :: .ref a :: st, g) ↔ am_kv d 130 Q 26 L st g (am_iat .aaload g a x) := am_E_aaload (by decide +kernel : am_dc 130 25 = some (.aaload)) rfl
theorem x_130_26   : am_E d 130 Q (26, L, st, g) ↔ am_K d 130 Q (am_ldI 27 L st g 1) := am_E_iload_n (by decide +kernel : am_dc 130 26 = some (.iload_n 1)) rfl rfl
theorem x_130_27   : am_E d 130 Q (27, L, st, g) ↔ am_E d 130 Q (28, L, .int (1) :: st, g) := am_E_iconst (by decide +kernel : am_dc 130 27 = some (.iconst (1))) (by decide) rfl
theorem x_130_28  : am_E d 130 Q (28, L, st, g) ↔ am_K d 130 Q (am_S 130 (.invokestatic 22) 28 L st g) := am_E_x (by decide +kernel : am_dc 130 28 = some (.invokestatic 22))
theorem x_130_31   : am_E d 130 Q (31, L, st, g) ↔ am_K d 130 Q (am_ldA 32 L st g 2) := am_E_aload_n (by decide +kernel : am_dc 130 31 = some (.aload_n 2)) rfl rfl
theorem x_130_32   : am_E d 130 Q (32, L, st, g) ↔ am_E d 130 Q (33, L, .int (1) :: st, g) := am_E_iconst (by decide +kernel : am_dc 130 32 = some (.iconst (1))) (by decide) rfl
theorem x_130_33   : am_E d 130 Q (33, L, .int x :: .ref a :: st, g) ↔ am_kv d 130 Q 34 L st g (am_iat .iaload g a x) := am_E_iaload (by decide +kernel : am_dc 130 33 = some (.iaload)) rfl
theorem x_130_34  : am_E d 130 Q (34, L, st, g) ↔ am_K d 130 Q (am_S 130 (.invokevirtual 37) 34 L st g) := am_E_x (by decide +kernel : am_dc 130 34 = some (.invokevirtual 37))
theorem x_130_37   : am_E d 130 Q (37, L, .int x :: st, g) ↔ am_E d 130 Q (am_cmp .eq x 0 64 40, L, st, g) := am_E_if (by decide +kernel : am_dc 130 37 = some (.ifCond .eq (27))) rfl rfl
theorem x_130_40   : am_E d 130 Q (40, L, st, g) ↔ am_K d 130 Q (am_ldA 41 L st g 0) := am_E_aload_n (by decide +kernel : am_dc 130 40 = some (.aload_n 0)) rfl rfl
theorem x_130_41   : am_E d 130 Q (41, L, .ref a :: st, g) ↔ am_kv d 130 Q 44 L st g (am_gf g a 8 0) := am_E_getfield (by decide +kernel : am_dc 130 41 = some (.getfield 11)) (by decide +kernel) rfl
theorem x_130_44   : am_E d 130 Q (44, L, st, g) ↔ am_E d 130 Q (45, L, .int (2) :: st, g) := am_E_iconst (by decide +kernel : am_dc 130 44 = some (.iconst (2))) (by decide) rfl
theorem x_130_45   : am_E d 130 Q (45, L, .int x :: .ref a :: st, g) ↔ am_kv d 130 Q 46 L st g (am_iat .aaload g a x) := am_E_aaload (by decide +kernel : am_dc 130 45 = some (.aaload)) rfl
theorem x_130_46   : am_E d 130 Q (46, L, st, g) ↔ am_K d 130 Q (am_ldI 47 L st g 1) := am_E_iload_n (by decide +kernel : am_dc 130 46 = some (.iload_n 1)) rfl rfl
theorem x_130_47   : am_E d 130 Q (47, L, st, g) ↔ am_E d 130 Q (48, L, .int (2) :: st, g) := am_E_iconst (by decide +kernel : am_dc 130 47 = some (.iconst (2))) (by decide) rfl
theorem x_130_48  : am_E d 130 Q (48, L, st, g) ↔ am_K d 130 Q (am_S 130 (.invokestatic 22) 48 L st g) := am_E_x (by decide +kernel : am_dc 130 48 = some (.invokestatic 22))
theorem x_130_51   : am_E d 130 Q (51, L, st, g) ↔ am_K d 130 Q (am_ldA 52 L st g 2) := am_E_aload_n (by decide +kernel : am_dc 130 51 = some (.aload_n 2)) rfl rfl
theorem x_130_52   : am_E d 130 Q (52, L, st, g) ↔ am_E d 130 Q (53, L, .int (2) :: st, g) := am_E_iconst (by decide +kernel : am_dc 130 52 = some (.iconst (2))) (by decide) rfl
theorem x_130_53   : am_E d 130 Q (53, L, .int x :: .ref a :: st, g) ↔ am_kv d 130 Q 54 L st g (am_iat .iaload g a x) := am_E_iaload (by decide +kernel : am_dc 130 53 = some (.iaload)) rfl
theorem x_130_54  : am_E d 130 Q (54, L, st, g) ↔ am_K d 130 Q (am_S 130 (.invokevirtual 37) 54 L st g) := am_E_x (by decide +kernel : am_dc 130 54 = some (.invokevirtual 37))
theorem x_130_57   : am_E d 130 Q (57, L, .int x :: st, g) ↔ am_E d 130 Q (am_cmp .eq x 0 64 60, L, st, g) := am_E_if (by decide +kernel : am_dc 130 57 = some (.ifCond .eq (7))) rfl rfl
theorem x_130_60   : am_E d 130 Q (60, L, st, g) ↔ am_E d 130 Q (61, L, .int (1) :: st, g) := am_E_iconst (by decide +kernel : am_dc 130 60 = some (.iconst (1))) (by decide) rfl
theorem x_130_61   : am_E d 130 Q (61, L, st, g) ↔ am_E d 130 Q (65, L, st, g) := am_E_gt (by decide +kernel : am_dc 130 61 = some (.goto (4))) rfl rfl
theorem x_130_64   : am_E d 130 Q (64, L, st, g) ↔ am_E d 130 Q (65, L, .int (0) :: st, g) := am_E_iconst (by decide +kernel : am_dc 130 64 = some (.iconst (0))) (by decide) rfl
theorem x_130_65  : am_E d 130 Q (65, L, [.int x], g) ↔ if am_ok (FieldType.boolean) (.int x) = true then Q (.inl (some (.int x))) g else False := am_E_ireturn (by decide +kernel : am_dc 130 65 = some (.ireturn)) (by decide +kernel)
theorem f_130_11 : am_fl 130 11 = some (8, 0) := by decide +kernel
theorem v_130_22 : am_iv 130 22 = some (0, 131, 2) := by decide +kernel
theorem v_130_37 : am_iv 130 37 = some (1, 151, 3) := by decide +kernel
theorem t_130 : am_t 130 = some (FieldType.boolean) := by decide +kernel
theorem h_130 : am_h 130 = [] := by decide +kernel
theorem m_130 : am_m 130 = 3 := by decide +kernel
end AMZ
