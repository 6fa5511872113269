/-! Rules of the machine, an instruction each. Written by program (wip/gen/genx.py). -/
section AMZ
variable {d : Nat} {Q : am_Ou → am_G → Prop} {L : am_Lo} {st : List Value} {g : am_G} {x y : Int32} {u w : Int64} {e1 : UInt32} {a : Nat} {v v1 : Value}
theorem x_131_0   : am_E d 131 Q (0, L, st, g) ↔ am_K d 131 Q (am_ldI 1 L st g 0) := am_E_iload_n (by decide +kernel : am_dc 131 0 = some (.iload_n 0)) rfl rfl
theorem x_131_1  : am_E d 131 Q (1, L, st, g) ↔ am_K d 131 Q (am_S 131 (.getstatic 18) 1 L st g) := am_E_x (by decide +kernel : am_dc 131 1 = some (.getstatic 18))
theorem x_131_4   : am_E d 131 Q (4, L, st, g) ↔ am_K d 131 Q (am_ldI 5 L st g 1) := am_E_iload_n (by decide +kernel : am_dc 131 4 = some (.iload_n 1)) rfl rfl
theorem x_131_5   : am_E d 131 Q (5, L, .int x :: .ref a :: st, g) ↔ am_kv d 131 Q 6 L st g (am_iat .iaload g a x) := am_E_iaload (by decide +kernel : am_dc 131 5 = some (.iaload)) rfl
theorem x_131_6   : am_E d 131 Q (6, L, .int y :: .int x :: st, g) ↔ if y = 0 then False else am_E d 131 Q (7, L, .int (x / y) :: st, g) := am_E_idiv (by decide +kernel : am_dc 131 6 = some (.idiv)) rfl
theorem x_131_7   : am_E d 131 Q (7, L, st, g) ↔ am_E d 131 Q (9, L, .int (6) :: st, g) := am_E_bipush (by decide +kernel : am_dc 131 7 = some (.bipush (6))) (by decide) rfl
theorem x_131_9   : am_E d 131 Q (9, L, .int y :: .int x :: st, g) ↔ if y = 0 then False else am_E d 131 Q (10, L, .int (x - x / y * y) :: st, g) := am_E_irem (by decide +kernel : am_dc 131 9 = some (.irem)) rfl
theorem x_131_10  : am_E d 131 Q (10, L, [.int x], g) ↔ if am_ok (FieldType.int) (.int x) = true then Q (.inl (some (.int x))) g else False := am_E_ireturn (by decide +kernel : am_dc 131 10 = some (.ireturn)) (by decide +kernel)
theorem s_131_18 : am_gs 131 18 = some 1 := by decide +kernel
theorem t_131 : am_t 131 = some (FieldType.int) := by decide +kernel
theorem h_131 : am_h 131 = [] := by decide +kernel
theorem m_131 : am_m 131 = 2 := by decide +kernel
theorem x_132_0   : am_E d 132 Q (0, L, st, g) ↔ am_K d 132 Q (am_ldI 1 L st g 0) := am_E_iload_n (by decide +kernel : am_dc 132 0 = some (.iload_n 0)) rfl rfl
theorem x_132_1   : am_E d 132 Q (1, L, st, g) ↔ am_K d 132 Q (am_ldI 2 L st g 2) := am_E_iload_n (by decide +kernel : am_dc 132 1 = some (.iload_n 2)) rfl rfl
theorem x_132_2   : am_E d 132 Q (2, L, st, g) ↔ am_K d 132 Q (am_ldI 3 L st g 0) := am_E_iload_n (by decide +kernel : am_dc 132 2 = some (.iload_n 0)) rfl rfl
theorem x_132_3   : am_E d 132 Q (3, L, st, g) ↔ am_K d 132 Q (am_ldI 4 L st g 1) := am_E_iload_n (by decide +kernel : am_dc 132 3 = some (.iload_n 1)) rfl rfl
theorem x_132_4  : am_E d 132 Q (4, L, st, g) ↔ am_K d 132 Q (am_S 132 (.invokestatic 22) 4 L st g) := am_E_x (by decide +kernel : am_dc 132 4 = some (.invokestatic 22))
theorem x_132_7   : am_E d 132 Q (7, L, .int y :: .int x :: st, g) ↔ am_E d 132 Q (8, L, .int (x - y) :: st, g) := am_E_isub (by decide +kernel : am_dc 132 7 = some (.isub)) rfl
theorem x_132_8  : am_E d 132 Q (8, L, st, g) ↔ am_K d 132 Q (am_S 132 (.getstatic 18) 8 L st g) := am_E_x (by decide +kernel : am_dc 132 8 = some (.getstatic 18))
theorem x_132_11   : am_E d 132 Q (11, L, st, g) ↔ am_K d 132 Q (am_ldI 12 L st g 1) := am_E_iload_n (by decide +kernel : am_dc 132 11 = some (.iload_n 1)) rfl rfl
theorem x_132_12   : am_E d 132 Q (12, L, .int x :: .ref a :: st, g) ↔ am_kv d 132 Q 13 L st g (am_iat .iaload g a x) := am_E_iaload (by decide +kernel : am_dc 132 12 = some (.iaload)) rfl
theorem x_132_13   : am_E d 132 Q (13, L, .int y :: .int x :: st, g) ↔ am_E d 132 Q (14, L, .int (x * y) :: st, g) := am_E_imul (by decide +kernel : am_dc 132 13 = some (.imul)) rfl
theorem x_132_14   : am_E d 132 Q (14, L, .int y :: .int x :: st, g) ↔ am_E d 132 Q (15, L, .int (x + y) :: st, g) := am_E_iadd (by decide +kernel : am_dc 132 14 = some (.iadd)) rfl
theorem x_132_15  : am_E d 132 Q (15, L, [.int x], g) ↔ if am_ok (FieldType.int) (.int x) = true then Q (.inl (some (.int x))) g else False := am_E_ireturn (by decide +kernel : am_dc 132 15 = some (.ireturn)) (by decide +kernel)
theorem v_132_22 : am_iv 132 22 = some (0, 131, 2) := by decide +kernel
theorem s_132_18 : am_gs 132 18 = some 1 := by decide +kernel
theorem t_132 : am_t 132 = some (FieldType.int) := by decide +kernel
theorem h_132 : am_h 132 = [] := by decide +kernel
theorem m_132 : am_m 132 = 3 := by decide +kernel
theorem x_133_0   : am_E d 133 Q (0, L, st, g) ↔ am_K d 133 Q (am_ldA 1 L st g 0) := am_E_aload_n (by decide +kernel : am_dc 133 0 = some (.aload_n 0)) rfl rfl
theorem x_133_1  : am_E d 133 Q (1, L, st, g) ↔ am_K d 133 Q (am_S 133 (.invokespecial 3) 1 L st g) := am_E_x (by decide +kernel : am_dc 133 1 = some (.invokespecial 3))
theorem x_133_4   : am_E d 133 Q (4, L, st, g) ↔ am_K d 133 Q (am_ldA 5 L st g 0) := am_E_aload_n (by decide +kernel : am_dc 133 4 = some (.aload_n 0)) rfl rfl
theorem x_133_5   : am_E d 133 Q (5, L, st, g) ↔ am_E d 133 Q (8, L, .int (216) :: st, g) := am_E_sipush (by decide +kernel : am_dc 133 5 = some (.sipush (216))) (by decide) rfl
theorem x_133_8  : am_E d 133 Q (8, L, st, g) ↔ am_K d 133 Q (am_S 133 (.newarray .int) 8 L st g) := am_E_x (by decide +kernel : am_dc 133 8 = some (.newarray .int))
theorem x_133_10   (hok : (am_ok (am_ft 9 3).1 v && (!(am_ft 9 3).2 || (am_ini 133 && am_co 9 == am_o 133)) && decide (9 < 13)) = true) : am_E d 133 Q (10, L, v :: .ref a :: st, g) ↔ am_kg d 133 Q 13 L st (am_pf g a 9 3 v) := am_E_putfield (by decide +kernel : am_dc 133 10 = some (.putfield 9)) (by decide +kernel) rfl hok
theorem x_133_13   : am_E d 133 Q (13, L, st, g) ↔ am_K d 133 Q (am_ldA 14 L st g 0) := am_E_aload_n (by decide +kernel : am_dc 133 13 = some (.aload_n 0)) rfl rfl
theorem x_133_14   : am_E d 133 Q (14, L, st, g) ↔ am_K d 133 Q (am_ldA 15 L st g 1) := am_E_aload_n (by decide +kernel : am_dc 133 14 = some (.aload_n 1)) rfl rfl
theorem x_133_15   (hok : (am_ok (am_ft 9 0).1 v && (!(am_ft 9 0).2 || (am_ini 133 && am_co 9 == am_o 133)) && decide (9 < 13)) = true) : am_E d 133 Q (15, L, v :: .ref a :: st, g) ↔ am_kg d 133 Q 18 L st (am_pf g a 9 0 v) := am_E_putfield (by decide +kernel : am_dc 133 15 = some (.putfield 15)) (by decide +kernel) rfl hok
theorem x_133_18   : am_E d 133 Q (18, L, st, g) ↔ am_K d 133 Q (am_ldA 19 L st g 0) := am_E_aload_n (by decide +kernel : am_dc 133 18 = some (.aload_n 0)) rfl rfl
theorem x_133_19   : am_E d 133 Q (19, L, st, g) ↔ am_K d 133 Q (am_ldA 20 L st g 2) := am_E_aload_n (by decide +kernel : am_dc 133 19 = some (.aload_n 2)) rfl rfl
theorem x_133_20   (hok : (am_ok (am_ft 9 1).1 v && (!(am_ft 9 1).2 || (am_ini 133 && am_co 9 == am_o 133)) && decide (9 < 13)) = true) : am_E d 133 Q (20, L, v :: .ref a :: st, g) ↔ am_kg d 133 Q 23 L st (am_pf g a 9 1 v) := am_E_putfield (by decide +kernel : am_dc 133 20 = some (.putfield 19)) (by decide +kernel) rfl hok
theorem x_133_23   : am_E d 133 Q (23, L, st, g) ↔ am_K d 133 Q (am_ldA 24 L st g 0) := am_E_aload_n (by decide +kernel : am_dc 133 23 = some (.aload_n 0)) rfl rfl
theorem x_133_24   : am_E d 133 Q (24, L, st, g) ↔ am_K d 133 Q (am_ldA 25 L st g 3) := am_E_aload_n (by decide +kernel : am_dc 133 24 = some (.aload_n 3)) rfl rfl
theorem x_133_25   (hok : (am_ok (am_ft 9 2).1 v && (!(am_ft 9 2).2 || (am_ini 133 && am_co 9 == am_o 133)) && decide (9 < 13)) = true) : am_E d 133 Q (25, L, v :: .ref a :: st, g) ↔ am_kg d 133 Q 28 L st (am_pf g a 9 2 v) := am_E_putfield (by decide +kernel : am_dc 133 25 = some (.putfield 23)) (by decide +kernel) rfl hok
theorem x_133_28  : am_E d 133 Q (28, L, [], g) ↔ Q (.inl none) g := am_E_return (by decide +kernel : am_dc 133 28 = some (.return_)) (by decide +kernel)
theorem v_133_3 : am_iv 133 3 = some (3, 0, 1) := by decide +kernel
theorem f_133_9 : am_fl 133 9 = some (9, 3) := by decide +kernel
theorem f_133_15 : am_fl 133 15 = some (9, 0) := by decide +kernel
theorem f_133_19 : am_fl 133 19 = some (9, 1) := by decide +kernel
theorem f_133_23 : am_fl 133 23 = some (9, 2) := by decide +kernel
theorem t_133 : am_t 133 = none := by decide +kernel
theorem h_133 : am_h 133 = [] := by decide +kernel
theorem m_133 : am_m 133 = 4 := by decide +kernel
theorem x_134_0   : am_E d 134 Q (0, L, st, g) ↔ am_K d 134 Q (am_ldA 1 L st g 0) := am_E_aload_n (by decide +kernel : am_dc 134 0 = some (.aload_n 0)) rfl rfl
theorem x_134_1   : am_E d 134 Q (1, L, st, g) ↔ am_K d 134 Q (am_ldA 2 L st g 2) := am_E_aload_n (by decide +kernel : am_dc 134 1 = some (.aload_n 2)) rfl rfl
theorem x_134_2  : am_E d 134 Q (2, L, st, g) ↔ am_K d 134 Q (am_S 134 (.invokevirtual 27) 2 L st g) := am_E_x (by decide +kernel : am_dc 134 2 = some (.invokevirtual 27))
theorem x_134_5   : am_E d 134 Q (5, L, st, g) ↔ am_K d 134 Q (am_ldA 6 L st g 0) := am_E_aload_n (by decide +kernel : am_dc 134 5 = some (.aload_n 0)) rfl rfl
theorem x_134_6   : am_E d 134 Q (6, L, .ref a :: st, g) ↔ am_kv d 134 Q 9 L st g (am_gf g a 9 5) := am_E_getfield (by decide +kernel : am_dc 134 6 = some (.getfield 31)) (by decide +kernel) rfl
theorem x_134_9   : am_E d 134 Q (9, L, st, g) ↔ am_K d 134 Q (am_ldI 10 L st g 3) := am_E_iload_n (by decide +kernel : am_dc 134 9 = some (.iload_n 3)) rfl rfl
theorem x_134_10   : am_E d 134 Q (10, L, .int y :: .int x :: st, g) ↔ am_E d 134 Q (am_cmp .gt x y 41 13, L, st, g) := am_E_ic (by decide +kernel : am_dc 134 10 = some (.if_icmp .gt (31))) rfl rfl
theorem x_134_13   : am_E d 134 Q (13, L, st, g) ↔ am_K d 134 Q (am_ldA 14 L st g 0) := am_E_aload_n (by decide +kernel : am_dc 134 13 = some (.aload_n 0)) rfl rfl
theorem x_134_14   : am_E d 134 Q (14, L, st, g) ↔ am_K d 134 Q (am_ldA 15 L st g 2) := am_E_aload_n (by decide +kernel : am_dc 134 14 = some (.aload_n 2)) rfl rfl
theorem x_134_15  : am_E d 134 Q (15, L, st, g) ↔ am_K d 134 Q (am_S 134 (.invokevirtual 35) 15 L st g) := am_E_x (by decide +kernel : am_dc 134 15 = some (.invokevirtual 35))
theorem x_134_18   : am_E d 134 Q (18, L, .int x :: st, g) ↔ am_E d 134 Q (am_cmp .ne x 0 41 21, L, st, g) := am_E_if (by decide +kernel : am_dc 134 18 = some (.ifCond .ne (23))) rfl rfl
theorem x_134_21   : am_E d 134 Q (21, L, st, g) ↔ am_K d 134 Q (am_ldA 22 L st g 0) := am_E_aload_n (by decide +kernel : am_dc 134 21 = some (.aload_n 0)) rfl rfl
theorem x_134_22   : am_E d 134 Q (22, L, st, g) ↔ am_K d 134 Q (am_ldA 23 L st g 2) := am_E_aload_n (by decide +kernel : am_dc 134 22 = some (.aload_n 2)) rfl rfl
theorem x_134_23  : am_E d 134 Q (23, L, st, g) ↔ am_K d 134 Q (am_S 134 (.invokevirtual 39) 23 L st g) := am_E_x (by decide +kernel : am_dc 134 23 = some (.invokevirtual 39))
theorem x_134_26   : am_E d 134 Q (26, L, .int x :: st, g) ↔ am_E d 134 Q (am_cmp .eq x 0 41 29, L, st, g) := am_E_if (by decide +kernel : am_dc 134 26 = some (.ifCond .eq (15))) rfl rfl
theorem x_134_29   : am_E d 134 Q (29, L, st, g) ↔ am_K d 134 Q (am_ldA 30 L st g 0) := am_E_aload_n (by decide +kernel : am_dc 134 29 = some (.aload_n 0)) rfl rfl
theorem x_134_30   : am_E d 134 Q (30, L, st, g) ↔ am_K d 134 Q (am_ldI 31 L st g 1) := am_E_iload_n (by decide +kernel : am_dc 134 30 = some (.iload_n 1)) rfl rfl
theorem x_134_31  : am_E d 134 Q (31, L, st, g) ↔ am_K d 134 Q (am_S 134 (.invokevirtual 42) 31 L st g) := am_E_x (by decide +kernel : am_dc 134 31 = some (.invokevirtual 42))
theorem x_134_34   : am_E d 134 Q (34, L, .int x :: st, g) ↔ am_E d 134 Q (am_cmp .eq x 0 41 37, L, st, g) := am_E_if (by decide +kernel : am_dc 134 34 = some (.ifCond .eq (7))) rfl rfl
theorem x_134_37   : am_E d 134 Q (37, L, st, g) ↔ am_E d 134 Q (38, L, .int (1) :: st, g) := am_E_iconst (by decide +kernel : am_dc 134 37 = some (.iconst (1))) (by decide) rfl
theorem x_134_38   : am_E d 134 Q (38, L, st, g) ↔ am_E d 134 Q (42, L, st, g) := am_E_gt (by decide +kernel : am_dc 134 38 = some (.goto (4))) rfl rfl
theorem x_134_41   : am_E d 134 Q (41, L, st, g) ↔ am_E d 134 Q (42, L, .int (0) :: st, g) := am_E_iconst (by decide +kernel : am_dc 134 41 = some (.iconst (0))) (by decide) rfl
theorem x_134_42  : am_E d 134 Q (42, L, [.int x], g) ↔ if am_ok (FieldType.boolean) (.int x) = true then Q (.inl (some (.int x))) g else False := am_E_ireturn (by decide +kernel : am_dc 134 42 = some (.ireturn)) (by decide +kernel)
theorem v_134_27 : am_iv 134 27 = some (1, 136, 2) := by decide +kernel
theorem f_134_31 : am_fl 134 31 = some (9, 5) := by decide +kernel
theorem v_134_35 : am_iv 134 35 = some (1, 137, 2) := by decide +kernel
theorem v_134_39 : am_iv 134 39 = some (1, 138, 2) := by decide +kernel
theorem v_134_42 : am_iv 134 42 = some (1, 135, 2) := by decide +kernel
theorem t_134 : am_t 134 = some (FieldType.boolean) := by decide +kernel
theorem h_134 : am_h 134 = [] := by decide +kernel
theorem m_134 : am_m 134 = 4 := by decide +kernel
theorem x_135_0   : am_E d 135 Q (0, L, st, g) ↔ am_K d 135 Q (am_ldA 1 L st g 0) := am_E_aload_n (by decide +kernel : am_dc 135 0 = some (.aload_n 0)) rfl rfl
theorem x_135_1   : am_E d 135 Q (1, L, st, g) ↔ am_E d 135 Q (2, L, .long (0) :: st, g) := am_E_lconst (by decide +kernel : am_dc 135 1 = some (.lconst 0)) (by decide) rfl
theorem x_135_2   (hok : (am_ok (am_ft 9 4).1 v && (!(am_ft 9 4).2 || (am_ini 135 && am_co 9 == am_o 135)) && decide (9 < 13)) = true) : am_E d 135 Q (2, L, v :: .ref a :: st, g) ↔ am_kg d 135 Q 5 L st (am_pf g a 9 4 v) := am_E_putfield (by decide +kernel : am_dc 135 2 = some (.putfield 50)) (by decide +kernel) rfl hok
theorem x_135_5   : am_E d 135 Q (5, L, st, g) ↔ am_E d 135 Q (6, L, .int (0) :: st, g) := am_E_iconst (by decide +kernel : am_dc 135 5 = some (.iconst (0))) (by decide) rfl
theorem x_135_6   : am_E d 135 Q (6, L, st, g) ↔ am_K d 135 Q (am_stI 7 L st g 2) := am_E_istore_n (by decide +kernel : am_dc 135 6 = some (.istore_n 2)) rfl rfl
theorem x_135_7   : am_E d 135 Q (7, L, st, g) ↔ am_K d 135 Q (am_ldI 8 L st g 2) := am_E_iload_n (by decide +kernel : am_dc 135 7 = some (.iload_n 2)) rfl rfl
theorem x_135_8   : am_E d 135 Q (8, L, st, g) ↔ am_K d 135 Q (am_ldA 9 L st g 0) := am_E_aload_n (by decide +kernel : am_dc 135 8 = some (.aload_n 0)) rfl rfl
theorem x_135_9   : am_E d 135 Q (9, L, .ref a :: st, g) ↔ am_kv d 135 Q 12 L st g (am_gf g a 9 5) := am_E_getfield (by decide +kernel : am_dc 135 9 = some (.getfield 31)) (by decide +kernel) rfl
theorem x_135_12   : am_E d 135 Q (12, L, .int y :: .int x :: st, g) ↔ am_E d 135 Q (am_cmp .ge x y 51 15, L, st, g) := am_E_ic (by decide +kernel : am_dc 135 12 = some (.if_icmp .ge (39))) rfl rfl
theorem x_135_15   : am_E d 135 Q (15, L, st, g) ↔ am_K d 135 Q (am_ldA 16 L st g 0) := am_E_aload_n (by decide +kernel : am_dc 135 15 = some (.aload_n 0)) rfl rfl
theorem x_135_16   : am_E d 135 Q (16, L, st, g) ↔ am_K d 135 Q (am_ldI 17 L st g 1) := am_E_iload_n (by decide +kernel : am_dc 135 16 = some (.iload_n 1)) rfl rfl
theorem x_135_17   : am_E d 135 Q (17, L, st, g) ↔ am_K d 135 Q (am_ldA 18 L st g 0) := am_E_aload_n (by decide +kernel : am_dc 135 17 = some (.aload_n 0)) rfl rfl
theorem x_135_18   : am_E d 135 Q (18, L, .ref a :: st, g) ↔ am_kv d 135 Q 21 L st g (am_gf g a 9 3) := am_E_getfield (by decide +kernel : am_dc 135 18 = some (.getfield 9)) (by decide +kernel) rfl
theorem x_135_21   : am_E d 135 Q (21, L, st, g) ↔ am_K d 135 Q (am_ldI 22 L st g 2) := am_E_iload_n (by decide +kernel : am_dc 135 21 = some (.iload_n 2)) rfl rfl
theorem x_135_22   : am_E d 135 Q (22, L, .int x :: .ref a :: st, g) ↔ am_kv d 135 Q 23 L st g (am_iat .iaload g a x) := am_E_iaload (by decide +kernel : am_dc 135 22 = some (.iaload)) rfl
theorem x_135_23  : am_E d 135 Q (23, L, st, g) ↔ am_K d 135 Q (am_S 135 (.invokevirtual 46) 23 L st g) := am_E_x (by decide +kernel : am_dc 135 23 = some (.invokevirtual 46))
theorem x_135_26   : am_E d 135 Q (26, L, st, g) ↔ am_K d 135 Q (am_stL 27 L st g 3) := am_E_lstore_n (by decide +kernel : am_dc 135 26 = some (.lstore_n 3)) rfl rfl
theorem x_135_27   : am_E d 135 Q (27, L, st, g) ↔ am_K d 135 Q (am_ldL 28 L st g 3) := am_E_lload_n (by decide +kernel : am_dc 135 27 = some (.lload_n 3)) rfl rfl
theorem x_135_28   : am_E d 135 Q (28, L, st, g) ↔ am_E d 135 Q (29, L, .long (0) :: st, g) := am_E_lconst (by decide +kernel : am_dc 135 28 = some (.lconst 0)) (by decide) rfl
theorem x_135_29   : am_E d 135 Q (29, L, .long w :: .long u :: st, g) ↔ am_E d 135 Q (30, L, .int (lg_cmp u w) :: st, g) := am_E_lcmp (by decide +kernel : am_dc 135 29 = some (.lcmp)) rfl
theorem x_135_30   : am_E d 135 Q (30, L, .int x :: st, g) ↔ am_E d 135 Q (am_cmp .ge x 0 35 33, L, st, g) := am_E_if (by decide +kernel : am_dc 135 30 = some (.ifCond .ge (5))) rfl rfl
theorem x_135_33   : am_E d 135 Q (33, L, st, g) ↔ am_E d 135 Q (34, L, .int (0) :: st, g) := am_E_iconst (by decide +kernel : am_dc 135 33 = some (.iconst (0))) (by decide) rfl
theorem x_135_34  : am_E d 135 Q (34, L, [.int x], g) ↔ if am_ok (FieldType.boolean) (.int x) = true then Q (.inl (some (.int x))) g else False := am_E_ireturn (by decide +kernel : am_dc 135 34 = some (.ireturn)) (by decide +kernel)
theorem x_135_35   : am_E d 135 Q (35, L, st, g) ↔ am_K d 135 Q (am_ldA 36 L st g 0) := am_E_aload_n (by decide +kernel : am_dc 135 35 = some (.aload_n 0)) rfl rfl
theorem x_135_36   : am_E d 135 Q (36, L, v :: st, g) ↔ if v.category = 1 then am_E d 135 Q (37, L, v :: v :: st, g) else False := am_E_dup (by decide +kernel : am_dc 135 36 = some (.dup)) rfl
theorem x_135_37   : am_E d 135 Q (37, L, .ref a :: st, g) ↔ am_kv d 135 Q 40 L st g (am_gf g a 9 4) := am_E_getfield (by decide +kernel : am_dc 135 37 = some (.getfield 50)) (by decide +kernel) rfl
theorem x_135_40   : am_E d 135 Q (40, L, st, g) ↔ am_K d 135 Q (am_ldL 41 L st g 3) := am_E_lload_n (by decide +kernel : am_dc 135 40 = some (.lload_n 3)) rfl rfl
theorem x_135_41   : am_E d 135 Q (41, L, .long w :: .long u :: st, g) ↔ am_E d 135 Q (42, L, .long (u + w) :: st, g) := am_E_ladd (by decide +kernel : am_dc 135 41 = some (.ladd)) rfl
theorem x_135_42   (hok : (am_ok (am_ft 9 4).1 v && (!(am_ft 9 4).2 || (am_ini 135 && am_co 9 == am_o 135)) && decide (9 < 13)) = true) : am_E d 135 Q (42, L, v :: .ref a :: st, g) ↔ am_kg d 135 Q 45 L st (am_pf g a 9 4 v) := am_E_putfield (by decide +kernel : am_dc 135 42 = some (.putfield 50)) (by decide +kernel) rfl hok
theorem x_135_45   (hk : L.getD 2 none = some (.int x)) (hl : 2 < L.length) : am_E d 135 Q (45, L, st, g) ↔ am_E d 135 Q (48, am_s1 L 2 (.int (x + (1))), st, g) := am_E_iinc (by decide +kernel : am_dc 135 45 = some (.iinc 2 (1))) (by decide) rfl hk hl
theorem x_135_48   : am_E d 135 Q (48, L, st, g) ↔ am_E d 135 Q (7, L, st, g) := am_E_gt (by decide +kernel : am_dc 135 48 = some (.goto (-41))) rfl rfl
theorem x_135_51   : am_E d 135 Q (51, L, st, g) ↔ am_K d 135 Q (am_ldA 52 L st g 0) := am_E_aload_n (by decide +kernel : am_dc 135 51 = some (.aload_n 0)) rfl rfl
theorem x_135_52   : am_E d 135 Q (52, L, .ref a :: st, g) ↔ am_kv d 135 Q 55 L st g (am_gf g a 9 4) := am_E_getfield (by decide +kernel : am_dc 135 52 = some (.getfield 50)) (by decide +kernel) rfl
theorem x_135_55  : am_E d 135 Q (55, L, st, g) ↔ am_K d 135 Q (am_S 135 (.invokestatic 101) 55 L st g) := am_E_x (by decide +kernel : am_dc 135 55 = some (.invokestatic 101))
theorem x_135_58  : am_E d 135 Q (58, L, [.int x], g) ↔ if am_ok (FieldType.boolean) (.int x) = true then Q (.inl (some (.int x))) g else False := am_E_ireturn (by decide +kernel : am_dc 135 58 = some (.ireturn)) (by decide +kernel)
theorem f_135_50 : am_fl 135 50 = some (9, 4) := by decide +kernel
theorem f_135_31 : am_fl 135 31 = some (9, 5) := by decide +kernel
theorem f_135_9 : am_fl 135 9 = some (9, 3) := by decide +kernel
theorem v_135_46 : am_iv 135 46 = some (1, 141, 3) := by decide +kernel
theorem v_135_101 : am_iv 135 101 = some (0, 54, 1) := by decide +kernel
theorem t_135 : am_t 135 = some (FieldType.boolean) := by decide +kernel
theorem h_135 : am_h 135 = [] := by decide +kernel
theorem m_135 : am_m 135 = 5 := by decide +kernel
theorem x_136_0   : am_E d 136 Q (0, L, st, g) ↔ am_K d 136 Q (am_ldA 1 L st g 0) := am_E_aload_n (by decide +kernel : am_dc 136 0 = some (.aload_n 0)) rfl rfl
theorem x_136_1   : am_E d 136 Q (1, L, st, g) ↔ am_E d 136 Q (2, L, .int (0) :: st, g) := am_E_iconst (by decide +kernel : am_dc 136 1 = some (.iconst (0))) (by decide) rfl
theorem x_136_2   (hok : (am_ok (am_ft 9 5).1 v && (!(am_ft 9 5).2 || (am_ini 136 && am_co 9 == am_o 136)) && decide (9 < 13)) = true) : am_E d 136 Q (2, L, v :: .ref a :: st, g) ↔ am_kg d 136 Q 5 L st (am_pf g a 9 5 v) := am_E_putfield (by decide +kernel : am_dc 136 2 = some (.putfield 31)) (by decide +kernel) rfl hok
theorem x_136_5   : am_E d 136 Q (5, L, st, g) ↔ am_E d 136 Q (6, L, .int (0) :: st, g) := am_E_iconst (by decide +kernel : am_dc 136 5 = some (.iconst (0))) (by decide) rfl
theorem x_136_6   : am_E d 136 Q (6, L, st, g) ↔ am_K d 136 Q (am_stI 7 L st g 2) := am_E_istore_n (by decide +kernel : am_dc 136 6 = some (.istore_n 2)) rfl rfl
theorem x_136_7   : am_E d 136 Q (7, L, st, g) ↔ am_K d 136 Q (am_ldI 8 L st g 2) := am_E_iload_n (by decide +kernel : am_dc 136 7 = some (.iload_n 2)) rfl rfl
theorem x_136_8   : am_E d 136 Q (8, L, st, g) ↔ am_E d 136 Q (11, L, .int (216) :: st, g) := am_E_sipush (by decide +kernel : am_dc 136 8 = some (.sipush (216))) (by decide) rfl
theorem x_136_11   : am_E d 136 Q (11, L, .int y :: .int x :: st, g) ↔ am_E d 136 Q (am_cmp .ge x y 62 14, L, st, g) := am_E_ic (by decide +kernel : am_dc 136 11 = some (.if_icmp .ge (51))) rfl rfl
theorem x_136_14   : am_E d 136 Q (14, L, st, g) ↔ am_K d 136 Q (am_ldA 15 L st g 0) := am_E_aload_n (by decide +kernel : am_dc 136 14 = some (.aload_n 0)) rfl rfl
theorem x_136_15   : am_E d 136 Q (15, L, st, g) ↔ am_K d 136 Q (am_ldI 16 L st g 2) := am_E_iload_n (by decide +kernel : am_dc 136 15 = some (.iload_n 2)) rfl rfl
theorem x_136_16  : am_E d 136 Q (16, L, st, g) ↔ am_K d 136 Q (am_S 136 (.invokevirtual 60) 16 L st g) := am_E_x (by decide +kernel : am_dc 136 16 = some (.invokevirtual 60))
theorem x_136_19   : am_E d 136 Q (19, L, st, g) ↔ am_K d 136 Q (am_stI 20 L st g 3) := am_E_istore_n (by decide +kernel : am_dc 136 19 = some (.istore_n 3)) rfl rfl
theorem x_136_20   : am_E d 136 Q (20, L, st, g) ↔ am_K d 136 Q (am_ldI 21 L st g 3) := am_E_iload_n (by decide +kernel : am_dc 136 20 = some (.iload_n 3)) rfl rfl
theorem x_136_21   : am_E d 136 Q (21, L, .int x :: st, g) ↔ am_E d 136 Q (am_cmp .lt x 0 56 24, L, st, g) := am_E_if (by decide +kernel : am_dc 136 21 = some (.ifCond .lt (35))) rfl rfl
theorem x_136_24   : am_E d 136 Q (24, L, st, g) ↔ am_K d 136 Q (am_ldA 25 L st g 0) := am_E_aload_n (by decide +kernel : am_dc 136 24 = some (.aload_n 0)) rfl rfl
theorem x_136_25   : am_E d 136 Q (25, L, .ref a :: st, g) ↔ am_kv d 136 Q 28 L st g (am_gf g a 9 0) := am_E_getfield (by decide +kernel : am_dc 136 25 = some (.getfield 15)) (by decide +kernel) rfl
theorem x_136_28   : am_E d 136 Q (28, L, st, g) ↔ am_K d 136 Q (am_ldI 29 L st g 3) := am_E_iload_n (by decide +kernel : am_dc 136 28 = some (.iload_n 3)) rfl rfl
theorem x_136_29   : am_E d 136 Q (29, L, st, g) ↔ am_K d 136 Q (am_ldA 30 L st g 1) := am_E_aload_n (by decide +kernel : am_dc 136 29 = some (.aload_n 1)) rfl rfl
theorem x_136_30  : am_E d 136 Q (30, L, st, g) ↔ am_K d 136 Q (am_S 136 (.invokevirtual 64) 30 L st g) := am_E_x (by decide +kernel : am_dc 136 30 = some (.invokevirtual 64))
theorem x_136_33   : am_E d 136 Q (33, L, .int x :: st, g) ↔ am_E d 136 Q (am_cmp .eq x 0 56 36, L, st, g) := am_E_if (by decide +kernel : am_dc 136 33 = some (.ifCond .eq (23))) rfl rfl
theorem x_136_36   : am_E d 136 Q (36, L, st, g) ↔ am_K d 136 Q (am_ldA 37 L st g 0) := am_E_aload_n (by decide +kernel : am_dc 136 36 = some (.aload_n 0)) rfl rfl
theorem x_136_37   : am_E d 136 Q (37, L, .ref a :: st, g) ↔ am_kv d 136 Q 40 L st g (am_gf g a 9 3) := am_E_getfield (by decide +kernel : am_dc 136 37 = some (.getfield 9)) (by decide +kernel) rfl
theorem x_136_40   : am_E d 136 Q (40, L, st, g) ↔ am_K d 136 Q (am_ldA 41 L st g 0) := am_E_aload_n (by decide +kernel : am_dc 136 40 = some (.aload_n 0)) rfl rfl
theorem x_136_41   : am_E d 136 Q (41, L, .ref a :: st, g) ↔ am_kv d 136 Q 44 L st g (am_gf g a 9 5) := am_E_getfield (by decide +kernel : am_dc 136 41 = some (.getfield 31)) (by decide +kernel) rfl
theorem x_136_44   : am_E d 136 Q (44, L, st, g) ↔ am_K d 136 Q (am_ldI 45 L st g 3) := am_E_iload_n (by decide +kernel : am_dc 136 44 = some (.iload_n 3)) rfl rfl
theorem x_136_45   : am_E d 136 Q (45, L, v :: .int x :: .ref a :: st, g) ↔ am_kg d 136 Q 46 L st (am_sat .iastore g a x v) := am_E_iastore (by decide +kernel : am_dc 136 45 = some (.iastore)) rfl
theorem x_136_46   : am_E d 136 Q (46, L, st, g) ↔ am_K d 136 Q (am_ldA 47 L st g 0) := am_E_aload_n (by decide +kernel : am_dc 136 46 = some (.aload_n 0)) rfl rfl
theorem x_136_47   : am_E d 136 Q (47, L, v :: st, g) ↔ if v.category = 1 then am_E d 136 Q (48, L, v :: v :: st, g) else False := am_E_dup (by decide +kernel : am_dc 136 47 = some (.dup)) rfl
theorem x_136_48   : am_E d 136 Q (48, L, .ref a :: st, g) ↔ am_kv d 136 Q 51 L st g (am_gf g a 9 5) := am_E_getfield (by decide +kernel : am_dc 136 48 = some (.getfield 31)) (by decide +kernel) rfl
theorem x_136_51   : am_E d 136 Q (51, L, st, g) ↔ am_E d 136 Q (52, L, .int (1) :: st, g) := am_E_iconst (by decide +kernel : am_dc 136 51 = some (.iconst (1))) (by decide) rfl
theorem x_136_52   : am_E d 136 Q (52, L, .int y :: .int x :: st, g) ↔ am_E d 136 Q (53, L, .int (x + y) :: st, g) := am_E_iadd (by decide +kernel : am_dc 136 52 = some (.iadd)) rfl
theorem x_136_53   (hok : (am_ok (am_ft 9 5).1 v && (!(am_ft 9 5).2 || (am_ini 136 && am_co 9 == am_o 136)) && decide (9 < 13)) = true) : am_E d 136 Q (53, L, v :: .ref a :: st, g) ↔ am_kg d 136 Q 56 L st (am_pf g a 9 5 v) := am_E_putfield (by decide +kernel : am_dc 136 53 = some (.putfield 31)) (by decide +kernel) rfl hok
theorem x_136_56   (hk : L.getD 2 none = some (.int x)) (hl : 2 < L.length) : am_E d 136 Q (56, L, st, g) ↔ am_E d 136 Q (59, am_s1 L 2 (.int (x + (1))), st, g) := am_E_iinc (by decide +kernel : am_dc 136 56 = some (.iinc 2 (1))) (by decide) rfl hk hl
theorem x_136_59   : am_E d 136 Q (59, L, st, g) ↔ am_E d 136 Q (7, L, st, g) := am_E_gt (by decide +kernel : am_dc 136 59 = some (.goto (-52))) rfl rfl
theorem x_136_62  : am_E d 136 Q (62, L, [], g) ↔ Q (.inl none) g := am_E_return (by decide +kernel : am_dc 136 62 = some (.return_)) (by decide +kernel)
theorem f_136_31 : am_fl 136 31 = some (9, 5) := by decide +kernel
theorem v_136_60 : am_iv 136 60 = some (1, 139, 2) := by decide +kernel
theorem f_136_15 : am_fl 136 15 = some (9, 0) := by decide +kernel
theorem v_136_64 : am_iv 136 64 = some (1, 130, 3) := by decide +kernel
theorem f_136_9 : am_fl 136 9 = some (9, 3) := by decide +kernel
theorem t_136 : am_t 136 = none := by decide +kernel
theorem h_136 : am_h 136 = [] := by decide +kernel
theorem m_136 : am_m 136 = 4 := by decide +kernel
theorem x_137_0   : am_E d 137 Q (0, L, st, g) ↔ am_E d 137 Q (1, L, .int (0) :: st, g) := am_E_iconst (by decide +kernel : am_dc 137 0 = some (.iconst (0))) (by decide) rfl
theorem x_137_1   : am_E d 137 Q (1, L, st, g) ↔ am_K d 137 Q (am_stI 2 L st g 2) := am_E_istore_n (by decide +kernel : am_dc 137 1 = some (.istore_n 2)) rfl rfl
theorem x_137_2   : am_E d 137 Q (2, L, st, g) ↔ am_K d 137 Q (am_ldI 3 L st g 2) := am_E_iload_n (by decide +kernel : am_dc 137 2 = some (.iload_n 2)) rfl rfl
theorem x_137_3   : am_E d 137 Q (3, L, st, g) ↔ am_E d 137 Q (6, L, .int (216) :: st, g) := am_E_sipush (by decide +kernel : am_dc 137 3 = some (.sipush (216))) (by decide) rfl
theorem x_137_6   : am_E d 137 Q (6, L, .int y :: .int x :: st, g) ↔ am_E d 137 Q (am_cmp .ge x y 44 9, L, st, g) := am_E_ic (by decide +kernel : am_dc 137 6 = some (.if_icmp .ge (38))) rfl rfl
theorem x_137_9   : am_E d 137 Q (9, L, st, g) ↔ am_K d 137 Q (am_ldA 10 L st g 0) := am_E_aload_n (by decide +kernel : am_dc 137 9 = some (.aload_n 0)) rfl rfl
theorem x_137_10   : am_E d 137 Q (10, L, .ref a :: st, g) ↔ am_kv d 137 Q 13 L st g (am_gf g a 9 0) := am_E_getfield (by decide +kernel : am_dc 137 10 = some (.getfield 15)) (by decide +kernel) rfl
theorem x_137_13   : am_E d 137 Q (13, L, st, g) ↔ am_K d 137 Q (am_ldI 14 L st g 2) := am_E_iload_n (by decide +kernel : am_dc 137 13 = some (.iload_n 2)) rfl rfl
theorem x_137_14   : am_E d 137 Q (14, L, st, g) ↔ am_K d 137 Q (am_ldA 15 L st g 1) := am_E_aload_n (by decide +kernel : am_dc 137 14 = some (.aload_n 1)) rfl rfl
theorem x_137_15  : am_E d 137 Q (15, L, st, g) ↔ am_K d 137 Q (am_S 137 (.invokevirtual 64) 15 L st g) := am_E_x (by decide +kernel : am_dc 137 15 = some (.invokevirtual 64))
theorem x_137_18   : am_E d 137 Q (18, L, .int x :: st, g) ↔ am_E d 137 Q (am_cmp .eq x 0 38 21, L, st, g) := am_E_if (by decide +kernel : am_dc 137 18 = some (.ifCond .eq (20))) rfl rfl
theorem x_137_21   : am_E d 137 Q (21, L, st, g) ↔ am_K d 137 Q (am_ldA 22 L st g 0) := am_E_aload_n (by decide +kernel : am_dc 137 21 = some (.aload_n 0)) rfl rfl
theorem x_137_22   : am_E d 137 Q (22, L, .ref a :: st, g) ↔ am_kv d 137 Q 25 L st g (am_gf g a 9 1) := am_E_getfield (by decide +kernel : am_dc 137 22 = some (.getfield 19)) (by decide +kernel) rfl
theorem x_137_25   : am_E d 137 Q (25, L, st, g) ↔ am_K d 137 Q (am_ldA 26 L st g 0) := am_E_aload_n (by decide +kernel : am_dc 137 25 = some (.aload_n 0)) rfl rfl
theorem x_137_26   : am_E d 137 Q (26, L, .ref a :: st, g) ↔ am_kv d 137 Q 29 L st g (am_gf g a 9 0) := am_E_getfield (by decide +kernel : am_dc 137 26 = some (.getfield 15)) (by decide +kernel) rfl
theorem x_137_29   : am_E d 137 Q (29, L, st, g) ↔ am_K d 137 Q (am_ldI 30 L st g 2) := am_E_iload_n (by decide +kernel : am_dc 137 29 = some (.iload_n 2)) rfl rfl
theorem x_137_30  : am_E d 137 Q (30, L, st, g) ↔ am_K d 137 Q (am_S 137 (.invokevirtual 86) 30 L st g) := am_E_x (by decide +kernel : am_dc 137 30 = some (.invokevirtual 86))
theorem x_137_33   : am_E d 137 Q (33, L, .int x :: st, g) ↔ am_E d 137 Q (am_cmp .lt x 0 38 36, L, st, g) := am_E_if (by decide +kernel : am_dc 137 33 = some (.ifCond .lt (5))) rfl rfl
theorem x_137_36   : am_E d 137 Q (36, L, st, g) ↔ am_E d 137 Q (37, L, .int (1) :: st, g) := am_E_iconst (by decide +kernel : am_dc 137 36 = some (.iconst (1))) (by decide) rfl
theorem x_137_37  : am_E d 137 Q (37, L, [.int x], g) ↔ if am_ok (FieldType.boolean) (.int x) = true then Q (.inl (some (.int x))) g else False := am_E_ireturn (by decide +kernel : am_dc 137 37 = some (.ireturn)) (by decide +kernel)
theorem x_137_38   (hk : L.getD 2 none = some (.int x)) (hl : 2 < L.length) : am_E d 137 Q (38, L, st, g) ↔ am_E d 137 Q (41, am_s1 L 2 (.int (x + (1))), st, g) := am_E_iinc (by decide +kernel : am_dc 137 38 = some (.iinc 2 (1))) (by decide) rfl hk hl
theorem x_137_41   : am_E d 137 Q (41, L, st, g) ↔ am_E d 137 Q (2, L, st, g) := am_E_gt (by decide +kernel : am_dc 137 41 = some (.goto (-39))) rfl rfl
theorem x_137_44   : am_E d 137 Q (44, L, st, g) ↔ am_E d 137 Q (45, L, .int (0) :: st, g) := am_E_iconst (by decide +kernel : am_dc 137 44 = some (.iconst (0))) (by decide) rfl
theorem x_137_45  : am_E d 137 Q (45, L, [.int x], g) ↔ if am_ok (FieldType.boolean) (.int x) = true then Q (.inl (some (.int x))) g else False := am_E_ireturn (by decide +kernel : am_dc 137 45 = some (.ireturn)) (by decide +kernel)
theorem f_137_15 : am_fl 137 15 = some (9, 0) := by decide +kernel
theorem v_137_64 : am_iv 137 64 = some (1, 130, 3) := by decide +kernel
theorem f_137_19 : am_fl 137 19 = some (9, 1) := by decide +kernel
theorem v_137_86 : am_iv 137 86 = some (1, 120, 3) := by decide +kernel
theorem t_137 : am_t 137 = some (FieldType.boolean) := by decide +kernel
theorem h_137 : am_h 137 = [] := by decide +kernel
theorem m_137 : am_m 137 = 3 := by decide +kernel
theorem x_138_0   : am_E d 138 Q (0, L, st, g) ↔ am_E d 138 Q (1, L, .int (0) :: st, g) := am_E_iconst (by decide +kernel : am_dc 138 0 = some (.iconst (0))) (by decide) rfl
theorem x_138_1   : am_E d 138 Q (1, L, st, g) ↔ am_K d 138 Q (am_stI 2 L st g 2) := am_E_istore_n (by decide +kernel : am_dc 138 1 = some (.istore_n 2)) rfl rfl
theorem x_138_2   : am_E d 138 Q (2, L, st, g) ↔ am_K d 138 Q (am_ldI 3 L st g 2) := am_E_iload_n (by decide +kernel : am_dc 138 2 = some (.iload_n 2)) rfl rfl
theorem x_138_3   : am_E d 138 Q (3, L, st, g) ↔ am_E d 138 Q (4, L, .int (3) :: st, g) := am_E_iconst (by decide +kernel : am_dc 138 3 = some (.iconst (3))) (by decide) rfl
theorem x_138_4   : am_E d 138 Q (4, L, .int y :: .int x :: st, g) ↔ am_E d 138 Q (am_cmp .ge x y 85 7, L, st, g) := am_E_ic (by decide +kernel : am_dc 138 4 = some (.if_icmp .ge (81))) rfl rfl
theorem x_138_7   : am_E d 138 Q (7, L, st, g) ↔ am_K d 138 Q (am_ldA 8 L st g 0) := am_E_aload_n (by decide +kernel : am_dc 138 7 = some (.aload_n 0)) rfl rfl
theorem x_138_8   : am_E d 138 Q (8, L, .ref a :: st, g) ↔ am_kv d 138 Q 11 L st g (am_gf g a 9 0) := am_E_getfield (by decide +kernel : am_dc 138 8 = some (.getfield 15)) (by decide +kernel) rfl
theorem x_138_11   : am_E d 138 Q (11, L, .ref a :: st, g) ↔ am_kv d 138 Q 14 L st g (am_gf g a 8 0) := am_E_getfield (by decide +kernel : am_dc 138 11 = some (.getfield 70)) (by decide +kernel) rfl
theorem x_138_14   : am_E d 138 Q (14, L, st, g) ↔ am_K d 138 Q (am_ldI 15 L st g 2) := am_E_iload_n (by decide +kernel : am_dc 138 14 = some (.iload_n 2)) rfl rfl
theorem x_138_15   : am_E d 138 Q (15, L, .int x :: .ref a :: st, g) ↔ am_kv d 138 Q 16 L st g (am_iat .aaload g a x) := am_E_aaload (by decide +kernel : am_dc 138 15 = some (.aaload)) rfl
theorem x_138_16   : am_E d 138 Q (16, L, st, g) ↔ am_K d 138 Q (am_stA 17 L st g 3) := am_E_astore_n (by decide +kernel : am_dc 138 16 = some (.astore_n 3)) rfl rfl
theorem x_138_17   : am_E d 138 Q (17, L, st, g) ↔ am_E d 138 Q (18, L, .int (0) :: st, g) := am_E_iconst (by decide +kernel : am_dc 138 17 = some (.iconst (0))) (by decide) rfl
theorem x_138_18   : am_E d 138 Q (18, L, st, g) ↔ am_K d 138 Q (am_stI 20 L st g 4) := am_E_istore (by decide +kernel : am_dc 138 18 = some (.istore 4)) rfl
theorem x_138_20   : am_E d 138 Q (20, L, st, g) ↔ am_K d 138 Q (am_ldI 22 L st g 4) := am_E_iload (by decide +kernel : am_dc 138 20 = some (.iload 4)) rfl
theorem x_138_22   : am_E d 138 Q (22, L, st, g) ↔ am_E d 138 Q (24, L, .int (6) :: st, g) := am_E_bipush (by decide +kernel : am_dc 138 22 = some (.bipush (6))) (by decide) rfl
theorem x_138_24   : am_E d 138 Q (24, L, .int y :: .int x :: st, g) ↔ am_E d 138 Q (am_cmp .ge x y 79 27, L, st, g) := am_E_ic (by decide +kernel : am_dc 138 24 = some (.if_icmp .ge (55))) rfl rfl
theorem x_138_27   : am_E d 138 Q (27, L, st, g) ↔ am_K d 138 Q (am_ldA 28 L st g 3) := am_E_aload_n (by decide +kernel : am_dc 138 27 = some (.aload_n 3)) rfl rfl
theorem x_138_28   : am_E d 138 Q (28, L, st, g) ↔ am_K d 138 Q (am_ldI 30 L st g 4) := am_E_iload (by decide +kernel : am_dc 138 28 = some (.iload 4)) rfl
theorem x_138_30   : am_E d 138 Q (30, L, st, g) ↔ am_K d 138 Q (am_ldA 31 L st g 1) := am_E_aload_n (by decide +kernel : am_dc 138 30 = some (.aload_n 1)) rfl rfl
theorem x_138_31   : am_E d 138 Q (31, L, st, g) ↔ am_K d 138 Q (am_ldI 32 L st g 2) := am_E_iload_n (by decide +kernel : am_dc 138 31 = some (.iload_n 2)) rfl rfl
theorem x_138_32   : am_E d 138 Q (32, L, .int x :: .ref a :: st, g) ↔ am_kv d 138 Q 33 L st g (am_iat .iaload g a x) := am_E_iaload (by decide +kernel : am_dc 138 32 = some (.iaload)) rfl
theorem x_138_33  : am_E d 138 Q (33, L, st, g) ↔ am_K d 138 Q (am_S 138 (.invokevirtual 92) 33 L st g) := am_E_x (by decide +kernel : am_dc 138 33 = some (.invokevirtual 92))
theorem x_138_36   : am_E d 138 Q (36, L, .int x :: st, g) ↔ am_E d 138 Q (am_cmp .eq x 0 52 39, L, st, g) := am_E_if (by decide +kernel : am_dc 138 36 = some (.ifCond .eq (16))) rfl rfl
theorem x_138_39   : am_E d 138 Q (39, L, st, g) ↔ am_K d 138 Q (am_ldA 40 L st g 3) := am_E_aload_n (by decide +kernel : am_dc 138 39 = some (.aload_n 3)) rfl rfl
theorem x_138_40   : am_E d 138 Q (40, L, st, g) ↔ am_K d 138 Q (am_ldI 42 L st g 4) := am_E_iload (by decide +kernel : am_dc 138 40 = some (.iload 4)) rfl
theorem x_138_42  : am_E d 138 Q (42, L, st, g) ↔ am_K d 138 Q (am_S 138 (.invokevirtual 95) 42 L st g) := am_E_x (by decide +kernel : am_dc 138 42 = some (.invokevirtual 95))
theorem x_138_45   : am_E d 138 Q (45, L, .int x :: st, g) ↔ am_E d 138 Q (am_cmp .ne x 0 52 48, L, st, g) := am_E_if (by decide +kernel : am_dc 138 45 = some (.ifCond .ne (7))) rfl rfl
theorem x_138_48   : am_E d 138 Q (48, L, st, g) ↔ am_E d 138 Q (49, L, .int (1) :: st, g) := am_E_iconst (by decide +kernel : am_dc 138 48 = some (.iconst (1))) (by decide) rfl
theorem x_138_49   : am_E d 138 Q (49, L, st, g) ↔ am_E d 138 Q (53, L, st, g) := am_E_gt (by decide +kernel : am_dc 138 49 = some (.goto (4))) rfl rfl
theorem x_138_52   : am_E d 138 Q (52, L, st, g) ↔ am_E d 138 Q (53, L, .int (0) :: st, g) := am_E_iconst (by decide +kernel : am_dc 138 52 = some (.iconst (0))) (by decide) rfl
theorem x_138_53   : am_E d 138 Q (53, L, st, g) ↔ am_K d 138 Q (am_stI 55 L st g 5) := am_E_istore (by decide +kernel : am_dc 138 53 = some (.istore 5)) rfl
theorem x_138_55   : am_E d 138 Q (55, L, st, g) ↔ am_K d 138 Q (am_ldI 57 L st g 5) := am_E_iload (by decide +kernel : am_dc 138 55 = some (.iload 5)) rfl
theorem x_138_57   : am_E d 138 Q (57, L, .int x :: st, g) ↔ am_E d 138 Q (am_cmp .eq x 0 73 60, L, st, g) := am_E_if (by decide +kernel : am_dc 138 57 = some (.ifCond .eq (16))) rfl rfl
theorem x_138_60   : am_E d 138 Q (60, L, st, g) ↔ am_K d 138 Q (am_ldA 61 L st g 3) := am_E_aload_n (by decide +kernel : am_dc 138 60 = some (.aload_n 3)) rfl rfl
theorem x_138_61   : am_E d 138 Q (61, L, .ref a :: st, g) ↔ am_kv d 138 Q 64 L st g (am_gf g a 10 1) := am_E_getfield (by decide +kernel : am_dc 138 61 = some (.getfield 98)) (by decide +kernel) rfl
theorem x_138_64   : am_E d 138 Q (64, L, st, g) ↔ am_K d 138 Q (am_ldI 66 L st g 4) := am_E_iload (by decide +kernel : am_dc 138 64 = some (.iload 4)) rfl
theorem x_138_66   : am_E d 138 Q (66, L, .int x :: .ref a :: st, g) ↔ am_kv d 138 Q 67 L st g (am_iat .iaload g a x) := am_E_iaload (by decide +kernel : am_dc 138 66 = some (.iaload)) rfl
theorem x_138_67   : am_E d 138 Q (67, L, st, g) ↔ am_E d 138 Q (68, L, .int (1) :: st, g) := am_E_iconst (by decide +kernel : am_dc 138 67 = some (.iconst (1))) (by decide) rfl
theorem x_138_68   : am_E d 138 Q (68, L, .int y :: .int x :: st, g) ↔ am_E d 138 Q (am_cmp .eq x y 73 71, L, st, g) := am_E_ic (by decide +kernel : am_dc 138 68 = some (.if_icmp .eq (5))) rfl rfl
theorem x_138_71   : am_E d 138 Q (71, L, st, g) ↔ am_E d 138 Q (72, L, .int (0) :: st, g) := am_E_iconst (by decide +kernel : am_dc 138 71 = some (.iconst (0))) (by decide) rfl
theorem x_138_72  : am_E d 138 Q (72, L, [.int x], g) ↔ if am_ok (FieldType.boolean) (.int x) = true then Q (.inl (some (.int x))) g else False := am_E_ireturn (by decide +kernel : am_dc 138 72 = some (.ireturn)) (by decide +kernel)
theorem x_138_73   (hk : L.getD 4 none = some (.int x)) (hl : 4 < L.length) : am_E d 138 Q (73, L, st, g) ↔ am_E d 138 Q (76, am_s1 L 4 (.int (x + (1))), st, g) := am_E_iinc (by decide +kernel : am_dc 138 73 = some (.iinc 4 (1))) (by decide) rfl hk hl
theorem x_138_76   : am_E d 138 Q (76, L, st, g) ↔ am_E d 138 Q (20, L, st, g) := am_E_gt (by decide +kernel : am_dc 138 76 = some (.goto (-56))) rfl rfl
theorem x_138_79   (hk : L.getD 2 none = some (.int x)) (hl : 2 < L.length) : am_E d 138 Q (79, L, st, g) ↔ am_E d 138 Q (82, am_s1 L 2 (.int (x + (1))), st, g) := am_E_iinc (by decide +kernel : am_dc 138 79 = some (.iinc 2 (1))) (by decide) rfl hk hl
theorem x_138_82   : am_E d 138 Q (82, L, st, g) ↔ am_E d 138 Q (2, L, st, g) := am_E_gt (by decide +kernel : am_dc 138 82 = some (.goto (-80))) rfl rfl
theorem x_138_85   : am_E d 138 Q (85, L, st, g) ↔ am_E d 138 Q (86, L, .int (1) :: st, g) := am_E_iconst (by decide +kernel : am_dc 138 85 = some (.iconst (1))) (by decide) rfl
theorem x_138_86  : am_E d 138 Q (86, L, [.int x], g) ↔ if am_ok (FieldType.boolean) (.int x) = true then Q (.inl (some (.int x))) g else False := am_E_ireturn (by decide +kernel : am_dc 138 86 = some (.ireturn)) (by decide +kernel)
theorem f_138_15 : am_fl 138 15 = some (9, 0) := by decide +kernel
theorem f_138_70 : am_fl 138 70 = some (8, 0) := by decide +kernel
theorem v_138_92 : am_iv 138 92 = some (1, 151, 3) := by decide +kernel
theorem v_138_95 : am_iv 138 95 = some (1, 150, 2) := by decide +kernel
theorem f_138_98 : am_fl 138 98 = some (10, 1) := by decide +kernel
theorem t_138 : am_t 138 = some (FieldType.boolean) := by decide +kernel
theorem h_138 : am_h 138 = [] := by decide +kernel
theorem m_138 : am_m 138 = 6 := by decide +kernel
theorem x_139_0   : am_E d 139 Q (0, L, st, g) ↔ am_E d 139 Q (1, L, .int (0) :: st, g) := am_E_iconst (by decide +kernel : am_dc 139 0 = some (.iconst (0))) (by decide) rfl
theorem x_139_1   : am_E d 139 Q (1, L, st, g) ↔ am_K d 139 Q (am_stI 2 L st g 2) := am_E_istore_n (by decide +kernel : am_dc 139 1 = some (.istore_n 2)) rfl rfl
theorem x_139_2   : am_E d 139 Q (2, L, st, g) ↔ am_E d 139 Q (3, L, .int (0) :: st, g) := am_E_iconst (by decide +kernel : am_dc 139 2 = some (.iconst (0))) (by decide) rfl
theorem x_139_3   : am_E d 139 Q (3, L, st, g) ↔ am_K d 139 Q (am_stI 4 L st g 3) := am_E_istore_n (by decide +kernel : am_dc 139 3 = some (.istore_n 3)) rfl rfl
theorem x_139_4   : am_E d 139 Q (4, L, st, g) ↔ am_K d 139 Q (am_ldI 5 L st g 3) := am_E_iload_n (by decide +kernel : am_dc 139 4 = some (.iload_n 3)) rfl rfl
theorem x_139_5   : am_E d 139 Q (5, L, st, g) ↔ am_E d 139 Q (6, L, .int (3) :: st, g) := am_E_iconst (by decide +kernel : am_dc 139 5 = some (.iconst (3))) (by decide) rfl
theorem x_139_6   : am_E d 139 Q (6, L, .int y :: .int x :: st, g) ↔ am_E d 139 Q (am_cmp .ge x y 52 9, L, st, g) := am_E_ic (by decide +kernel : am_dc 139 6 = some (.if_icmp .ge (46))) rfl rfl
theorem x_139_9   : am_E d 139 Q (9, L, st, g) ↔ am_K d 139 Q (am_ldA 10 L st g 0) := am_E_aload_n (by decide +kernel : am_dc 139 9 = some (.aload_n 0)) rfl rfl
theorem x_139_10   : am_E d 139 Q (10, L, .ref a :: st, g) ↔ am_kv d 139 Q 13 L st g (am_gf g a 9 0) := am_E_getfield (by decide +kernel : am_dc 139 10 = some (.getfield 15)) (by decide +kernel) rfl
theorem x_139_13   : am_E d 139 Q (13, L, .ref a :: st, g) ↔ am_kv d 139 Q 16 L st g (am_gf g a 8 0) := am_E_getfield (by decide +kernel : am_dc 139 13 = some (.getfield 70)) (by decide +kernel) rfl
theorem x_139_16   : am_E d 139 Q (16, L, st, g) ↔ am_K d 139 Q (am_ldI 17 L st g 3) := am_E_iload_n (by decide +kernel : am_dc 139 16 = some (.iload_n 3)) rfl rfl
theorem x_139_17   : am_E d 139 Q (17, L, .int x :: .ref a :: st, g) ↔ am_kv d 139 Q 18 L st g (am_iat .aaload g a x) := am_E_aaload (by decide +kernel : am_dc 139 17 = some (.aaload)) rfl
theorem x_139_18   : am_E d 139 Q (18, L, st, g) ↔ am_K d 139 Q (am_ldI 19 L st g 1) := am_E_iload_n (by decide +kernel : am_dc 139 18 = some (.iload_n 1)) rfl rfl
theorem x_139_19   : am_E d 139 Q (19, L, st, g) ↔ am_K d 139 Q (am_ldI 20 L st g 3) := am_E_iload_n (by decide +kernel : am_dc 139 19 = some (.iload_n 3)) rfl rfl
theorem x_139_20  : am_E d 139 Q (20, L, st, g) ↔ am_K d 139 Q (am_S 139 (.invokestatic 74) 20 L st g) := am_E_x (by decide +kernel : am_dc 139 20 = some (.invokestatic 74))
theorem x_139_23  : am_E d 139 Q (23, L, st, g) ↔ am_K d 139 Q (am_S 139 (.invokevirtual 78) 23 L st g) := am_E_x (by decide +kernel : am_dc 139 23 = some (.invokevirtual 78))
theorem x_139_26   : am_E d 139 Q (26, L, st, g) ↔ am_K d 139 Q (am_stI 28 L st g 4) := am_E_istore (by decide +kernel : am_dc 139 26 = some (.istore 4)) rfl
theorem x_139_28   : am_E d 139 Q (28, L, st, g) ↔ am_K d 139 Q (am_ldI 30 L st g 4) := am_E_iload (by decide +kernel : am_dc 139 28 = some (.iload 4)) rfl
theorem x_139_30   : am_E d 139 Q (30, L, .int x :: st, g) ↔ am_E d 139 Q (am_cmp .ge x 0 35 33, L, st, g) := am_E_if (by decide +kernel : am_dc 139 30 = some (.ifCond .ge (5))) rfl rfl
theorem x_139_33   : am_E d 139 Q (33, L, st, g) ↔ am_E d 139 Q (34, L, .int (-1) :: st, g) := am_E_iconst (by decide +kernel : am_dc 139 33 = some (.iconst (-1))) (by decide) rfl
theorem x_139_34  : am_E d 139 Q (34, L, [.int x], g) ↔ if am_ok (FieldType.int) (.int x) = true then Q (.inl (some (.int x))) g else False := am_E_ireturn (by decide +kernel : am_dc 139 34 = some (.ireturn)) (by decide +kernel)
theorem x_139_35   : am_E d 139 Q (35, L, st, g) ↔ am_K d 139 Q (am_ldI 36 L st g 2) := am_E_iload_n (by decide +kernel : am_dc 139 35 = some (.iload_n 2)) rfl rfl
theorem x_139_36   : am_E d 139 Q (36, L, st, g) ↔ am_K d 139 Q (am_ldI 38 L st g 4) := am_E_iload (by decide +kernel : am_dc 139 36 = some (.iload 4)) rfl
theorem x_139_38  : am_E d 139 Q (38, L, st, g) ↔ am_K d 139 Q (am_S 139 (.getstatic 83) 38 L st g) := am_E_x (by decide +kernel : am_dc 139 38 = some (.getstatic 83))
theorem x_139_41   : am_E d 139 Q (41, L, st, g) ↔ am_K d 139 Q (am_ldI 42 L st g 3) := am_E_iload_n (by decide +kernel : am_dc 139 41 = some (.iload_n 3)) rfl rfl
theorem x_139_42   : am_E d 139 Q (42, L, .int x :: .ref a :: st, g) ↔ am_kv d 139 Q 43 L st g (am_iat .iaload g a x) := am_E_iaload (by decide +kernel : am_dc 139 42 = some (.iaload)) rfl
theorem x_139_43   : am_E d 139 Q (43, L, .int y :: .int x :: st, g) ↔ am_E d 139 Q (44, L, .int (x * y) :: st, g) := am_E_imul (by decide +kernel : am_dc 139 43 = some (.imul)) rfl
theorem x_139_44   : am_E d 139 Q (44, L, .int y :: .int x :: st, g) ↔ am_E d 139 Q (45, L, .int (x + y) :: st, g) := am_E_iadd (by decide +kernel : am_dc 139 44 = some (.iadd)) rfl
theorem x_139_45   : am_E d 139 Q (45, L, st, g) ↔ am_K d 139 Q (am_stI 46 L st g 2) := am_E_istore_n (by decide +kernel : am_dc 139 45 = some (.istore_n 2)) rfl rfl
theorem x_139_46   (hk : L.getD 3 none = some (.int x)) (hl : 3 < L.length) : am_E d 139 Q (46, L, st, g) ↔ am_E d 139 Q (49, am_s1 L 3 (.int (x + (1))), st, g) := am_E_iinc (by decide +kernel : am_dc 139 46 = some (.iinc 3 (1))) (by decide) rfl hk hl
theorem x_139_49   : am_E d 139 Q (49, L, st, g) ↔ am_E d 139 Q (4, L, st, g) := am_E_gt (by decide +kernel : am_dc 139 49 = some (.goto (-45))) rfl rfl
theorem x_139_52   : am_E d 139 Q (52, L, st, g) ↔ am_K d 139 Q (am_ldI 53 L st g 2) := am_E_iload_n (by decide +kernel : am_dc 139 52 = some (.iload_n 2)) rfl rfl
theorem x_139_53  : am_E d 139 Q (53, L, [.int x], g) ↔ if am_ok (FieldType.int) (.int x) = true then Q (.inl (some (.int x))) g else False := am_E_ireturn (by decide +kernel : am_dc 139 53 = some (.ireturn)) (by decide +kernel)
theorem f_139_15 : am_fl 139 15 = some (9, 0) := by decide +kernel
theorem f_139_70 : am_fl 139 70 = some (8, 0) := by decide +kernel
theorem v_139_74 : am_iv 139 74 = some (0, 131, 2) := by decide +kernel
theorem v_139_78 : am_iv 139 78 = some (1, 153, 2) := by decide +kernel
theorem s_139_83 : am_gs 139 83 = some 1 := by decide +kernel
theorem t_139 : am_t 139 = some (FieldType.int) := by decide +kernel
theorem h_139 : am_h 139 = [] := by decide +kernel
theorem m_139 : am_m 139 = 5 := by decide +kernel
theorem x_140_0   : am_E d 140 Q (0, L, st, g) ↔ am_E d 140 Q (1, L, .long (0) :: st, g) := am_E_lconst (by decide +kernel : am_dc 140 0 = some (.lconst 0)) (by decide) rfl
theorem x_140_1   : am_E d 140 Q (1, L, st, g) ↔ am_K d 140 Q (am_stL 2 L st g 3) := am_E_lstore_n (by decide +kernel : am_dc 140 1 = some (.lstore_n 3)) rfl rfl
theorem x_140_2   : am_E d 140 Q (2, L, st, g) ↔ am_E d 140 Q (3, L, .long (0) :: st, g) := am_E_lconst (by decide +kernel : am_dc 140 2 = some (.lconst 0)) (by decide) rfl
theorem x_140_3   : am_E d 140 Q (3, L, st, g) ↔ am_K d 140 Q (am_stL 5 L st g 5) := am_E_lstore (by decide +kernel : am_dc 140 3 = some (.lstore 5)) rfl
theorem x_140_5   : am_E d 140 Q (5, L, st, g) ↔ am_E d 140 Q (6, L, .int (0) :: st, g) := am_E_iconst (by decide +kernel : am_dc 140 5 = some (.iconst (0))) (by decide) rfl
theorem x_140_6   : am_E d 140 Q (6, L, st, g) ↔ am_K d 140 Q (am_stI 8 L st g 7) := am_E_istore (by decide +kernel : am_dc 140 6 = some (.istore 7)) rfl
theorem x_140_8   : am_E d 140 Q (8, L, st, g) ↔ am_K d 140 Q (am_ldI 10 L st g 7) := am_E_iload (by decide +kernel : am_dc 140 8 = some (.iload 7)) rfl
theorem x_140_10   : am_E d 140 Q (10, L, st, g) ↔ am_K d 140 Q (am_ldA 11 L st g 0) := am_E_aload_n (by decide +kernel : am_dc 140 10 = some (.aload_n 0)) rfl rfl
theorem x_140_11   : am_E d 140 Q (11, L, .ref a :: st, g) ↔ am_kv d 140 Q 14 L st g (am_gf g a 9 5) := am_E_getfield (by decide +kernel : am_dc 140 11 = some (.getfield 31)) (by decide +kernel) rfl
theorem x_140_14   : am_E d 140 Q (14, L, .int y :: .int x :: st, g) ↔ am_E d 140 Q (am_cmp .ge x y 102 17, L, st, g) := am_E_ic (by decide +kernel : am_dc 140 14 = some (.if_icmp .ge (88))) rfl rfl
theorem x_140_17   : am_E d 140 Q (17, L, st, g) ↔ am_K d 140 Q (am_ldL 18 L st g 3) := am_E_lload_n (by decide +kernel : am_dc 140 17 = some (.lload_n 3)) rfl rfl
theorem x_140_18   : am_E d 140 Q (18, L, st, g) ↔ am_K d 140 Q (am_ldA 19 L st g 0) := am_E_aload_n (by decide +kernel : am_dc 140 18 = some (.aload_n 0)) rfl rfl
theorem x_140_19   : am_E d 140 Q (19, L, st, g) ↔ am_K d 140 Q (am_ldI 20 L st g 1) := am_E_iload_n (by decide +kernel : am_dc 140 19 = some (.iload_n 1)) rfl rfl
theorem x_140_20   : am_E d 140 Q (20, L, st, g) ↔ am_K d 140 Q (am_ldA 21 L st g 0) := am_E_aload_n (by decide +kernel : am_dc 140 20 = some (.aload_n 0)) rfl rfl
theorem x_140_21   : am_E d 140 Q (21, L, .ref a :: st, g) ↔ am_kv d 140 Q 24 L st g (am_gf g a 9 3) := am_E_getfield (by decide +kernel : am_dc 140 21 = some (.getfield 9)) (by decide +kernel) rfl
theorem x_140_24   : am_E d 140 Q (24, L, st, g) ↔ am_K d 140 Q (am_ldI 26 L st g 7) := am_E_iload (by decide +kernel : am_dc 140 24 = some (.iload 7)) rfl
theorem x_140_26   : am_E d 140 Q (26, L, .int x :: .ref a :: st, g) ↔ am_kv d 140 Q 27 L st g (am_iat .iaload g a x) := am_E_iaload (by decide +kernel : am_dc 140 26 = some (.iaload)) rfl
theorem x_140_27  : am_E d 140 Q (27, L, st, g) ↔ am_K d 140 Q (am_S 140 (.invokevirtual 46) 27 L st g) := am_E_x (by decide +kernel : am_dc 140 27 = some (.invokevirtual 46))
theorem x_140_30   : am_E d 140 Q (30, L, .long w :: .long u :: st, g) ↔ am_E d 140 Q (31, L, .long (u + w) :: st, g) := am_E_ladd (by decide +kernel : am_dc 140 30 = some (.ladd)) rfl
theorem x_140_31   : am_E d 140 Q (31, L, st, g) ↔ am_K d 140 Q (am_stL 32 L st g 3) := am_E_lstore_n (by decide +kernel : am_dc 140 31 = some (.lstore_n 3)) rfl rfl
theorem x_140_32   : am_E d 140 Q (32, L, st, g) ↔ am_K d 140 Q (am_ldA 33 L st g 0) := am_E_aload_n (by decide +kernel : am_dc 140 32 = some (.aload_n 0)) rfl rfl
theorem x_140_33   : am_E d 140 Q (33, L, .ref a :: st, g) ↔ am_kv d 140 Q 36 L st g (am_gf g a 9 4) := am_E_getfield (by decide +kernel : am_dc 140 33 = some (.getfield 50)) (by decide +kernel) rfl
theorem x_140_36   : am_E d 140 Q (36, L, st, g) ↔ am_E d 140 Q (37, L, .long (0) :: st, g) := am_E_lconst (by decide +kernel : am_dc 140 36 = some (.lconst 0)) (by decide) rfl
theorem x_140_37   : am_E d 140 Q (37, L, .long w :: .long u :: st, g) ↔ am_E d 140 Q (38, L, .int (lg_cmp u w) :: st, g) := am_E_lcmp (by decide +kernel : am_dc 140 37 = some (.lcmp)) rfl
theorem x_140_38   : am_E d 140 Q (38, L, .int x :: st, g) ↔ am_E d 140 Q (am_cmp .ne x 0 58 41, L, st, g) := am_E_if (by decide +kernel : am_dc 140 38 = some (.ifCond .ne (20))) rfl rfl
theorem x_140_41   : am_E d 140 Q (41, L, st, g) ↔ am_K d 140 Q (am_ldI 42 L st g 2) := am_E_iload_n (by decide +kernel : am_dc 140 41 = some (.iload_n 2)) rfl rfl
theorem x_140_42   : am_E d 140 Q (42, L, .int x :: st, g) ↔ am_E d 140 Q (43, L, .long x.toInt64 :: st, g) := am_E_i2l (by decide +kernel : am_dc 140 42 = some (.i2l)) rfl
theorem x_140_43   : am_E d 140 Q (43, L, st, g) ↔ am_K d 140 Q (am_ldI 45 L st g 7) := am_E_iload (by decide +kernel : am_dc 140 43 = some (.iload 7)) rfl
theorem x_140_45   : am_E d 140 Q (45, L, st, g) ↔ am_E d 140 Q (46, L, .int (1) :: st, g) := am_E_iconst (by decide +kernel : am_dc 140 45 = some (.iconst (1))) (by decide) rfl
theorem x_140_46   : am_E d 140 Q (46, L, .int y :: .int x :: st, g) ↔ am_E d 140 Q (47, L, .int (x + y) :: st, g) := am_E_iadd (by decide +kernel : am_dc 140 46 = some (.iadd)) rfl
theorem x_140_47   : am_E d 140 Q (47, L, .int x :: st, g) ↔ am_E d 140 Q (48, L, .long x.toInt64 :: st, g) := am_E_i2l (by decide +kernel : am_dc 140 47 = some (.i2l)) rfl
theorem x_140_48   : am_E d 140 Q (48, L, .long w :: .long u :: st, g) ↔ am_E d 140 Q (49, L, .long (u * w) :: st, g) := am_E_lmul (by decide +kernel : am_dc 140 48 = some (.lmul)) rfl
theorem x_140_49   : am_E d 140 Q (49, L, st, g) ↔ am_K d 140 Q (am_ldA 50 L st g 0) := am_E_aload_n (by decide +kernel : am_dc 140 49 = some (.aload_n 0)) rfl rfl
theorem x_140_50   : am_E d 140 Q (50, L, .ref a :: st, g) ↔ am_kv d 140 Q 53 L st g (am_gf g a 9 5) := am_E_getfield (by decide +kernel : am_dc 140 50 = some (.getfield 31)) (by decide +kernel) rfl
theorem x_140_53   : am_E d 140 Q (53, L, .int x :: st, g) ↔ am_E d 140 Q (54, L, .long x.toInt64 :: st, g) := am_E_i2l (by decide +kernel : am_dc 140 53 = some (.i2l)) rfl
theorem x_140_54   : am_E d 140 Q (54, L, .long w :: .long u :: st, g) ↔ if w = 0 then False else am_E d 140 Q (55, L, .long (u / w) :: st, g) := am_E_ldiv (by decide +kernel : am_dc 140 54 = some (.ldiv)) rfl
theorem x_140_55   : am_E d 140 Q (55, L, st, g) ↔ am_E d 140 Q (67, L, st, g) := am_E_gt (by decide +kernel : am_dc 140 55 = some (.goto (12))) rfl rfl
theorem x_140_58   : am_E d 140 Q (58, L, st, g) ↔ am_K d 140 Q (am_ldI 59 L st g 2) := am_E_iload_n (by decide +kernel : am_dc 140 58 = some (.iload_n 2)) rfl rfl
theorem x_140_59   : am_E d 140 Q (59, L, .int x :: st, g) ↔ am_E d 140 Q (60, L, .long x.toInt64 :: st, g) := am_E_i2l (by decide +kernel : am_dc 140 59 = some (.i2l)) rfl
theorem x_140_60   : am_E d 140 Q (60, L, st, g) ↔ am_K d 140 Q (am_ldL 61 L st g 3) := am_E_lload_n (by decide +kernel : am_dc 140 60 = some (.lload_n 3)) rfl rfl
theorem x_140_61   : am_E d 140 Q (61, L, .long w :: .long u :: st, g) ↔ am_E d 140 Q (62, L, .long (u * w) :: st, g) := am_E_lmul (by decide +kernel : am_dc 140 61 = some (.lmul)) rfl
theorem x_140_62   : am_E d 140 Q (62, L, st, g) ↔ am_K d 140 Q (am_ldA 63 L st g 0) := am_E_aload_n (by decide +kernel : am_dc 140 62 = some (.aload_n 0)) rfl rfl
theorem x_140_63   : am_E d 140 Q (63, L, .ref a :: st, g) ↔ am_kv d 140 Q 66 L st g (am_gf g a 9 4) := am_E_getfield (by decide +kernel : am_dc 140 63 = some (.getfield 50)) (by decide +kernel) rfl
theorem x_140_66   : am_E d 140 Q (66, L, .long w :: .long u :: st, g) ↔ if w = 0 then False else am_E d 140 Q (67, L, .long (u / w) :: st, g) := am_E_ldiv (by decide +kernel : am_dc 140 66 = some (.ldiv)) rfl
theorem x_140_67   : am_E d 140 Q (67, L, st, g) ↔ am_K d 140 Q (am_stL 69 L st g 8) := am_E_lstore (by decide +kernel : am_dc 140 67 = some (.lstore 8)) rfl
theorem x_140_69   : am_E d 140 Q (69, L, st, g) ↔ am_K d 140 Q (am_ldA 70 L st g 0) := am_E_aload_n (by decide +kernel : am_dc 140 69 = some (.aload_n 0)) rfl rfl
theorem x_140_70   : am_E d 140 Q (70, L, .ref a :: st, g) ↔ am_kv d 140 Q 73 L st g (am_gf g a 9 2) := am_E_getfield (by decide +kernel : am_dc 140 70 = some (.getfield 23)) (by decide +kernel) rfl
theorem x_140_73   : am_E d 140 Q (73, L, .ref a :: st, g) ↔ am_kv d 140 Q 76 L st g (am_gf g a 2 0) := am_E_getfield (by decide +kernel : am_dc 140 73 = some (.getfield 54)) (by decide +kernel) rfl
theorem x_140_76   : am_E d 140 Q (76, L, st, g) ↔ am_K d 140 Q (am_ldI 77 L st g 1) := am_E_iload_n (by decide +kernel : am_dc 140 76 = some (.iload_n 1)) rfl rfl
theorem x_140_77   : am_E d 140 Q (77, L, .int x :: .ref a :: st, g) ↔ am_kv d 140 Q 78 L st g (am_iat .aaload g a x) := am_E_aaload (by decide +kernel : am_dc 140 77 = some (.aaload)) rfl
theorem x_140_78   : am_E d 140 Q (78, L, st, g) ↔ am_K d 140 Q (am_ldA 79 L st g 0) := am_E_aload_n (by decide +kernel : am_dc 140 78 = some (.aload_n 0)) rfl rfl
theorem x_140_79   : am_E d 140 Q (79, L, .ref a :: st, g) ↔ am_kv d 140 Q 82 L st g (am_gf g a 9 3) := am_E_getfield (by decide +kernel : am_dc 140 79 = some (.getfield 9)) (by decide +kernel) rfl
theorem x_140_82   : am_E d 140 Q (82, L, st, g) ↔ am_K d 140 Q (am_ldI 84 L st g 7) := am_E_iload (by decide +kernel : am_dc 140 82 = some (.iload 7)) rfl
theorem x_140_84   : am_E d 140 Q (84, L, .int x :: .ref a :: st, g) ↔ am_kv d 140 Q 85 L st g (am_iat .iaload g a x) := am_E_iaload (by decide +kernel : am_dc 140 84 = some (.iaload)) rfl
theorem x_140_85   : am_E d 140 Q (85, L, st, g) ↔ am_K d 140 Q (am_ldL 87 L st g 8) := am_E_lload (by decide +kernel : am_dc 140 85 = some (.lload 8)) rfl
theorem x_140_87   : am_E d 140 Q (87, L, st, g) ↔ am_K d 140 Q (am_ldL 89 L st g 5) := am_E_lload (by decide +kernel : am_dc 140 87 = some (.lload 5)) rfl
theorem x_140_89   : am_E d 140 Q (89, L, .long w :: .long u :: st, g) ↔ am_E d 140 Q (90, L, .long (u - w) :: st, g) := am_E_lsub (by decide +kernel : am_dc 140 89 = some (.lsub)) rfl
theorem x_140_90   : am_E d 140 Q (90, L, .long u :: st, g) ↔ am_E d 140 Q (91, L, .int u.toInt32 :: st, g) := am_E_l2i (by decide +kernel : am_dc 140 90 = some (.l2i)) rfl
theorem x_140_91   : am_E d 140 Q (91, L, v :: .int x :: .ref a :: st, g) ↔ am_kg d 140 Q 92 L st (am_sat .iastore g a x v) := am_E_iastore (by decide +kernel : am_dc 140 91 = some (.iastore)) rfl
theorem x_140_92   : am_E d 140 Q (92, L, st, g) ↔ am_K d 140 Q (am_ldL 94 L st g 8) := am_E_lload (by decide +kernel : am_dc 140 92 = some (.lload 8)) rfl
theorem x_140_94   : am_E d 140 Q (94, L, st, g) ↔ am_K d 140 Q (am_stL 96 L st g 5) := am_E_lstore (by decide +kernel : am_dc 140 94 = some (.lstore 5)) rfl
theorem x_140_96   (hk : L.getD 7 none = some (.int x)) (hl : 7 < L.length) : am_E d 140 Q (96, L, st, g) ↔ am_E d 140 Q (99, am_s1 L 7 (.int (x + (1))), st, g) := am_E_iinc (by decide +kernel : am_dc 140 96 = some (.iinc 7 (1))) (by decide) rfl hk hl
theorem x_140_99   : am_E d 140 Q (99, L, st, g) ↔ am_E d 140 Q (8, L, st, g) := am_E_gt (by decide +kernel : am_dc 140 99 = some (.goto (-91))) rfl rfl
theorem x_140_102  : am_E d 140 Q (102, L, [], g) ↔ Q (.inl none) g := am_E_return (by decide +kernel : am_dc 140 102 = some (.return_)) (by decide +kernel)
theorem f_140_31 : am_fl 140 31 = some (9, 5) := by decide +kernel
theorem f_140_9 : am_fl 140 9 = some (9, 3) := by decide +kernel
theorem v_140_46 : am_iv 140 46 = some (1, 141, 3) := by decide +kernel
theorem f_140_50 : am_fl 140 50 = some (9, 4) := by decide +kernel
theorem f_140_23 : am_fl 140 23 = some (9, 2) := by decide +kernel
theorem f_140_54 : am_fl 140 54 = some (2, 0) := by decide +kernel
theorem t_140 : am_t 140 = none := by decide +kernel
theorem h_140 : am_h 140 = [] := by decide +kernel
theorem m_140 : am_m 140 = 10 := by decide +kernel
theorem x_141_0   : am_E d 141 Q (0, L, st, g) ↔ am_K d 141 Q (am_ldA 1 L st g 0) := am_E_aload_n (by decide +kernel : am_dc 141 0 = some (.aload_n 0)) rfl rfl
theorem x_141_1   : am_E d 141 Q (1, L, .ref a :: st, g) ↔ am_kv d 141 Q 4 L st g (am_gf g a 9 2) := am_E_getfield (by decide +kernel : am_dc 141 1 = some (.getfield 23)) (by decide +kernel) rfl
theorem x_141_4   : am_E d 141 Q (4, L, st, g) ↔ am_K d 141 Q (am_ldI 5 L st g 1) := am_E_iload_n (by decide +kernel : am_dc 141 4 = some (.iload_n 1)) rfl rfl
theorem x_141_5   : am_E d 141 Q (5, L, st, g) ↔ am_K d 141 Q (am_ldI 6 L st g 2) := am_E_iload_n (by decide +kernel : am_dc 141 5 = some (.iload_n 2)) rfl rfl
theorem x_141_6  : am_E d 141 Q (6, L, st, g) ↔ am_K d 141 Q (am_S 141 (.invokevirtual 107) 6 L st g) := am_E_x (by decide +kernel : am_dc 141 6 = some (.invokevirtual 107))
theorem x_141_9   : am_E d 141 Q (9, L, st, g) ↔ am_K d 141 Q (am_stI 10 L st g 3) := am_E_istore_n (by decide +kernel : am_dc 141 9 = some (.istore_n 3)) rfl rfl
theorem x_141_10   : am_E d 141 Q (10, L, st, g) ↔ am_K d 141 Q (am_ldI 11 L st g 3) := am_E_iload_n (by decide +kernel : am_dc 141 10 = some (.iload_n 3)) rfl rfl
theorem x_141_11  : am_E d 141 Q (11, L, st, g) ↔ am_K d 141 Q (am_S 141 (.ldc 110) 11 L st g) := am_E_x (by decide +kernel : am_dc 141 11 = some (.ldc 110))
theorem x_141_13   : am_E d 141 Q (13, L, .int y :: .int x :: st, g) ↔ am_E d 141 Q (am_cmp .ne x y 20 16, L, st, g) := am_E_ic (by decide +kernel : am_dc 141 13 = some (.if_icmp .ne (7))) rfl rfl
theorem x_141_16   : am_E d 141 Q (16, L, st, g) ↔ am_E d 141 Q (17, L, .long (0) :: st, g) := am_E_lconst (by decide +kernel : am_dc 141 16 = some (.lconst 0)) (by decide) rfl
theorem x_141_17   : am_E d 141 Q (17, L, st, g) ↔ am_E d 141 Q (22, L, st, g) := am_E_gt (by decide +kernel : am_dc 141 17 = some (.goto (5))) rfl rfl
theorem x_141_20   : am_E d 141 Q (20, L, st, g) ↔ am_K d 141 Q (am_ldI 21 L st g 3) := am_E_iload_n (by decide +kernel : am_dc 141 20 = some (.iload_n 3)) rfl rfl
theorem x_141_21   : am_E d 141 Q (21, L, .int x :: st, g) ↔ am_E d 141 Q (22, L, .long x.toInt64 :: st, g) := am_E_i2l (by decide +kernel : am_dc 141 21 = some (.i2l)) rfl
theorem x_141_22  : am_E d 141 Q (22, L, [.long u], g) ↔ Q (.inl (some (.long u))) g := am_E_lreturn (by decide +kernel : am_dc 141 22 = some (.lreturn)) (by decide +kernel)
theorem f_141_23 : am_fl 141 23 = some (9, 2) := by decide +kernel
theorem v_141_107 : am_iv 141 107 = some (1, 82, 3) := by decide +kernel
theorem k_141_110 : am_ci 141 110 = some (-2147483648) := by decide +kernel
theorem t_141 : am_t 141 = some (FieldType.long) := by decide +kernel
theorem h_141 : am_h 141 = [] := by decide +kernel
theorem m_141 : am_m 141 = 4 := by decide +kernel
theorem x_142_0   : am_E d 142 Q (0, L, st, g) ↔ am_K d 142 Q (am_ldA 1 L st g 0) := am_E_aload_n (by decide +kernel : am_dc 142 0 = some (.aload_n 0)) rfl rfl
theorem x_142_1  : am_E d 142 Q (1, L, st, g) ↔ am_K d 142 Q (am_S 142 (.invokespecial 3) 1 L st g) := am_E_x (by decide +kernel : am_dc 142 1 = some (.invokespecial 3))
theorem x_142_4   : am_E d 142 Q (4, L, st, g) ↔ am_K d 142 Q (am_ldA 5 L st g 0) := am_E_aload_n (by decide +kernel : am_dc 142 4 = some (.aload_n 0)) rfl rfl
theorem x_142_5   : am_E d 142 Q (5, L, st, g) ↔ am_E d 142 Q (7, L, .int (6) :: st, g) := am_E_bipush (by decide +kernel : am_dc 142 5 = some (.bipush (6))) (by decide) rfl
theorem x_142_7  : am_E d 142 Q (7, L, st, g) ↔ am_K d 142 Q (am_S 142 (.newarray .int) 7 L st g) := am_E_x (by decide +kernel : am_dc 142 7 = some (.newarray .int))
theorem x_142_9   (hok : (am_ok (am_ft 10 0).1 v && (!(am_ft 10 0).2 || (am_ini 142 && am_co 10 == am_o 142)) && decide (10 < 13)) = true) : am_E d 142 Q (9, L, v :: .ref a :: st, g) ↔ am_kg d 142 Q 12 L st (am_pf g a 10 0 v) := am_E_putfield (by decide +kernel : am_dc 142 9 = some (.putfield 9)) (by decide +kernel) rfl hok
theorem x_142_12   : am_E d 142 Q (12, L, st, g) ↔ am_K d 142 Q (am_ldA 13 L st g 0) := am_E_aload_n (by decide +kernel : am_dc 142 12 = some (.aload_n 0)) rfl rfl
theorem x_142_13   : am_E d 142 Q (13, L, st, g) ↔ am_E d 142 Q (15, L, .int (6) :: st, g) := am_E_bipush (by decide +kernel : am_dc 142 13 = some (.bipush (6))) (by decide) rfl
theorem x_142_15  : am_E d 142 Q (15, L, st, g) ↔ am_K d 142 Q (am_S 142 (.newarray .int) 15 L st g) := am_E_x (by decide +kernel : am_dc 142 15 = some (.newarray .int))
theorem x_142_17   (hok : (am_ok (am_ft 10 1).1 v && (!(am_ft 10 1).2 || (am_ini 142 && am_co 10 == am_o 142)) && decide (10 < 13)) = true) : am_E d 142 Q (17, L, v :: .ref a :: st, g) ↔ am_kg d 142 Q 20 L st (am_pf g a 10 1 v) := am_E_putfield (by decide +kernel : am_dc 142 17 = some (.putfield 15)) (by decide +kernel) rfl hok
theorem x_142_20   : am_E d 142 Q (20, L, st, g) ↔ am_K d 142 Q (am_ldA 21 L st g 0) := am_E_aload_n (by decide +kernel : am_dc 142 20 = some (.aload_n 0)) rfl rfl
theorem x_142_21   : am_E d 142 Q (21, L, st, g) ↔ am_E d 142 Q (23, L, .int (6) :: st, g) := am_E_bipush (by decide +kernel : am_dc 142 21 = some (.bipush (6))) (by decide) rfl
theorem x_142_23  : am_E d 142 Q (23, L, st, g) ↔ am_K d 142 Q (am_S 142 (.newarray .int) 23 L st g) := am_E_x (by decide +kernel : am_dc 142 23 = some (.newarray .int))
theorem x_142_25   (hok : (am_ok (am_ft 10 2).1 v && (!(am_ft 10 2).2 || (am_ini 142 && am_co 10 == am_o 142)) && decide (10 < 13)) = true) : am_E d 142 Q (25, L, v :: .ref a :: st, g) ↔ am_kg d 142 Q 28 L st (am_pf g a 10 2 v) := am_E_putfield (by decide +kernel : am_dc 142 25 = some (.putfield 18)) (by decide +kernel) rfl hok
theorem x_142_28   : am_E d 142 Q (28, L, st, g) ↔ am_K d 142 Q (am_ldA 29 L st g 0) := am_E_aload_n (by decide +kernel : am_dc 142 28 = some (.aload_n 0)) rfl rfl
theorem x_142_29   : am_E d 142 Q (29, L, st, g) ↔ am_E d 142 Q (31, L, .int (6) :: st, g) := am_E_bipush (by decide +kernel : am_dc 142 29 = some (.bipush (6))) (by decide) rfl
theorem x_142_31  : am_E d 142 Q (31, L, st, g) ↔ am_K d 142 Q (am_S 142 (.newarray .int) 31 L st g) := am_E_x (by decide +kernel : am_dc 142 31 = some (.newarray .int))
theorem x_142_33   (hok : (am_ok (am_ft 10 3).1 v && (!(am_ft 10 3).2 || (am_ini 142 && am_co 10 == am_o 142)) && decide (10 < 13)) = true) : am_E d 142 Q (33, L, v :: .ref a :: st, g) ↔ am_kg d 142 Q 36 L st (am_pf g a 10 3 v) := am_E_putfield (by decide +kernel : am_dc 142 33 = some (.putfield 21)) (by decide +kernel) rfl hok
theorem x_142_36   : am_E d 142 Q (36, L, st, g) ↔ am_K d 142 Q (am_ldA 37 L st g 0) := am_E_aload_n (by decide +kernel : am_dc 142 36 = some (.aload_n 0)) rfl rfl
theorem x_142_37   : am_E d 142 Q (37, L, st, g) ↔ am_E d 142 Q (39, L, .int (6) :: st, g) := am_E_bipush (by decide +kernel : am_dc 142 37 = some (.bipush (6))) (by decide) rfl
theorem x_142_39  : am_E d 142 Q (39, L, st, g) ↔ am_K d 142 Q (am_S 142 (.newarray .int) 39 L st g) := am_E_x (by decide +kernel : am_dc 142 39 = some (.newarray .int))
theorem x_142_41   (hok : (am_ok (am_ft 10 4).1 v && (!(am_ft 10 4).2 || (am_ini 142 && am_co 10 == am_o 142)) && decide (10 < 13)) = true) : am_E d 142 Q (41, L, v :: .ref a :: st, g) ↔ am_kg d 142 Q 44 L st (am_pf g a 10 4 v) := am_E_putfield (by decide +kernel : am_dc 142 41 = some (.putfield 24)) (by decide +kernel) rfl hok
theorem x_142_44   : am_E d 142 Q (44, L, st, g) ↔ am_K d 142 Q (am_ldA 45 L st g 0) := am_E_aload_n (by decide +kernel : am_dc 142 44 = some (.aload_n 0)) rfl rfl
theorem x_142_45   : am_E d 142 Q (45, L, .ref a :: st, g) ↔ am_kv d 142 Q 48 L st g (am_gf g a 10 0) := am_E_getfield (by decide +kernel : am_dc 142 45 = some (.getfield 9)) (by decide +kernel) rfl
theorem x_142_48   : am_E d 142 Q (48, L, st, g) ↔ am_E d 142 Q (50, L, .int (-2) :: st, g) := am_E_bipush (by decide +kernel : am_dc 142 48 = some (.bipush (-2))) (by decide) rfl
theorem x_142_50  : am_E d 142 Q (50, L, st, g) ↔ am_K d 142 Q (am_S 142 (.invokestatic 27) 50 L st g) := am_E_x (by decide +kernel : am_dc 142 50 = some (.invokestatic 27))
theorem x_142_53   : am_E d 142 Q (53, L, st, g) ↔ am_K d 142 Q (am_ldA 54 L st g 0) := am_E_aload_n (by decide +kernel : am_dc 142 53 = some (.aload_n 0)) rfl rfl
theorem x_142_54   : am_E d 142 Q (54, L, st, g) ↔ am_E d 142 Q (55, L, .int (-1) :: st, g) := am_E_iconst (by decide +kernel : am_dc 142 54 = some (.iconst (-1))) (by decide) rfl
theorem x_142_55   : am_E d 142 Q (55, L, st, g) ↔ am_E d 142 Q (56, L, .int (1) :: st, g) := am_E_iconst (by decide +kernel : am_dc 142 55 = some (.iconst (1))) (by decide) rfl
theorem x_142_56  : am_E d 142 Q (56, L, st, g) ↔ am_K d 142 Q (am_S 142 (.invokevirtual 33) 56 L st g) := am_E_x (by decide +kernel : am_dc 142 56 = some (.invokevirtual 33))
theorem x_142_59   : am_E d 142 Q (59, L, v :: st, g) ↔ if v.category = 1 then am_E d 142 Q (60, L, st, g) else False := am_E_pop (by decide +kernel : am_dc 142 59 = some (.pop)) rfl
theorem x_142_60  : am_E d 142 Q (60, L, [], g) ↔ Q (.inl none) g := am_E_return (by decide +kernel : am_dc 142 60 = some (.return_)) (by decide +kernel)
theorem v_142_3 : am_iv 142 3 = some (3, 0, 1) := by decide +kernel
theorem f_142_9 : am_fl 142 9 = some (10, 0) := by decide +kernel
theorem f_142_15 : am_fl 142 15 = some (10, 1) := by decide +kernel
theorem f_142_18 : am_fl 142 18 = some (10, 2) := by decide +kernel
theorem f_142_21 : am_fl 142 21 = some (10, 3) := by decide +kernel
theorem f_142_24 : am_fl 142 24 = some (10, 4) := by decide +kernel
theorem v_142_27 : am_iv 142 27 = some (0, 311, 2) := by decide +kernel
theorem v_142_33 : am_iv 142 33 = some (1, 146, 3) := by decide +kernel
theorem t_142 : am_t 142 = none := by decide +kernel
theorem h_142 : am_h 142 = [] := by decide +kernel
theorem m_142 : am_m 142 = 1 := by decide +kernel
theorem x_143_0   : am_E d 143 Q (0, L, st, g) ↔ am_K d 143 Q (am_ldA 1 L st g 0) := am_E_aload_n (by decide +kernel : am_dc 143 0 = some (.aload_n 0)) rfl rfl
theorem x_143_1   : am_E d 143 Q (1, L, .ref a :: st, g) ↔ am_kv d 143 Q 4 L st g (am_gf g a 10 3) := am_E_getfield (by decide +kernel : am_dc 143 1 = some (.getfield 21)) (by decide +kernel) rfl
theorem x_143_4   : am_E d 143 Q (4, L, st, g) ↔ am_E d 143 Q (5, L, .int (-1) :: st, g) := am_E_iconst (by decide +kernel : am_dc 143 4 = some (.iconst (-1))) (by decide) rfl
theorem x_143_5  : am_E d 143 Q (5, L, st, g) ↔ am_K d 143 Q (am_S 143 (.invokestatic 27) 5 L st g) := am_E_x (by decide +kernel : am_dc 143 5 = some (.invokestatic 27))
theorem x_143_8   : am_E d 143 Q (8, L, st, g) ↔ am_K d 143 Q (am_ldA 9 L st g 0) := am_E_aload_n (by decide +kernel : am_dc 143 8 = some (.aload_n 0)) rfl rfl
theorem x_143_9   : am_E d 143 Q (9, L, st, g) ↔ am_E d 143 Q (10, L, .int (0) :: st, g) := am_E_iconst (by decide +kernel : am_dc 143 9 = some (.iconst (0))) (by decide) rfl
theorem x_143_10   (hok : (am_ok (am_ft 10 5).1 v && (!(am_ft 10 5).2 || (am_ini 143 && am_co 10 == am_o 143)) && decide (10 < 13)) = true) : am_E d 143 Q (10, L, v :: .ref a :: st, g) ↔ am_kg d 143 Q 13 L st (am_pf g a 10 5 v) := am_E_putfield (by decide +kernel : am_dc 143 10 = some (.putfield 48)) (by decide +kernel) rfl hok
theorem x_143_13   : am_E d 143 Q (13, L, st, g) ↔ am_K d 143 Q (am_ldA 14 L st g 0) := am_E_aload_n (by decide +kernel : am_dc 143 13 = some (.aload_n 0)) rfl rfl
theorem x_143_14   : am_E d 143 Q (14, L, st, g) ↔ am_E d 143 Q (15, L, .int (-1) :: st, g) := am_E_iconst (by decide +kernel : am_dc 143 14 = some (.iconst (-1))) (by decide) rfl
theorem x_143_15   : am_E d 143 Q (15, L, st, g) ↔ am_E d 143 Q (16, L, .int (0) :: st, g) := am_E_iconst (by decide +kernel : am_dc 143 15 = some (.iconst (0))) (by decide) rfl
theorem x_143_16  : am_E d 143 Q (16, L, st, g) ↔ am_K d 143 Q (am_S 143 (.invokevirtual 51) 16 L st g) := am_E_x (by decide +kernel : am_dc 143 16 = some (.invokevirtual 51))
theorem x_143_19  : am_E d 143 Q (19, L, [], g) ↔ Q (.inl none) g := am_E_return (by decide +kernel : am_dc 143 19 = some (.return_)) (by decide +kernel)
theorem f_143_21 : am_fl 143 21 = some (10, 3) := by decide +kernel
theorem v_143_27 : am_iv 143 27 = some (0, 311, 2) := by decide +kernel
theorem f_143_48 : am_fl 143 48 = some (10, 5) := by decide +kernel
theorem v_143_51 : am_iv 143 51 = some (1, 155, 3) := by decide +kernel
theorem t_143 : am_t 143 = none := by decide +kernel
theorem h_143 : am_h 143 = [] := by decide +kernel
theorem m_143 : am_m 143 = 1 := by decide +kernel
theorem x_144_0   : am_E d 144 Q (0, L, st, g) ↔ am_K d 144 Q (am_ldA 1 L st g 0) := am_E_aload_n (by decide +kernel : am_dc 144 0 = some (.aload_n 0)) rfl rfl
theorem x_144_1   : am_E d 144 Q (1, L, .ref a :: st, g) ↔ am_kv d 144 Q 4 L st g (am_gf g a 10 0) := am_E_getfield (by decide +kernel : am_dc 144 1 = some (.getfield 9)) (by decide +kernel) rfl
theorem x_144_4   : am_E d 144 Q (4, L, st, g) ↔ am_K d 144 Q (am_ldI 5 L st g 1) := am_E_iload_n (by decide +kernel : am_dc 144 4 = some (.iload_n 1)) rfl rfl
theorem x_144_5   : am_E d 144 Q (5, L, st, g) ↔ am_E d 144 Q (7, L, .int (-2) :: st, g) := am_E_bipush (by decide +kernel : am_dc 144 5 = some (.bipush (-2))) (by decide) rfl
theorem x_144_7   : am_E d 144 Q (7, L, v :: .int x :: .ref a :: st, g) ↔ am_kg d 144 Q 8 L st (am_sat .iastore g a x v) := am_E_iastore (by decide +kernel : am_dc 144 7 = some (.iastore)) rfl
theorem x_144_8   : am_E d 144 Q (8, L, st, g) ↔ am_K d 144 Q (am_ldA 9 L st g 0) := am_E_aload_n (by decide +kernel : am_dc 144 8 = some (.aload_n 0)) rfl rfl
theorem x_144_9   : am_E d 144 Q (9, L, v :: st, g) ↔ if v.category = 1 then am_E d 144 Q (10, L, v :: v :: st, g) else False := am_E_dup (by decide +kernel : am_dc 144 9 = some (.dup)) rfl
theorem x_144_10   : am_E d 144 Q (10, L, .ref a :: st, g) ↔ am_kv d 144 Q 13 L st g (am_gf g a 10 6) := am_E_getfield (by decide +kernel : am_dc 144 10 = some (.getfield 37)) (by decide +kernel) rfl
theorem x_144_13   : am_E d 144 Q (13, L, st, g) ↔ am_E d 144 Q (14, L, .int (1) :: st, g) := am_E_iconst (by decide +kernel : am_dc 144 13 = some (.iconst (1))) (by decide) rfl
theorem x_144_14   : am_E d 144 Q (14, L, .int y :: .int x :: st, g) ↔ am_E d 144 Q (15, L, .int (x - y) :: st, g) := am_E_isub (by decide +kernel : am_dc 144 14 = some (.isub)) rfl
theorem x_144_15   (hok : (am_ok (am_ft 10 6).1 v && (!(am_ft 10 6).2 || (am_ini 144 && am_co 10 == am_o 144)) && decide (10 < 13)) = true) : am_E d 144 Q (15, L, v :: .ref a :: st, g) ↔ am_kg d 144 Q 18 L st (am_pf g a 10 6 v) := am_E_putfield (by decide +kernel : am_dc 144 15 = some (.putfield 37)) (by decide +kernel) rfl hok
theorem x_144_18   : am_E d 144 Q (18, L, st, g) ↔ am_K d 144 Q (am_ldA 19 L st g 0) := am_E_aload_n (by decide +kernel : am_dc 144 18 = some (.aload_n 0)) rfl rfl
theorem x_144_19  : am_E d 144 Q (19, L, st, g) ↔ am_K d 144 Q (am_S 144 (.invokevirtual 41) 19 L st g) := am_E_x (by decide +kernel : am_dc 144 19 = some (.invokevirtual 41))
theorem x_144_22  : am_E d 144 Q (22, L, [], g) ↔ Q (.inl none) g := am_E_return (by decide +kernel : am_dc 144 22 = some (.return_)) (by decide +kernel)
theorem f_144_9 : am_fl 144 9 = some (10, 0) := by decide +kernel
theorem f_144_37 : am_fl 144 37 = some (10, 6) := by decide +kernel
theorem v_144_41 : am_iv 144 41 = some (1, 143, 1) := by decide +kernel
theorem t_144 : am_t 144 = none := by decide +kernel
theorem h_144 : am_h 144 = [] := by decide +kernel
theorem m_144 : am_m 144 = 2 := by decide +kernel
theorem x_145_0   : am_E d 145 Q (0, L, st, g) ↔ am_E d 145 Q (1, L, .int (0) :: st, g) := am_E_iconst (by decide +kernel : am_dc 145 0 = some (.iconst (0))) (by decide) rfl
theorem x_145_1   : am_E d 145 Q (1, L, st, g) ↔ am_K d 145 Q (am_stI 2 L st g 2) := am_E_istore_n (by decide +kernel : am_dc 145 1 = some (.istore_n 2)) rfl rfl
theorem x_145_2   : am_E d 145 Q (2, L, st, g) ↔ am_K d 145 Q (am_ldI 3 L st g 2) := am_E_iload_n (by decide +kernel : am_dc 145 2 = some (.iload_n 2)) rfl rfl
theorem x_145_3   : am_E d 145 Q (3, L, st, g) ↔ am_E d 145 Q (5, L, .int (6) :: st, g) := am_E_bipush (by decide +kernel : am_dc 145 3 = some (.bipush (6))) (by decide) rfl
theorem x_145_5   : am_E d 145 Q (5, L, .int y :: .int x :: st, g) ↔ am_E d 145 Q (am_cmp .ge x y 24 8, L, st, g) := am_E_ic (by decide +kernel : am_dc 145 5 = some (.if_icmp .ge (19))) rfl rfl
theorem x_145_8   : am_E d 145 Q (8, L, st, g) ↔ am_K d 145 Q (am_ldA 9 L st g 0) := am_E_aload_n (by decide +kernel : am_dc 145 8 = some (.aload_n 0)) rfl rfl
theorem x_145_9   : am_E d 145 Q (9, L, .ref a :: st, g) ↔ am_kv d 145 Q 12 L st g (am_gf g a 10 0) := am_E_getfield (by decide +kernel : am_dc 145 9 = some (.getfield 9)) (by decide +kernel) rfl
theorem x_145_12   : am_E d 145 Q (12, L, st, g) ↔ am_K d 145 Q (am_ldI 13 L st g 2) := am_E_iload_n (by decide +kernel : am_dc 145 12 = some (.iload_n 2)) rfl rfl
theorem x_145_13   : am_E d 145 Q (13, L, .int x :: .ref a :: st, g) ↔ am_kv d 145 Q 14 L st g (am_iat .iaload g a x) := am_E_iaload (by decide +kernel : am_dc 145 13 = some (.iaload)) rfl
theorem x_145_14   : am_E d 145 Q (14, L, st, g) ↔ am_K d 145 Q (am_ldI 15 L st g 1) := am_E_iload_n (by decide +kernel : am_dc 145 14 = some (.iload_n 1)) rfl rfl
theorem x_145_15   : am_E d 145 Q (15, L, .int y :: .int x :: st, g) ↔ am_E d 145 Q (am_cmp .eq x y 24 18, L, st, g) := am_E_ic (by decide +kernel : am_dc 145 15 = some (.if_icmp .eq (9))) rfl rfl
theorem x_145_18   (hk : L.getD 2 none = some (.int x)) (hl : 2 < L.length) : am_E d 145 Q (18, L, st, g) ↔ am_E d 145 Q (21, am_s1 L 2 (.int (x + (1))), st, g) := am_E_iinc (by decide +kernel : am_dc 145 18 = some (.iinc 2 (1))) (by decide) rfl hk hl
theorem x_145_21   : am_E d 145 Q (21, L, st, g) ↔ am_E d 145 Q (2, L, st, g) := am_E_gt (by decide +kernel : am_dc 145 21 = some (.goto (-19))) rfl rfl
theorem x_145_24   : am_E d 145 Q (24, L, st, g) ↔ am_K d 145 Q (am_ldI 25 L st g 2) := am_E_iload_n (by decide +kernel : am_dc 145 24 = some (.iload_n 2)) rfl rfl
theorem x_145_25   : am_E d 145 Q (25, L, st, g) ↔ am_E d 145 Q (27, L, .int (6) :: st, g) := am_E_bipush (by decide +kernel : am_dc 145 25 = some (.bipush (6))) (by decide) rfl
theorem x_145_27   : am_E d 145 Q (27, L, .int y :: .int x :: st, g) ↔ am_E d 145 Q (am_cmp .ge x y 34 30, L, st, g) := am_E_ic (by decide +kernel : am_dc 145 27 = some (.if_icmp .ge (7))) rfl rfl
theorem x_145_30   : am_E d 145 Q (30, L, st, g) ↔ am_K d 145 Q (am_ldI 31 L st g 2) := am_E_iload_n (by decide +kernel : am_dc 145 30 = some (.iload_n 2)) rfl rfl
theorem x_145_31   : am_E d 145 Q (31, L, st, g) ↔ am_E d 145 Q (35, L, st, g) := am_E_gt (by decide +kernel : am_dc 145 31 = some (.goto (4))) rfl rfl
theorem x_145_34   : am_E d 145 Q (34, L, st, g) ↔ am_E d 145 Q (35, L, .int (-1) :: st, g) := am_E_iconst (by decide +kernel : am_dc 145 34 = some (.iconst (-1))) (by decide) rfl
theorem x_145_35  : am_E d 145 Q (35, L, [.int x], g) ↔ if am_ok (FieldType.int) (.int x) = true then Q (.inl (some (.int x))) g else False := am_E_ireturn (by decide +kernel : am_dc 145 35 = some (.ireturn)) (by decide +kernel)
theorem f_145_9 : am_fl 145 9 = some (10, 0) := by decide +kernel
theorem t_145 : am_t 145 = some (FieldType.int) := by decide +kernel
theorem h_145 : am_h 145 = [] := by decide +kernel
theorem m_145 : am_m 145 = 3 := by decide +kernel
theorem x_146_0   : am_E d 146 Q (0, L, st, g) ↔ am_E d 146 Q (1, L, .int (0) :: st, g) := am_E_iconst (by decide +kernel : am_dc 146 0 = some (.iconst (0))) (by decide) rfl
theorem x_146_1   : am_E d 146 Q (1, L, st, g) ↔ am_K d 146 Q (am_stI 2 L st g 3) := am_E_istore_n (by decide +kernel : am_dc 146 1 = some (.istore_n 3)) rfl rfl
theorem x_146_2   : am_E d 146 Q (2, L, st, g) ↔ am_K d 146 Q (am_ldI 3 L st g 3) := am_E_iload_n (by decide +kernel : am_dc 146 2 = some (.iload_n 3)) rfl rfl
theorem x_146_3   : am_E d 146 Q (3, L, st, g) ↔ am_E d 146 Q (4, L, .int (5) :: st, g) := am_E_iconst (by decide +kernel : am_dc 146 3 = some (.iconst (5))) (by decide) rfl
theorem x_146_4   : am_E d 146 Q (4, L, .int y :: .int x :: st, g) ↔ am_E d 146 Q (am_cmp .ge x y 24 7, L, st, g) := am_E_ic (by decide +kernel : am_dc 146 4 = some (.if_icmp .ge (20))) rfl rfl
theorem x_146_7   : am_E d 146 Q (7, L, st, g) ↔ am_K d 146 Q (am_ldA 8 L st g 0) := am_E_aload_n (by decide +kernel : am_dc 146 7 = some (.aload_n 0)) rfl rfl
theorem x_146_8   : am_E d 146 Q (8, L, .ref a :: st, g) ↔ am_kv d 146 Q 11 L st g (am_gf g a 10 0) := am_E_getfield (by decide +kernel : am_dc 146 8 = some (.getfield 9)) (by decide +kernel) rfl
theorem x_146_11   : am_E d 146 Q (11, L, st, g) ↔ am_K d 146 Q (am_ldI 12 L st g 3) := am_E_iload_n (by decide +kernel : am_dc 146 11 = some (.iload_n 3)) rfl rfl
theorem x_146_12   : am_E d 146 Q (12, L, .int x :: .ref a :: st, g) ↔ am_kv d 146 Q 13 L st g (am_iat .iaload g a x) := am_E_iaload (by decide +kernel : am_dc 146 12 = some (.iaload)) rfl
theorem x_146_13   : am_E d 146 Q (13, L, st, g) ↔ am_E d 146 Q (15, L, .int (-2) :: st, g) := am_E_bipush (by decide +kernel : am_dc 146 13 = some (.bipush (-2))) (by decide) rfl
theorem x_146_15   : am_E d 146 Q (15, L, .int y :: .int x :: st, g) ↔ am_E d 146 Q (am_cmp .eq x y 24 18, L, st, g) := am_E_ic (by decide +kernel : am_dc 146 15 = some (.if_icmp .eq (9))) rfl rfl
theorem x_146_18   (hk : L.getD 3 none = some (.int x)) (hl : 3 < L.length) : am_E d 146 Q (18, L, st, g) ↔ am_E d 146 Q (21, am_s1 L 3 (.int (x + (1))), st, g) := am_E_iinc (by decide +kernel : am_dc 146 18 = some (.iinc 3 (1))) (by decide) rfl hk hl
theorem x_146_21   : am_E d 146 Q (21, L, st, g) ↔ am_E d 146 Q (2, L, st, g) := am_E_gt (by decide +kernel : am_dc 146 21 = some (.goto (-19))) rfl rfl
theorem x_146_24   : am_E d 146 Q (24, L, st, g) ↔ am_K d 146 Q (am_ldA 25 L st g 0) := am_E_aload_n (by decide +kernel : am_dc 146 24 = some (.aload_n 0)) rfl rfl
theorem x_146_25   : am_E d 146 Q (25, L, .ref a :: st, g) ↔ am_kv d 146 Q 28 L st g (am_gf g a 10 0) := am_E_getfield (by decide +kernel : am_dc 146 25 = some (.getfield 9)) (by decide +kernel) rfl
theorem x_146_28   : am_E d 146 Q (28, L, st, g) ↔ am_K d 146 Q (am_ldI 29 L st g 3) := am_E_iload_n (by decide +kernel : am_dc 146 28 = some (.iload_n 3)) rfl rfl
theorem x_146_29   : am_E d 146 Q (29, L, st, g) ↔ am_K d 146 Q (am_ldI 30 L st g 1) := am_E_iload_n (by decide +kernel : am_dc 146 29 = some (.iload_n 1)) rfl rfl
theorem x_146_30   : am_E d 146 Q (30, L, v :: .int x :: .ref a :: st, g) ↔ am_kg d 146 Q 31 L st (am_sat .iastore g a x v) := am_E_iastore (by decide +kernel : am_dc 146 30 = some (.iastore)) rfl
theorem x_146_31   : am_E d 146 Q (31, L, st, g) ↔ am_K d 146 Q (am_ldA 32 L st g 0) := am_E_aload_n (by decide +kernel : am_dc 146 31 = some (.aload_n 0)) rfl rfl
theorem x_146_32   : am_E d 146 Q (32, L, .ref a :: st, g) ↔ am_kv d 146 Q 35 L st g (am_gf g a 10 1) := am_E_getfield (by decide +kernel : am_dc 146 32 = some (.getfield 15)) (by decide +kernel) rfl
theorem x_146_35   : am_E d 146 Q (35, L, st, g) ↔ am_K d 146 Q (am_ldI 36 L st g 3) := am_E_iload_n (by decide +kernel : am_dc 146 35 = some (.iload_n 3)) rfl rfl
theorem x_146_36   : am_E d 146 Q (36, L, st, g) ↔ am_K d 146 Q (am_ldI 37 L st g 2) := am_E_iload_n (by decide +kernel : am_dc 146 36 = some (.iload_n 2)) rfl rfl
theorem x_146_37   : am_E d 146 Q (37, L, v :: .int x :: .ref a :: st, g) ↔ am_kg d 146 Q 38 L st (am_sat .iastore g a x v) := am_E_iastore (by decide +kernel : am_dc 146 37 = some (.iastore)) rfl
theorem x_146_38   : am_E d 146 Q (38, L, st, g) ↔ am_K d 146 Q (am_ldA 39 L st g 0) := am_E_aload_n (by decide +kernel : am_dc 146 38 = some (.aload_n 0)) rfl rfl
theorem x_146_39   : am_E d 146 Q (39, L, v :: st, g) ↔ if v.category = 1 then am_E d 146 Q (40, L, v :: v :: st, g) else False := am_E_dup (by decide +kernel : am_dc 146 39 = some (.dup)) rfl
theorem x_146_40   : am_E d 146 Q (40, L, .ref a :: st, g) ↔ am_kv d 146 Q 43 L st g (am_gf g a 10 6) := am_E_getfield (by decide +kernel : am_dc 146 40 = some (.getfield 37)) (by decide +kernel) rfl
theorem x_146_43   : am_E d 146 Q (43, L, st, g) ↔ am_E d 146 Q (44, L, .int (1) :: st, g) := am_E_iconst (by decide +kernel : am_dc 146 43 = some (.iconst (1))) (by decide) rfl
theorem x_146_44   : am_E d 146 Q (44, L, .int y :: .int x :: st, g) ↔ am_E d 146 Q (45, L, .int (x + y) :: st, g) := am_E_iadd (by decide +kernel : am_dc 146 44 = some (.iadd)) rfl
theorem x_146_45   (hok : (am_ok (am_ft 10 6).1 v && (!(am_ft 10 6).2 || (am_ini 146 && am_co 10 == am_o 146)) && decide (10 < 13)) = true) : am_E d 146 Q (45, L, v :: .ref a :: st, g) ↔ am_kg d 146 Q 48 L st (am_pf g a 10 6 v) := am_E_putfield (by decide +kernel : am_dc 146 45 = some (.putfield 37)) (by decide +kernel) rfl hok
theorem x_146_48   : am_E d 146 Q (48, L, st, g) ↔ am_K d 146 Q (am_ldA 49 L st g 0) := am_E_aload_n (by decide +kernel : am_dc 146 48 = some (.aload_n 0)) rfl rfl
theorem x_146_49  : am_E d 146 Q (49, L, st, g) ↔ am_K d 146 Q (am_S 146 (.invokevirtual 41) 49 L st g) := am_E_x (by decide +kernel : am_dc 146 49 = some (.invokevirtual 41))
theorem x_146_52   : am_E d 146 Q (52, L, st, g) ↔ am_K d 146 Q (am_ldI 53 L st g 3) := am_E_iload_n (by decide +kernel : am_dc 146 52 = some (.iload_n 3)) rfl rfl
theorem x_146_53  : am_E d 146 Q (53, L, [.int x], g) ↔ if am_ok (FieldType.int) (.int x) = true then Q (.inl (some (.int x))) g else False := am_E_ireturn (by decide +kernel : am_dc 146 53 = some (.ireturn)) (by decide +kernel)
theorem f_146_9 : am_fl 146 9 = some (10, 0) := by decide +kernel
theorem f_146_15 : am_fl 146 15 = some (10, 1) := by decide +kernel
theorem f_146_37 : am_fl 146 37 = some (10, 6) := by decide +kernel
theorem v_146_41 : am_iv 146 41 = some (1, 143, 1) := by decide +kernel
theorem t_146 : am_t 146 = some (FieldType.int) := by decide +kernel
theorem h_146 : am_h 146 = [] := by decide +kernel
theorem m_146 : am_m 146 = 4 := by decide +kernel
theorem x_147_0   : am_E d 147 Q (0, L, st, g) ↔ am_K d 147 Q (am_ldA 1 L st g 0) := am_E_aload_n (by decide +kernel : am_dc 147 0 = some (.aload_n 0)) rfl rfl
theorem x_147_1   : am_E d 147 Q (1, L, .ref a :: st, g) ↔ am_kv d 147 Q 4 L st g (am_gf g a 10 0) := am_E_getfield (by decide +kernel : am_dc 147 1 = some (.getfield 9)) (by decide +kernel) rfl
theorem x_147_4   : am_E d 147 Q (4, L, st, g) ↔ am_K d 147 Q (am_ldI 5 L st g 1) := am_E_iload_n (by decide +kernel : am_dc 147 4 = some (.iload_n 1)) rfl rfl
theorem x_147_5   : am_E d 147 Q (5, L, st, g) ↔ am_K d 147 Q (am_ldI 6 L st g 2) := am_E_iload_n (by decide +kernel : am_dc 147 5 = some (.iload_n 2)) rfl rfl
theorem x_147_6   : am_E d 147 Q (6, L, v :: .int x :: .ref a :: st, g) ↔ am_kg d 147 Q 7 L st (am_sat .iastore g a x v) := am_E_iastore (by decide +kernel : am_dc 147 6 = some (.iastore)) rfl
theorem x_147_7   : am_E d 147 Q (7, L, st, g) ↔ am_K d 147 Q (am_ldA 8 L st g 0) := am_E_aload_n (by decide +kernel : am_dc 147 7 = some (.aload_n 0)) rfl rfl
theorem x_147_8  : am_E d 147 Q (8, L, st, g) ↔ am_K d 147 Q (am_S 147 (.invokevirtual 41) 8 L st g) := am_E_x (by decide +kernel : am_dc 147 8 = some (.invokevirtual 41))
theorem x_147_11  : am_E d 147 Q (11, L, [], g) ↔ Q (.inl none) g := am_E_return (by decide +kernel : am_dc 147 11 = some (.return_)) (by decide +kernel)
theorem f_147_9 : am_fl 147 9 = some (10, 0) := by decide +kernel
theorem v_147_41 : am_iv 147 41 = some (1, 143, 1) := by decide +kernel
theorem t_147 : am_t 147 = none := by decide +kernel
theorem h_147 : am_h 147 = [] := by decide +kernel
theorem m_147 : am_m 147 = 3 := by decide +kernel
theorem x_148_0   : am_E d 148 Q (0, L, st, g) ↔ am_K d 148 Q (am_ldI 1 L st g 1) := am_E_iload_n (by decide +kernel : am_dc 148 0 = some (.iload_n 1)) rfl rfl
theorem x_148_1   : am_E d 148 Q (1, L, .int x :: st, g) ↔ am_E d 148 Q (am_cmp .lt x 0 25 4, L, st, g) := am_E_if (by decide +kernel : am_dc 148 1 = some (.ifCond .lt (24))) rfl rfl
theorem x_148_4   : am_E d 148 Q (4, L, st, g) ↔ am_K d 148 Q (am_ldI 5 L st g 1) := am_E_iload_n (by decide +kernel : am_dc 148 4 = some (.iload_n 1)) rfl rfl
theorem x_148_5   : am_E d 148 Q (5, L, st, g) ↔ am_E d 148 Q (7, L, .int (6) :: st, g) := am_E_bipush (by decide +kernel : am_dc 148 5 = some (.bipush (6))) (by decide) rfl
theorem x_148_7   : am_E d 148 Q (7, L, .int y :: .int x :: st, g) ↔ am_E d 148 Q (am_cmp .ge x y 25 10, L, st, g) := am_E_ic (by decide +kernel : am_dc 148 7 = some (.if_icmp .ge (18))) rfl rfl
theorem x_148_10   : am_E d 148 Q (10, L, st, g) ↔ am_K d 148 Q (am_ldA 11 L st g 0) := am_E_aload_n (by decide +kernel : am_dc 148 10 = some (.aload_n 0)) rfl rfl
theorem x_148_11   : am_E d 148 Q (11, L, .ref a :: st, g) ↔ am_kv d 148 Q 14 L st g (am_gf g a 10 0) := am_E_getfield (by decide +kernel : am_dc 148 11 = some (.getfield 9)) (by decide +kernel) rfl
theorem x_148_14   : am_E d 148 Q (14, L, st, g) ↔ am_K d 148 Q (am_ldI 15 L st g 1) := am_E_iload_n (by decide +kernel : am_dc 148 14 = some (.iload_n 1)) rfl rfl
theorem x_148_15   : am_E d 148 Q (15, L, .int x :: .ref a :: st, g) ↔ am_kv d 148 Q 16 L st g (am_iat .iaload g a x) := am_E_iaload (by decide +kernel : am_dc 148 15 = some (.iaload)) rfl
theorem x_148_16   : am_E d 148 Q (16, L, st, g) ↔ am_E d 148 Q (18, L, .int (-2) :: st, g) := am_E_bipush (by decide +kernel : am_dc 148 16 = some (.bipush (-2))) (by decide) rfl
theorem x_148_18   : am_E d 148 Q (18, L, .int y :: .int x :: st, g) ↔ am_E d 148 Q (am_cmp .eq x y 25 21, L, st, g) := am_E_ic (by decide +kernel : am_dc 148 18 = some (.if_icmp .eq (7))) rfl rfl
theorem x_148_21   : am_E d 148 Q (21, L, st, g) ↔ am_E d 148 Q (22, L, .int (1) :: st, g) := am_E_iconst (by decide +kernel : am_dc 148 21 = some (.iconst (1))) (by decide) rfl
theorem x_148_22   : am_E d 148 Q (22, L, st, g) ↔ am_E d 148 Q (26, L, st, g) := am_E_gt (by decide +kernel : am_dc 148 22 = some (.goto (4))) rfl rfl
theorem x_148_25   : am_E d 148 Q (25, L, st, g) ↔ am_E d 148 Q (26, L, .int (0) :: st, g) := am_E_iconst (by decide +kernel : am_dc 148 25 = some (.iconst (0))) (by decide) rfl
theorem x_148_26  : am_E d 148 Q (26, L, [.int x], g) ↔ if am_ok (FieldType.boolean) (.int x) = true then Q (.inl (some (.int x))) g else False := am_E_ireturn (by decide +kernel : am_dc 148 26 = some (.ireturn)) (by decide +kernel)
theorem f_148_9 : am_fl 148 9 = some (10, 0) := by decide +kernel
theorem t_148 : am_t 148 = some (FieldType.boolean) := by decide +kernel
theorem h_148 : am_h 148 = [] := by decide +kernel
theorem m_148 : am_m 148 = 2 := by decide +kernel
theorem x_149_0   : am_E d 149 Q (0, L, st, g) ↔ am_K d 149 Q (am_ldA 1 L st g 0) := am_E_aload_n (by decide +kernel : am_dc 149 0 = some (.aload_n 0)) rfl rfl
theorem x_149_1   : am_E d 149 Q (1, L, .ref a :: st, g) ↔ am_kv d 149 Q 4 L st g (am_gf g a 10 0) := am_E_getfield (by decide +kernel : am_dc 149 1 = some (.getfield 9)) (by decide +kernel) rfl
theorem x_149_4   : am_E d 149 Q (4, L, st, g) ↔ am_K d 149 Q (am_ldI 5 L st g 1) := am_E_iload_n (by decide +kernel : am_dc 149 4 = some (.iload_n 1)) rfl rfl
theorem x_149_5   : am_E d 149 Q (5, L, .int x :: .ref a :: st, g) ↔ am_kv d 149 Q 6 L st g (am_iat .iaload g a x) := am_E_iaload (by decide +kernel : am_dc 149 5 = some (.iaload)) rfl
theorem x_149_6   : am_E d 149 Q (6, L, st, g) ↔ am_K d 149 Q (am_ldI 7 L st g 2) := am_E_iload_n (by decide +kernel : am_dc 149 6 = some (.iload_n 2)) rfl rfl
theorem x_149_7   : am_E d 149 Q (7, L, .int y :: .int x :: st, g) ↔ am_E d 149 Q (am_cmp .ne x y 14 10, L, st, g) := am_E_ic (by decide +kernel : am_dc 149 7 = some (.if_icmp .ne (7))) rfl rfl
theorem x_149_10   : am_E d 149 Q (10, L, st, g) ↔ am_E d 149 Q (11, L, .int (1) :: st, g) := am_E_iconst (by decide +kernel : am_dc 149 10 = some (.iconst (1))) (by decide) rfl
theorem x_149_11   : am_E d 149 Q (11, L, st, g) ↔ am_E d 149 Q (15, L, st, g) := am_E_gt (by decide +kernel : am_dc 149 11 = some (.goto (4))) rfl rfl
theorem x_149_14   : am_E d 149 Q (14, L, st, g) ↔ am_E d 149 Q (15, L, .int (0) :: st, g) := am_E_iconst (by decide +kernel : am_dc 149 14 = some (.iconst (0))) (by decide) rfl
theorem x_149_15  : am_E d 149 Q (15, L, [.int x], g) ↔ if am_ok (FieldType.boolean) (.int x) = true then Q (.inl (some (.int x))) g else False := am_E_ireturn (by decide +kernel : am_dc 149 15 = some (.ireturn)) (by decide +kernel)
theorem f_149_9 : am_fl 149 9 = some (10, 0) := by decide +kernel
theorem t_149 : am_t 149 = some (FieldType.boolean) := by decide +kernel
theorem h_149 : am_h 149 = [] := by decide +kernel
theorem m_149 : am_m 149 = 3 := by decide +kernel
theorem x_150_0   : am_E d 150 Q (0, L, st, g) ↔ am_K d 150 Q (am_ldA 1 L st g 0) := am_E_aload_n (by decide +kernel : am_dc 150 0 = some (.aload_n 0)) rfl rfl
theorem x_150_1   : am_E d 150 Q (1, L, .ref a :: st, g) ↔ am_kv d 150 Q 4 L st g (am_gf g a 10 3) := am_E_getfield (by decide +kernel : am_dc 150 1 = some (.getfield 21)) (by decide +kernel) rfl
theorem x_150_4   : am_E d 150 Q (4, L, st, g) ↔ am_K d 150 Q (am_ldI 5 L st g 1) := am_E_iload_n (by decide +kernel : am_dc 150 4 = some (.iload_n 1)) rfl rfl
theorem x_150_5   : am_E d 150 Q (5, L, .int x :: .ref a :: st, g) ↔ am_kv d 150 Q 6 L st g (am_iat .iaload g a x) := am_E_iaload (by decide +kernel : am_dc 150 5 = some (.iaload)) rfl
theorem x_150_6   : am_E d 150 Q (6, L, st, g) ↔ am_E d 150 Q (7, L, .int (-1) :: st, g) := am_E_iconst (by decide +kernel : am_dc 150 6 = some (.iconst (-1))) (by decide) rfl
theorem x_150_7   : am_E d 150 Q (7, L, .int y :: .int x :: st, g) ↔ am_E d 150 Q (am_cmp .eq x y 14 10, L, st, g) := am_E_ic (by decide +kernel : am_dc 150 7 = some (.if_icmp .eq (7))) rfl rfl
theorem x_150_10   : am_E d 150 Q (10, L, st, g) ↔ am_E d 150 Q (11, L, .int (1) :: st, g) := am_E_iconst (by decide +kernel : am_dc 150 10 = some (.iconst (1))) (by decide) rfl
theorem x_150_11   : am_E d 150 Q (11, L, st, g) ↔ am_E d 150 Q (15, L, st, g) := am_E_gt (by decide +kernel : am_dc 150 11 = some (.goto (4))) rfl rfl
theorem x_150_14   : am_E d 150 Q (14, L, st, g) ↔ am_E d 150 Q (15, L, .int (0) :: st, g) := am_E_iconst (by decide +kernel : am_dc 150 14 = some (.iconst (0))) (by decide) rfl
theorem x_150_15  : am_E d 150 Q (15, L, [.int x], g) ↔ if am_ok (FieldType.boolean) (.int x) = true then Q (.inl (some (.int x))) g else False := am_E_ireturn (by decide +kernel : am_dc 150 15 = some (.ireturn)) (by decide +kernel)
theorem f_150_21 : am_fl 150 21 = some (10, 3) := by decide +kernel
theorem t_150 : am_t 150 = some (FieldType.boolean) := by decide +kernel
theorem h_150 : am_h 150 = [] := by decide +kernel
theorem m_150 : am_m 150 = 2 := by decide +kernel
theorem x_151_0   : am_E d 151 Q (0, L, st, g) ↔ am_K d 151 Q (am_ldI 1 L st g 1) := am_E_iload_n (by decide +kernel : am_dc 151 0 = some (.iload_n 1)) rfl rfl
theorem x_151_1   : am_E d 151 Q (1, L, st, g) ↔ am_K d 151 Q (am_stI 2 L st g 3) := am_E_istore_n (by decide +kernel : am_dc 151 1 = some (.istore_n 3)) rfl rfl
theorem x_151_2   : am_E d 151 Q (2, L, st, g) ↔ am_E d 151 Q (3, L, .int (0) :: st, g) := am_E_iconst (by decide +kernel : am_dc 151 2 = some (.iconst (0))) (by decide) rfl
theorem x_151_3   : am_E d 151 Q (3, L, st, g) ↔ am_K d 151 Q (am_stI 5 L st g 4) := am_E_istore (by decide +kernel : am_dc 151 3 = some (.istore 4)) rfl
theorem x_151_5   : am_E d 151 Q (5, L, st, g) ↔ am_K d 151 Q (am_ldI 7 L st g 4) := am_E_iload (by decide +kernel : am_dc 151 5 = some (.iload 4)) rfl
theorem x_151_7   : am_E d 151 Q (7, L, st, g) ↔ am_E d 151 Q (9, L, .int (6) :: st, g) := am_E_bipush (by decide +kernel : am_dc 151 7 = some (.bipush (6))) (by decide) rfl
theorem x_151_9   : am_E d 151 Q (9, L, .int y :: .int x :: st, g) ↔ am_E d 151 Q (am_cmp .ge x y 36 12, L, st, g) := am_E_ic (by decide +kernel : am_dc 151 9 = some (.if_icmp .ge (27))) rfl rfl
theorem x_151_12   : am_E d 151 Q (12, L, st, g) ↔ am_K d 151 Q (am_ldI 13 L st g 3) := am_E_iload_n (by decide +kernel : am_dc 151 12 = some (.iload_n 3)) rfl rfl
theorem x_151_13   : am_E d 151 Q (13, L, .int x :: st, g) ↔ am_E d 151 Q (am_cmp .lt x 0 36 16, L, st, g) := am_E_if (by decide +kernel : am_dc 151 13 = some (.ifCond .lt (23))) rfl rfl
theorem x_151_16   : am_E d 151 Q (16, L, st, g) ↔ am_K d 151 Q (am_ldI 17 L st g 3) := am_E_iload_n (by decide +kernel : am_dc 151 16 = some (.iload_n 3)) rfl rfl
theorem x_151_17   : am_E d 151 Q (17, L, st, g) ↔ am_K d 151 Q (am_ldI 18 L st g 2) := am_E_iload_n (by decide +kernel : am_dc 151 17 = some (.iload_n 2)) rfl rfl
theorem x_151_18   : am_E d 151 Q (18, L, .int y :: .int x :: st, g) ↔ am_E d 151 Q (am_cmp .ne x y 23 21, L, st, g) := am_E_ic (by decide +kernel : am_dc 151 18 = some (.if_icmp .ne (5))) rfl rfl
theorem x_151_21   : am_E d 151 Q (21, L, st, g) ↔ am_E d 151 Q (22, L, .int (1) :: st, g) := am_E_iconst (by decide +kernel : am_dc 151 21 = some (.iconst (1))) (by decide) rfl
theorem x_151_22  : am_E d 151 Q (22, L, [.int x], g) ↔ if am_ok (FieldType.boolean) (.int x) = true then Q (.inl (some (.int x))) g else False := am_E_ireturn (by decide +kernel : am_dc 151 22 = some (.ireturn)) (by decide +kernel)
theorem x_151_23   : am_E d 151 Q (23, L, st, g) ↔ am_K d 151 Q (am_ldA 24 L st g 0) := am_E_aload_n (by decide +kernel : am_dc 151 23 = some (.aload_n 0)) rfl rfl
theorem x_151_24   : am_E d 151 Q (24, L, .ref a :: st, g) ↔ am_kv d 151 Q 27 L st g (am_gf g a 10 0) := am_E_getfield (by decide +kernel : am_dc 151 24 = some (.getfield 9)) (by decide +kernel) rfl
theorem x_151_27   : am_E d 151 Q (27, L, st, g) ↔ am_K d 151 Q (am_ldI 28 L st g 3) := am_E_iload_n (by decide +kernel : am_dc 151 27 = some (.iload_n 3)) rfl rfl
theorem x_151_28   : am_E d 151 Q (28, L, .int x :: .ref a :: st, g) ↔ am_kv d 151 Q 29 L st g (am_iat .iaload g a x) := am_E_iaload (by decide +kernel : am_dc 151 28 = some (.iaload)) rfl
theorem x_151_29   : am_E d 151 Q (29, L, st, g) ↔ am_K d 151 Q (am_stI 30 L st g 3) := am_E_istore_n (by decide +kernel : am_dc 151 29 = some (.istore_n 3)) rfl rfl
theorem x_151_30   (hk : L.getD 4 none = some (.int x)) (hl : 4 < L.length) : am_E d 151 Q (30, L, st, g) ↔ am_E d 151 Q (33, am_s1 L 4 (.int (x + (1))), st, g) := am_E_iinc (by decide +kernel : am_dc 151 30 = some (.iinc 4 (1))) (by decide) rfl hk hl
theorem x_151_33   : am_E d 151 Q (33, L, st, g) ↔ am_E d 151 Q (5, L, st, g) := am_E_gt (by decide +kernel : am_dc 151 33 = some (.goto (-28))) rfl rfl
theorem x_151_36   : am_E d 151 Q (36, L, st, g) ↔ am_E d 151 Q (37, L, .int (0) :: st, g) := am_E_iconst (by decide +kernel : am_dc 151 36 = some (.iconst (0))) (by decide) rfl
theorem x_151_37  : am_E d 151 Q (37, L, [.int x], g) ↔ if am_ok (FieldType.boolean) (.int x) = true then Q (.inl (some (.int x))) g else False := am_E_ireturn (by decide +kernel : am_dc 151 37 = some (.ireturn)) (by decide +kernel)
theorem f_151_9 : am_fl 151 9 = some (10, 0) := by decide +kernel
theorem t_151 : am_t 151 = some (FieldType.boolean) := by decide +kernel
theorem h_151 : am_h 151 = [] := by decide +kernel
theorem m_151 : am_m 151 = 5 := by decide +kernel
theorem x_152_0   : am_E d 152 Q (0, L, st, g) ↔ am_E d 152 Q (1, L, .int (5) :: st, g) := am_E_iconst (by decide +kernel : am_dc 152 0 = some (.iconst (5))) (by decide) rfl
theorem x_152_1   : am_E d 152 Q (1, L, st, g) ↔ am_K d 152 Q (am_stI 2 L st g 2) := am_E_istore_n (by decide +kernel : am_dc 152 1 = some (.istore_n 2)) rfl rfl
theorem x_152_2   : am_E d 152 Q (2, L, st, g) ↔ am_K d 152 Q (am_ldI 3 L st g 2) := am_E_iload_n (by decide +kernel : am_dc 152 2 = some (.iload_n 2)) rfl rfl
theorem x_152_3   : am_E d 152 Q (3, L, .int x :: st, g) ↔ am_E d 152 Q (am_cmp .lt x 0 22 6, L, st, g) := am_E_if (by decide +kernel : am_dc 152 3 = some (.ifCond .lt (19))) rfl rfl
theorem x_152_6   : am_E d 152 Q (6, L, st, g) ↔ am_K d 152 Q (am_ldA 7 L st g 0) := am_E_aload_n (by decide +kernel : am_dc 152 6 = some (.aload_n 0)) rfl rfl
theorem x_152_7   : am_E d 152 Q (7, L, .ref a :: st, g) ↔ am_kv d 152 Q 10 L st g (am_gf g a 10 0) := am_E_getfield (by decide +kernel : am_dc 152 7 = some (.getfield 9)) (by decide +kernel) rfl
theorem x_152_10   : am_E d 152 Q (10, L, st, g) ↔ am_K d 152 Q (am_ldI 11 L st g 2) := am_E_iload_n (by decide +kernel : am_dc 152 10 = some (.iload_n 2)) rfl rfl
theorem x_152_11   : am_E d 152 Q (11, L, .int x :: .ref a :: st, g) ↔ am_kv d 152 Q 12 L st g (am_iat .iaload g a x) := am_E_iaload (by decide +kernel : am_dc 152 11 = some (.iaload)) rfl
theorem x_152_12   : am_E d 152 Q (12, L, st, g) ↔ am_K d 152 Q (am_ldI 13 L st g 1) := am_E_iload_n (by decide +kernel : am_dc 152 12 = some (.iload_n 1)) rfl rfl
theorem x_152_13   : am_E d 152 Q (13, L, .int y :: .int x :: st, g) ↔ am_E d 152 Q (am_cmp .eq x y 22 16, L, st, g) := am_E_ic (by decide +kernel : am_dc 152 13 = some (.if_icmp .eq (9))) rfl rfl
theorem x_152_16   (hk : L.getD 2 none = some (.int x)) (hl : 2 < L.length) : am_E d 152 Q (16, L, st, g) ↔ am_E d 152 Q (19, am_s1 L 2 (.int (x + (-1))), st, g) := am_E_iinc (by decide +kernel : am_dc 152 16 = some (.iinc 2 (-1))) (by decide) rfl hk hl
theorem x_152_19   : am_E d 152 Q (19, L, st, g) ↔ am_E d 152 Q (2, L, st, g) := am_E_gt (by decide +kernel : am_dc 152 19 = some (.goto (-17))) rfl rfl
theorem x_152_22   : am_E d 152 Q (22, L, st, g) ↔ am_K d 152 Q (am_ldI 23 L st g 2) := am_E_iload_n (by decide +kernel : am_dc 152 22 = some (.iload_n 2)) rfl rfl
theorem x_152_23  : am_E d 152 Q (23, L, [.int x], g) ↔ if am_ok (FieldType.int) (.int x) = true then Q (.inl (some (.int x))) g else False := am_E_ireturn (by decide +kernel : am_dc 152 23 = some (.ireturn)) (by decide +kernel)
theorem f_152_9 : am_fl 152 9 = some (10, 0) := by decide +kernel
theorem t_152 : am_t 152 = some (FieldType.int) := by decide +kernel
theorem h_152 : am_h 152 = [] := by decide +kernel
theorem m_152 : am_m 152 = 3 := by decide +kernel
theorem x_153_0   : am_E d 153 Q (0, L, st, g) ↔ am_K d 153 Q (am_ldI 1 L st g 1) := am_E_iload_n (by decide +kernel : am_dc 153 0 = some (.iload_n 1)) rfl rfl
theorem x_153_1   : am_E d 153 Q (1, L, st, g) ↔ am_K d 153 Q (am_ldA 2 L st g 0) := am_E_aload_n (by decide +kernel : am_dc 153 1 = some (.aload_n 0)) rfl rfl
theorem x_153_2   : am_E d 153 Q (2, L, .ref a :: st, g) ↔ am_kv d 153 Q 5 L st g (am_gf g a 10 5) := am_E_getfield (by decide +kernel : am_dc 153 2 = some (.getfield 48)) (by decide +kernel) rfl
theorem x_153_5   : am_E d 153 Q (5, L, .int y :: .int x :: st, g) ↔ am_E d 153 Q (am_cmp .ge x y 17 8, L, st, g) := am_E_ic (by decide +kernel : am_dc 153 5 = some (.if_icmp .ge (12))) rfl rfl
theorem x_153_8   : am_E d 153 Q (8, L, st, g) ↔ am_K d 153 Q (am_ldA 9 L st g 0) := am_E_aload_n (by decide +kernel : am_dc 153 8 = some (.aload_n 0)) rfl rfl
theorem x_153_9   : am_E d 153 Q (9, L, .ref a :: st, g) ↔ am_kv d 153 Q 12 L st g (am_gf g a 10 4) := am_E_getfield (by decide +kernel : am_dc 153 9 = some (.getfield 24)) (by decide +kernel) rfl
theorem x_153_12   : am_E d 153 Q (12, L, st, g) ↔ am_K d 153 Q (am_ldI 13 L st g 1) := am_E_iload_n (by decide +kernel : am_dc 153 12 = some (.iload_n 1)) rfl rfl
theorem x_153_13   : am_E d 153 Q (13, L, .int x :: .ref a :: st, g) ↔ am_kv d 153 Q 14 L st g (am_iat .iaload g a x) := am_E_iaload (by decide +kernel : am_dc 153 13 = some (.iaload)) rfl
theorem x_153_14   : am_E d 153 Q (14, L, st, g) ↔ am_E d 153 Q (18, L, st, g) := am_E_gt (by decide +kernel : am_dc 153 14 = some (.goto (4))) rfl rfl
theorem x_153_17   : am_E d 153 Q (17, L, st, g) ↔ am_E d 153 Q (18, L, .int (-1) :: st, g) := am_E_iconst (by decide +kernel : am_dc 153 17 = some (.iconst (-1))) (by decide) rfl
theorem x_153_18  : am_E d 153 Q (18, L, [.int x], g) ↔ if am_ok (FieldType.int) (.int x) = true then Q (.inl (some (.int x))) g else False := am_E_ireturn (by decide +kernel : am_dc 153 18 = some (.ireturn)) (by decide +kernel)
theorem f_153_48 : am_fl 153 48 = some (10, 5) := by decide +kernel
theorem f_153_24 : am_fl 153 24 = some (10, 4) := by decide +kernel
theorem t_153 : am_t 153 = some (FieldType.int) := by decide +kernel
theorem h_153 : am_h 153 = [] := by decide +kernel
theorem m_153 : am_m 153 = 2 := by decide +kernel
theorem x_154_0   : am_E d 154 Q (0, L, st, g) ↔ am_K d 154 Q (am_ldA 1 L st g 0) := am_E_aload_n (by decide +kernel : am_dc 154 0 = some (.aload_n 0)) rfl rfl
theorem x_154_1   : am_E d 154 Q (1, L, .ref a :: st, g) ↔ am_kv d 154 Q 4 L st g (am_gf g a 10 3) := am_E_getfield (by decide +kernel : am_dc 154 1 = some (.getfield 21)) (by decide +kernel) rfl
theorem x_154_4   : am_E d 154 Q (4, L, st, g) ↔ am_K d 154 Q (am_ldI 5 L st g 1) := am_E_iload_n (by decide +kernel : am_dc 154 4 = some (.iload_n 1)) rfl rfl
theorem x_154_5   : am_E d 154 Q (5, L, .int x :: .ref a :: st, g) ↔ am_kv d 154 Q 6 L st g (am_iat .iaload g a x) := am_E_iaload (by decide +kernel : am_dc 154 5 = some (.iaload)) rfl
theorem x_154_6   : am_E d 154 Q (6, L, st, g) ↔ am_K d 154 Q (am_ldI 7 L st g 2) := am_E_iload_n (by decide +kernel : am_dc 154 6 = some (.iload_n 2)) rfl rfl
theorem x_154_7   : am_E d 154 Q (7, L, .int y :: .int x :: st, g) ↔ am_E d 154 Q (8, L, .int (x + y) :: st, g) := am_E_iadd (by decide +kernel : am_dc 154 7 = some (.iadd)) rfl
theorem x_154_8   : am_E d 154 Q (8, L, st, g) ↔ am_K d 154 Q (am_stI 9 L st g 3) := am_E_istore_n (by decide +kernel : am_dc 154 8 = some (.istore_n 3)) rfl rfl
theorem x_154_9   : am_E d 154 Q (9, L, st, g) ↔ am_K d 154 Q (am_ldA 10 L st g 0) := am_E_aload_n (by decide +kernel : am_dc 154 9 = some (.aload_n 0)) rfl rfl
theorem x_154_10   : am_E d 154 Q (10, L, st, g) ↔ am_K d 154 Q (am_ldI 11 L st g 1) := am_E_iload_n (by decide +kernel : am_dc 154 10 = some (.iload_n 1)) rfl rfl
theorem x_154_11  : am_E d 154 Q (11, L, st, g) ↔ am_K d 154 Q (am_S 154 (.invokevirtual 44) 11 L st g) := am_E_x (by decide +kernel : am_dc 154 11 = some (.invokevirtual 44))
theorem x_154_14   : am_E d 154 Q (14, L, .int x :: st, g) ↔ am_E d 154 Q (am_cmp .eq x 0 38 17, L, st, g) := am_E_if (by decide +kernel : am_dc 154 14 = some (.ifCond .eq (24))) rfl rfl
theorem x_154_17   : am_E d 154 Q (17, L, st, g) ↔ am_K d 154 Q (am_ldI 18 L st g 3) := am_E_iload_n (by decide +kernel : am_dc 154 17 = some (.iload_n 3)) rfl rfl
theorem x_154_18   : am_E d 154 Q (18, L, .int x :: st, g) ↔ am_E d 154 Q (am_cmp .lt x 0 38 21, L, st, g) := am_E_if (by decide +kernel : am_dc 154 18 = some (.ifCond .lt (20))) rfl rfl
theorem x_154_21   : am_E d 154 Q (21, L, st, g) ↔ am_K d 154 Q (am_ldI 22 L st g 3) := am_E_iload_n (by decide +kernel : am_dc 154 21 = some (.iload_n 3)) rfl rfl
theorem x_154_22   : am_E d 154 Q (22, L, st, g) ↔ am_K d 154 Q (am_ldA 23 L st g 0) := am_E_aload_n (by decide +kernel : am_dc 154 22 = some (.aload_n 0)) rfl rfl
theorem x_154_23   : am_E d 154 Q (23, L, .ref a :: st, g) ↔ am_kv d 154 Q 26 L st g (am_gf g a 10 5) := am_E_getfield (by decide +kernel : am_dc 154 23 = some (.getfield 48)) (by decide +kernel) rfl
theorem x_154_26   : am_E d 154 Q (26, L, .int y :: .int x :: st, g) ↔ am_E d 154 Q (am_cmp .ge x y 38 29, L, st, g) := am_E_ic (by decide +kernel : am_dc 154 26 = some (.if_icmp .ge (12))) rfl rfl
theorem x_154_29   : am_E d 154 Q (29, L, st, g) ↔ am_K d 154 Q (am_ldA 30 L st g 0) := am_E_aload_n (by decide +kernel : am_dc 154 29 = some (.aload_n 0)) rfl rfl
theorem x_154_30   : am_E d 154 Q (30, L, .ref a :: st, g) ↔ am_kv d 154 Q 33 L st g (am_gf g a 10 4) := am_E_getfield (by decide +kernel : am_dc 154 30 = some (.getfield 24)) (by decide +kernel) rfl
theorem x_154_33   : am_E d 154 Q (33, L, st, g) ↔ am_K d 154 Q (am_ldI 34 L st g 3) := am_E_iload_n (by decide +kernel : am_dc 154 33 = some (.iload_n 3)) rfl rfl
theorem x_154_34   : am_E d 154 Q (34, L, .int x :: .ref a :: st, g) ↔ am_kv d 154 Q 35 L st g (am_iat .iaload g a x) := am_E_iaload (by decide +kernel : am_dc 154 34 = some (.iaload)) rfl
theorem x_154_35   : am_E d 154 Q (35, L, st, g) ↔ am_E d 154 Q (39, L, st, g) := am_E_gt (by decide +kernel : am_dc 154 35 = some (.goto (4))) rfl rfl
theorem x_154_38   : am_E d 154 Q (38, L, st, g) ↔ am_E d 154 Q (39, L, .int (-1) :: st, g) := am_E_iconst (by decide +kernel : am_dc 154 38 = some (.iconst (-1))) (by decide) rfl
theorem x_154_39  : am_E d 154 Q (39, L, [.int x], g) ↔ if am_ok (FieldType.int) (.int x) = true then Q (.inl (some (.int x))) g else False := am_E_ireturn (by decide +kernel : am_dc 154 39 = some (.ireturn)) (by decide +kernel)
theorem f_154_21 : am_fl 154 21 = some (10, 3) := by decide +kernel
theorem v_154_44 : am_iv 154 44 = some (1, 150, 2) := by decide +kernel
theorem f_154_48 : am_fl 154 48 = some (10, 5) := by decide +kernel
theorem f_154_24 : am_fl 154 24 = some (10, 4) := by decide +kernel
theorem t_154 : am_t 154 = some (FieldType.int) := by decide +kernel
theorem h_154 : am_h 154 = [] := by decide +kernel
theorem m_154 : am_m 154 = 4 := by decide +kernel
theorem x_155_0   : am_E d 155 Q (0, L, st, g) ↔ am_K d 155 Q (am_ldI 1 L st g 2) := am_E_iload_n (by decide +kernel : am_dc 155 0 = some (.iload_n 2)) rfl rfl
theorem x_155_1   : am_E d 155 Q (1, L, st, g) ↔ am_E d 155 Q (3, L, .int (6) :: st, g) := am_E_bipush (by decide +kernel : am_dc 155 1 = some (.bipush (6))) (by decide) rfl
theorem x_155_3   : am_E d 155 Q (3, L, .int y :: .int x :: st, g) ↔ am_E d 155 Q (am_cmp .lt x y 7 6, L, st, g) := am_E_ic (by decide +kernel : am_dc 155 3 = some (.if_icmp .lt (4))) rfl rfl
theorem x_155_6  : am_E d 155 Q (6, L, [], g) ↔ Q (.inl none) g := am_E_return (by decide +kernel : am_dc 155 6 = some (.return_)) (by decide +kernel)
theorem x_155_7   : am_E d 155 Q (7, L, st, g) ↔ am_E d 155 Q (8, L, .int (0) :: st, g) := am_E_iconst (by decide +kernel : am_dc 155 7 = some (.iconst (0))) (by decide) rfl
theorem x_155_8   : am_E d 155 Q (8, L, st, g) ↔ am_K d 155 Q (am_stI 9 L st g 3) := am_E_istore_n (by decide +kernel : am_dc 155 8 = some (.istore_n 3)) rfl rfl
theorem x_155_9   : am_E d 155 Q (9, L, st, g) ↔ am_K d 155 Q (am_ldI 10 L st g 3) := am_E_iload_n (by decide +kernel : am_dc 155 9 = some (.iload_n 3)) rfl rfl
theorem x_155_10   : am_E d 155 Q (10, L, st, g) ↔ am_E d 155 Q (12, L, .int (6) :: st, g) := am_E_bipush (by decide +kernel : am_dc 155 10 = some (.bipush (6))) (by decide) rfl
theorem x_155_12   : am_E d 155 Q (12, L, .int y :: .int x :: st, g) ↔ am_E d 155 Q (am_cmp .ge x y 88 15, L, st, g) := am_E_ic (by decide +kernel : am_dc 155 12 = some (.if_icmp .ge (76))) rfl rfl
theorem x_155_15   : am_E d 155 Q (15, L, st, g) ↔ am_K d 155 Q (am_ldA 16 L st g 0) := am_E_aload_n (by decide +kernel : am_dc 155 15 = some (.aload_n 0)) rfl rfl
theorem x_155_16   : am_E d 155 Q (16, L, .ref a :: st, g) ↔ am_kv d 155 Q 19 L st g (am_gf g a 10 0) := am_E_getfield (by decide +kernel : am_dc 155 16 = some (.getfield 9)) (by decide +kernel) rfl
theorem x_155_19   : am_E d 155 Q (19, L, st, g) ↔ am_K d 155 Q (am_ldI 20 L st g 3) := am_E_iload_n (by decide +kernel : am_dc 155 19 = some (.iload_n 3)) rfl rfl
theorem x_155_20   : am_E d 155 Q (20, L, .int x :: .ref a :: st, g) ↔ am_kv d 155 Q 21 L st g (am_iat .iaload g a x) := am_E_iaload (by decide +kernel : am_dc 155 20 = some (.iaload)) rfl
theorem x_155_21   : am_E d 155 Q (21, L, st, g) ↔ am_K d 155 Q (am_ldI 22 L st g 1) := am_E_iload_n (by decide +kernel : am_dc 155 21 = some (.iload_n 1)) rfl rfl
theorem x_155_22   : am_E d 155 Q (22, L, .int y :: .int x :: st, g) ↔ am_E d 155 Q (am_cmp .ne x y 82 25, L, st, g) := am_E_ic (by decide +kernel : am_dc 155 22 = some (.if_icmp .ne (60))) rfl rfl
theorem x_155_25   : am_E d 155 Q (25, L, st, g) ↔ am_K d 155 Q (am_ldA 26 L st g 0) := am_E_aload_n (by decide +kernel : am_dc 155 25 = some (.aload_n 0)) rfl rfl
theorem x_155_26   : am_E d 155 Q (26, L, .ref a :: st, g) ↔ am_kv d 155 Q 29 L st g (am_gf g a 10 2) := am_E_getfield (by decide +kernel : am_dc 155 26 = some (.getfield 18)) (by decide +kernel) rfl
theorem x_155_29   : am_E d 155 Q (29, L, st, g) ↔ am_K d 155 Q (am_ldI 30 L st g 3) := am_E_iload_n (by decide +kernel : am_dc 155 29 = some (.iload_n 3)) rfl rfl
theorem x_155_30   : am_E d 155 Q (30, L, st, g) ↔ am_K d 155 Q (am_ldI 31 L st g 2) := am_E_iload_n (by decide +kernel : am_dc 155 30 = some (.iload_n 2)) rfl rfl
theorem x_155_31   : am_E d 155 Q (31, L, v :: .int x :: .ref a :: st, g) ↔ am_kg d 155 Q 32 L st (am_sat .iastore g a x v) := am_E_iastore (by decide +kernel : am_dc 155 31 = some (.iastore)) rfl
theorem x_155_32   : am_E d 155 Q (32, L, st, g) ↔ am_K d 155 Q (am_ldA 33 L st g 0) := am_E_aload_n (by decide +kernel : am_dc 155 32 = some (.aload_n 0)) rfl rfl
theorem x_155_33   : am_E d 155 Q (33, L, st, g) ↔ am_K d 155 Q (am_ldI 34 L st g 3) := am_E_iload_n (by decide +kernel : am_dc 155 33 = some (.iload_n 3)) rfl rfl
theorem x_155_34  : am_E d 155 Q (34, L, st, g) ↔ am_K d 155 Q (am_S 155 (.invokevirtual 55) 34 L st g) := am_E_x (by decide +kernel : am_dc 155 34 = some (.invokevirtual 55))
theorem x_155_37   : am_E d 155 Q (37, L, st, g) ↔ am_E d 155 Q (38, L, .int (-1) :: st, g) := am_E_iconst (by decide +kernel : am_dc 155 37 = some (.iconst (-1))) (by decide) rfl
theorem x_155_38   : am_E d 155 Q (38, L, .int y :: .int x :: st, g) ↔ am_E d 155 Q (am_cmp .ne x y 74 41, L, st, g) := am_E_ic (by decide +kernel : am_dc 155 38 = some (.if_icmp .ne (36))) rfl rfl
theorem x_155_41   : am_E d 155 Q (41, L, st, g) ↔ am_K d 155 Q (am_ldA 42 L st g 0) := am_E_aload_n (by decide +kernel : am_dc 155 41 = some (.aload_n 0)) rfl rfl
theorem x_155_42   : am_E d 155 Q (42, L, .ref a :: st, g) ↔ am_kv d 155 Q 45 L st g (am_gf g a 10 3) := am_E_getfield (by decide +kernel : am_dc 155 42 = some (.getfield 21)) (by decide +kernel) rfl
theorem x_155_45   : am_E d 155 Q (45, L, st, g) ↔ am_K d 155 Q (am_ldI 46 L st g 3) := am_E_iload_n (by decide +kernel : am_dc 155 45 = some (.iload_n 3)) rfl rfl
theorem x_155_46   : am_E d 155 Q (46, L, st, g) ↔ am_K d 155 Q (am_ldA 47 L st g 0) := am_E_aload_n (by decide +kernel : am_dc 155 46 = some (.aload_n 0)) rfl rfl
theorem x_155_47   : am_E d 155 Q (47, L, .ref a :: st, g) ↔ am_kv d 155 Q 50 L st g (am_gf g a 10 5) := am_E_getfield (by decide +kernel : am_dc 155 47 = some (.getfield 48)) (by decide +kernel) rfl
theorem x_155_50   : am_E d 155 Q (50, L, v :: .int x :: .ref a :: st, g) ↔ am_kg d 155 Q 51 L st (am_sat .iastore g a x v) := am_E_iastore (by decide +kernel : am_dc 155 50 = some (.iastore)) rfl
theorem x_155_51   : am_E d 155 Q (51, L, st, g) ↔ am_K d 155 Q (am_ldA 52 L st g 0) := am_E_aload_n (by decide +kernel : am_dc 155 51 = some (.aload_n 0)) rfl rfl
theorem x_155_52   : am_E d 155 Q (52, L, .ref a :: st, g) ↔ am_kv d 155 Q 55 L st g (am_gf g a 10 4) := am_E_getfield (by decide +kernel : am_dc 155 52 = some (.getfield 24)) (by decide +kernel) rfl
theorem x_155_55   : am_E d 155 Q (55, L, st, g) ↔ am_K d 155 Q (am_ldA 56 L st g 0) := am_E_aload_n (by decide +kernel : am_dc 155 55 = some (.aload_n 0)) rfl rfl
theorem x_155_56   : am_E d 155 Q (56, L, .ref a :: st, g) ↔ am_kv d 155 Q 59 L st g (am_gf g a 10 5) := am_E_getfield (by decide +kernel : am_dc 155 56 = some (.getfield 48)) (by decide +kernel) rfl
theorem x_155_59   : am_E d 155 Q (59, L, st, g) ↔ am_K d 155 Q (am_ldI 60 L st g 3) := am_E_iload_n (by decide +kernel : am_dc 155 59 = some (.iload_n 3)) rfl rfl
theorem x_155_60   : am_E d 155 Q (60, L, v :: .int x :: .ref a :: st, g) ↔ am_kg d 155 Q 61 L st (am_sat .iastore g a x v) := am_E_iastore (by decide +kernel : am_dc 155 60 = some (.iastore)) rfl
theorem x_155_61   : am_E d 155 Q (61, L, st, g) ↔ am_K d 155 Q (am_ldA 62 L st g 0) := am_E_aload_n (by decide +kernel : am_dc 155 61 = some (.aload_n 0)) rfl rfl
theorem x_155_62   : am_E d 155 Q (62, L, v :: st, g) ↔ if v.category = 1 then am_E d 155 Q (63, L, v :: v :: st, g) else False := am_E_dup (by decide +kernel : am_dc 155 62 = some (.dup)) rfl
theorem x_155_63   : am_E d 155 Q (63, L, .ref a :: st, g) ↔ am_kv d 155 Q 66 L st g (am_gf g a 10 5) := am_E_getfield (by decide +kernel : am_dc 155 63 = some (.getfield 48)) (by decide +kernel) rfl
theorem x_155_66   : am_E d 155 Q (66, L, st, g) ↔ am_E d 155 Q (67, L, .int (1) :: st, g) := am_E_iconst (by decide +kernel : am_dc 155 66 = some (.iconst (1))) (by decide) rfl
theorem x_155_67   : am_E d 155 Q (67, L, .int y :: .int x :: st, g) ↔ am_E d 155 Q (68, L, .int (x + y) :: st, g) := am_E_iadd (by decide +kernel : am_dc 155 67 = some (.iadd)) rfl
theorem x_155_68   (hok : (am_ok (am_ft 10 5).1 v && (!(am_ft 10 5).2 || (am_ini 155 && am_co 10 == am_o 155)) && decide (10 < 13)) = true) : am_E d 155 Q (68, L, v :: .ref a :: st, g) ↔ am_kg d 155 Q 71 L st (am_pf g a 10 5 v) := am_E_putfield (by decide +kernel : am_dc 155 68 = some (.putfield 48)) (by decide +kernel) rfl hok
theorem x_155_71   : am_E d 155 Q (71, L, st, g) ↔ am_E d 155 Q (82, L, st, g) := am_E_gt (by decide +kernel : am_dc 155 71 = some (.goto (11))) rfl rfl
theorem x_155_74   : am_E d 155 Q (74, L, st, g) ↔ am_K d 155 Q (am_ldA 75 L st g 0) := am_E_aload_n (by decide +kernel : am_dc 155 74 = some (.aload_n 0)) rfl rfl
theorem x_155_75   : am_E d 155 Q (75, L, st, g) ↔ am_K d 155 Q (am_ldI 76 L st g 3) := am_E_iload_n (by decide +kernel : am_dc 155 75 = some (.iload_n 3)) rfl rfl
theorem x_155_76   : am_E d 155 Q (76, L, st, g) ↔ am_K d 155 Q (am_ldI 77 L st g 2) := am_E_iload_n (by decide +kernel : am_dc 155 76 = some (.iload_n 2)) rfl rfl
theorem x_155_77   : am_E d 155 Q (77, L, st, g) ↔ am_E d 155 Q (78, L, .int (1) :: st, g) := am_E_iconst (by decide +kernel : am_dc 155 77 = some (.iconst (1))) (by decide) rfl
theorem x_155_78   : am_E d 155 Q (78, L, .int y :: .int x :: st, g) ↔ am_E d 155 Q (79, L, .int (x + y) :: st, g) := am_E_iadd (by decide +kernel : am_dc 155 78 = some (.iadd)) rfl
theorem x_155_79  : am_E d 155 Q (79, L, st, g) ↔ am_K d 155 Q (am_S 155 (.invokevirtual 51) 79 L st g) := am_E_x (by decide +kernel : am_dc 155 79 = some (.invokevirtual 51))
theorem x_155_82   (hk : L.getD 3 none = some (.int x)) (hl : 3 < L.length) : am_E d 155 Q (82, L, st, g) ↔ am_E d 155 Q (85, am_s1 L 3 (.int (x + (1))), st, g) := am_E_iinc (by decide +kernel : am_dc 155 82 = some (.iinc 3 (1))) (by decide) rfl hk hl
theorem x_155_85   : am_E d 155 Q (85, L, st, g) ↔ am_E d 155 Q (9, L, st, g) := am_E_gt (by decide +kernel : am_dc 155 85 = some (.goto (-76))) rfl rfl
theorem x_155_88  : am_E d 155 Q (88, L, [], g) ↔ Q (.inl none) g := am_E_return (by decide +kernel : am_dc 155 88 = some (.return_)) (by decide +kernel)
theorem f_155_9 : am_fl 155 9 = some (10, 0) := by decide +kernel
theorem f_155_18 : am_fl 155 18 = some (10, 2) := by decide +kernel
theorem v_155_55 : am_iv 155 55 = some (1, 145, 2) := by decide +kernel
theorem f_155_21 : am_fl 155 21 = some (10, 3) := by decide +kernel
theorem f_155_48 : am_fl 155 48 = some (10, 5) := by decide +kernel
theorem f_155_24 : am_fl 155 24 = some (10, 4) := by decide +kernel
theorem v_155_51 : am_iv 155 51 = some (1, 155, 3) := by decide +kernel
theorem t_155 : am_t 155 = none := by decide +kernel
theorem h_155 : am_h 155 = [] := by decide +kernel
theorem m_155 : am_m 155 = 4 := by decide +kernel
theorem x_156_0   : am_E d 156 Q (0, L, st, g) ↔ am_K d 156 Q (am_ldA 1 L st g 0) := am_E_aload_n (by decide +kernel : am_dc 156 0 = some (.aload_n 0)) rfl rfl
theorem x_156_1  : am_E d 156 Q (1, L, st, g) ↔ am_K d 156 Q (am_S 156 (.invokespecial 1) 1 L st g) := am_E_x (by decide +kernel : am_dc 156 1 = some (.invokespecial 1))
theorem x_156_4   : am_E d 156 Q (4, L, st, g) ↔ am_K d 156 Q (am_ldA 5 L st g 0) := am_E_aload_n (by decide +kernel : am_dc 156 4 = some (.aload_n 0)) rfl rfl
theorem x_156_5   : am_E d 156 Q (5, L, st, g) ↔ am_E d 156 Q (7, L, .int (18) :: st, g) := am_E_bipush (by decide +kernel : am_dc 156 5 = some (.bipush (18))) (by decide) rfl
theorem x_156_7  : am_E d 156 Q (7, L, st, g) ↔ am_K d 156 Q (am_S 156 (.newarray .boolean) 7 L st g) := am_E_x (by decide +kernel : am_dc 156 7 = some (.newarray .boolean))
theorem x_156_9   (hok : (am_ok (am_ft 11 1).1 v && (!(am_ft 11 1).2 || (am_ini 156 && am_co 11 == am_o 156)) && decide (11 < 13)) = true) : am_E d 156 Q (9, L, v :: .ref a :: st, g) ↔ am_kg d 156 Q 12 L st (am_pf g a 11 1 v) := am_E_putfield (by decide +kernel : am_dc 156 9 = some (.putfield 7)) (by decide +kernel) rfl hok
theorem x_156_12   : am_E d 156 Q (12, L, st, g) ↔ am_K d 156 Q (am_ldA 13 L st g 0) := am_E_aload_n (by decide +kernel : am_dc 156 12 = some (.aload_n 0)) rfl rfl
theorem x_156_13   : am_E d 156 Q (13, L, st, g) ↔ am_E d 156 Q (15, L, .int (18) :: st, g) := am_E_bipush (by decide +kernel : am_dc 156 13 = some (.bipush (18))) (by decide) rfl
theorem x_156_15  : am_E d 156 Q (15, L, st, g) ↔ am_K d 156 Q (am_S 156 (.newarray .int) 15 L st g) := am_E_x (by decide +kernel : am_dc 156 15 = some (.newarray .int))
theorem x_156_17   (hok : (am_ok (am_ft 11 2).1 v && (!(am_ft 11 2).2 || (am_ini 156 && am_co 11 == am_o 156)) && decide (11 < 13)) = true) : am_E d 156 Q (17, L, v :: .ref a :: st, g) ↔ am_kg d 156 Q 20 L st (am_pf g a 11 2 v) := am_E_putfield (by decide +kernel : am_dc 156 17 = some (.putfield 13)) (by decide +kernel) rfl hok
theorem x_156_20   : am_E d 156 Q (20, L, st, g) ↔ am_K d 156 Q (am_ldA 21 L st g 0) := am_E_aload_n (by decide +kernel : am_dc 156 20 = some (.aload_n 0)) rfl rfl
theorem x_156_21   : am_E d 156 Q (21, L, st, g) ↔ am_E d 156 Q (23, L, .int (18) :: st, g) := am_E_bipush (by decide +kernel : am_dc 156 21 = some (.bipush (18))) (by decide) rfl
theorem x_156_23  : am_E d 156 Q (23, L, st, g) ↔ am_K d 156 Q (am_S 156 (.newarray .int) 23 L st g) := am_E_x (by decide +kernel : am_dc 156 23 = some (.newarray .int))
theorem x_156_25   (hok : (am_ok (am_ft 11 3).1 v && (!(am_ft 11 3).2 || (am_ini 156 && am_co 11 == am_o 156)) && decide (11 < 13)) = true) : am_E d 156 Q (25, L, v :: .ref a :: st, g) ↔ am_kg d 156 Q 28 L st (am_pf g a 11 3 v) := am_E_putfield (by decide +kernel : am_dc 156 25 = some (.putfield 17)) (by decide +kernel) rfl hok
theorem x_156_28   : am_E d 156 Q (28, L, st, g) ↔ am_K d 156 Q (am_ldA 29 L st g 0) := am_E_aload_n (by decide +kernel : am_dc 156 28 = some (.aload_n 0)) rfl rfl
theorem x_156_29   : am_E d 156 Q (29, L, st, g) ↔ am_E d 156 Q (31, L, .int (18) :: st, g) := am_E_bipush (by decide +kernel : am_dc 156 29 = some (.bipush (18))) (by decide) rfl
theorem x_156_31  : am_E d 156 Q (31, L, st, g) ↔ am_K d 156 Q (am_S 156 (.newarray .int) 31 L st g) := am_E_x (by decide +kernel : am_dc 156 31 = some (.newarray .int))
theorem x_156_33   (hok : (am_ok (am_ft 11 4).1 v && (!(am_ft 11 4).2 || (am_ini 156 && am_co 11 == am_o 156)) && decide (11 < 13)) = true) : am_E d 156 Q (33, L, v :: .ref a :: st, g) ↔ am_kg d 156 Q 36 L st (am_pf g a 11 4 v) := am_E_putfield (by decide +kernel : am_dc 156 33 = some (.putfield 20)) (by decide +kernel) rfl hok
theorem x_156_36   : am_E d 156 Q (36, L, st, g) ↔ am_K d 156 Q (am_ldA 37 L st g 0) := am_E_aload_n (by decide +kernel : am_dc 156 36 = some (.aload_n 0)) rfl rfl
theorem x_156_37   : am_E d 156 Q (37, L, st, g) ↔ am_E d 156 Q (38, L, .int (3) :: st, g) := am_E_iconst (by decide +kernel : am_dc 156 37 = some (.iconst (3))) (by decide) rfl
theorem x_156_38  : am_E d 156 Q (38, L, st, g) ↔ am_K d 156 Q (am_S 156 (.newarray .int) 38 L st g) := am_E_x (by decide +kernel : am_dc 156 38 = some (.newarray .int))
theorem x_156_40   (hok : (am_ok (am_ft 11 5).1 v && (!(am_ft 11 5).2 || (am_ini 156 && am_co 11 == am_o 156)) && decide (11 < 13)) = true) : am_E d 156 Q (40, L, v :: .ref a :: st, g) ↔ am_kg d 156 Q 43 L st (am_pf g a 11 5 v) := am_E_putfield (by decide +kernel : am_dc 156 40 = some (.putfield 23)) (by decide +kernel) rfl hok
theorem x_156_43   : am_E d 156 Q (43, L, st, g) ↔ am_K d 156 Q (am_ldA 44 L st g 0) := am_E_aload_n (by decide +kernel : am_dc 156 43 = some (.aload_n 0)) rfl rfl
theorem x_156_44   : am_E d 156 Q (44, L, st, g) ↔ am_E d 156 Q (46, L, .int (8) :: st, g) := am_E_bipush (by decide +kernel : am_dc 156 44 = some (.bipush (8))) (by decide) rfl
theorem x_156_46  : am_E d 156 Q (46, L, st, g) ↔ am_K d 156 Q (am_S 156 (.newarray .int) 46 L st g) := am_E_x (by decide +kernel : am_dc 156 46 = some (.newarray .int))
theorem x_156_48   (hok : (am_ok (am_ft 11 6).1 v && (!(am_ft 11 6).2 || (am_ini 156 && am_co 11 == am_o 156)) && decide (11 < 13)) = true) : am_E d 156 Q (48, L, v :: .ref a :: st, g) ↔ am_kg d 156 Q 51 L st (am_pf g a 11 6 v) := am_E_putfield (by decide +kernel : am_dc 156 48 = some (.putfield 26)) (by decide +kernel) rfl hok
theorem x_156_51   : am_E d 156 Q (51, L, st, g) ↔ am_K d 156 Q (am_ldA 52 L st g 0) := am_E_aload_n (by decide +kernel : am_dc 156 51 = some (.aload_n 0)) rfl rfl
theorem x_156_52   : am_E d 156 Q (52, L, st, g) ↔ am_E d 156 Q (53, L, .int (3) :: st, g) := am_E_iconst (by decide +kernel : am_dc 156 52 = some (.iconst (3))) (by decide) rfl
theorem x_156_53  : am_E d 156 Q (53, L, st, g) ↔ am_K d 156 Q (am_S 156 (.newarray .int) 53 L st g) := am_E_x (by decide +kernel : am_dc 156 53 = some (.newarray .int))
theorem x_156_55   (hok : (am_ok (am_ft 11 7).1 v && (!(am_ft 11 7).2 || (am_ini 156 && am_co 11 == am_o 156)) && decide (11 < 13)) = true) : am_E d 156 Q (55, L, v :: .ref a :: st, g) ↔ am_kg d 156 Q 58 L st (am_pf g a 11 7 v) := am_E_putfield (by decide +kernel : am_dc 156 55 = some (.putfield 29)) (by decide +kernel) rfl hok
theorem x_156_58   : am_E d 156 Q (58, L, st, g) ↔ am_K d 156 Q (am_ldA 59 L st g 0) := am_E_aload_n (by decide +kernel : am_dc 156 58 = some (.aload_n 0)) rfl rfl
theorem x_156_59   : am_E d 156 Q (59, L, st, g) ↔ am_E d 156 Q (60, L, .int (1) :: st, g) := am_E_iconst (by decide +kernel : am_dc 156 59 = some (.iconst (1))) (by decide) rfl
theorem x_156_60   (hok : (am_ok (am_ft 11 8).1 v && (!(am_ft 11 8).2 || (am_ini 156 && am_co 11 == am_o 156)) && decide (11 < 13)) = true) : am_E d 156 Q (60, L, v :: .ref a :: st, g) ↔ am_kg d 156 Q 63 L st (am_pf g a 11 8 v) := am_E_putfield (by decide +kernel : am_dc 156 60 = some (.putfield 32)) (by decide +kernel) rfl hok
theorem x_156_63   : am_E d 156 Q (63, L, st, g) ↔ am_K d 156 Q (am_ldA 64 L st g 0) := am_E_aload_n (by decide +kernel : am_dc 156 63 = some (.aload_n 0)) rfl rfl
theorem x_156_64   : am_E d 156 Q (64, L, st, g) ↔ am_E d 156 Q (67, L, .int (648) :: st, g) := am_E_sipush (by decide +kernel : am_dc 156 64 = some (.sipush (648))) (by decide) rfl
theorem x_156_67  : am_E d 156 Q (67, L, st, g) ↔ am_K d 156 Q (am_S 156 (.newarray .boolean) 67 L st g) := am_E_x (by decide +kernel : am_dc 156 67 = some (.newarray .boolean))
theorem x_156_69   (hok : (am_ok (am_ft 11 9).1 v && (!(am_ft 11 9).2 || (am_ini 156 && am_co 11 == am_o 156)) && decide (11 < 13)) = true) : am_E d 156 Q (69, L, v :: .ref a :: st, g) ↔ am_kg d 156 Q 72 L st (am_pf g a 11 9 v) := am_E_putfield (by decide +kernel : am_dc 156 69 = some (.putfield 36)) (by decide +kernel) rfl hok
theorem x_156_72   : am_E d 156 Q (72, L, st, g) ↔ am_K d 156 Q (am_ldA 73 L st g 0) := am_E_aload_n (by decide +kernel : am_dc 156 72 = some (.aload_n 0)) rfl rfl
theorem x_156_73   : am_E d 156 Q (73, L, st, g) ↔ am_E d 156 Q (76, L, .int (648) :: st, g) := am_E_sipush (by decide +kernel : am_dc 156 73 = some (.sipush (648))) (by decide) rfl
theorem x_156_76  : am_E d 156 Q (76, L, st, g) ↔ am_K d 156 Q (am_S 156 (.newarray .int) 76 L st g) := am_E_x (by decide +kernel : am_dc 156 76 = some (.newarray .int))
theorem x_156_78   (hok : (am_ok (am_ft 11 10).1 v && (!(am_ft 11 10).2 || (am_ini 156 && am_co 11 == am_o 156)) && decide (11 < 13)) = true) : am_E d 156 Q (78, L, v :: .ref a :: st, g) ↔ am_kg d 156 Q 81 L st (am_pf g a 11 10 v) := am_E_putfield (by decide +kernel : am_dc 156 78 = some (.putfield 39)) (by decide +kernel) rfl hok
theorem x_156_81   : am_E d 156 Q (81, L, st, g) ↔ am_K d 156 Q (am_ldA 82 L st g 0) := am_E_aload_n (by decide +kernel : am_dc 156 81 = some (.aload_n 0)) rfl rfl
theorem x_156_82   : am_E d 156 Q (82, L, st, g) ↔ am_E d 156 Q (84, L, .int (24) :: st, g) := am_E_bipush (by decide +kernel : am_dc 156 82 = some (.bipush (24))) (by decide) rfl
theorem x_156_84  : am_E d 156 Q (84, L, st, g) ↔ am_K d 156 Q (am_S 156 (.newarray .int) 84 L st g) := am_E_x (by decide +kernel : am_dc 156 84 = some (.newarray .int))
theorem x_156_86   (hok : (am_ok (am_ft 11 12).1 v && (!(am_ft 11 12).2 || (am_ini 156 && am_co 11 == am_o 156)) && decide (11 < 13)) = true) : am_E d 156 Q (86, L, v :: .ref a :: st, g) ↔ am_kg d 156 Q 89 L st (am_pf g a 11 12 v) := am_E_putfield (by decide +kernel : am_dc 156 86 = some (.putfield 42)) (by decide +kernel) rfl hok
theorem x_156_89   : am_E d 156 Q (89, L, st, g) ↔ am_K d 156 Q (am_ldA 90 L st g 0) := am_E_aload_n (by decide +kernel : am_dc 156 89 = some (.aload_n 0)) rfl rfl
theorem x_156_90   : am_E d 156 Q (90, L, st, g) ↔ am_E d 156 Q (92, L, .int (24) :: st, g) := am_E_bipush (by decide +kernel : am_dc 156 90 = some (.bipush (24))) (by decide) rfl
theorem x_156_92  : am_E d 156 Q (92, L, st, g) ↔ am_K d 156 Q (am_S 156 (.newarray .int) 92 L st g) := am_E_x (by decide +kernel : am_dc 156 92 = some (.newarray .int))
theorem x_156_94   (hok : (am_ok (am_ft 11 13).1 v && (!(am_ft 11 13).2 || (am_ini 156 && am_co 11 == am_o 156)) && decide (11 < 13)) = true) : am_E d 156 Q (94, L, v :: .ref a :: st, g) ↔ am_kg d 156 Q 97 L st (am_pf g a 11 13 v) := am_E_putfield (by decide +kernel : am_dc 156 94 = some (.putfield 45)) (by decide +kernel) rfl hok
theorem x_156_97   : am_E d 156 Q (97, L, st, g) ↔ am_K d 156 Q (am_ldA 98 L st g 0) := am_E_aload_n (by decide +kernel : am_dc 156 97 = some (.aload_n 0)) rfl rfl
theorem x_156_98   : am_E d 156 Q (98, L, st, g) ↔ am_E d 156 Q (100, L, .int (8) :: st, g) := am_E_bipush (by decide +kernel : am_dc 156 98 = some (.bipush (8))) (by decide) rfl
theorem x_156_100  : am_E d 156 Q (100, L, st, g) ↔ am_K d 156 Q (am_S 156 (.newarray .int) 100 L st g) := am_E_x (by decide +kernel : am_dc 156 100 = some (.newarray .int))
theorem x_156_102   (hok : (am_ok (am_ft 11 14).1 v && (!(am_ft 11 14).2 || (am_ini 156 && am_co 11 == am_o 156)) && decide (11 < 13)) = true) : am_E d 156 Q (102, L, v :: .ref a :: st, g) ↔ am_kg d 156 Q 105 L st (am_pf g a 11 14 v) := am_E_putfield (by decide +kernel : am_dc 156 102 = some (.putfield 48)) (by decide +kernel) rfl hok
theorem x_156_105   : am_E d 156 Q (105, L, st, g) ↔ am_K d 156 Q (am_ldA 106 L st g 0) := am_E_aload_n (by decide +kernel : am_dc 156 105 = some (.aload_n 0)) rfl rfl
theorem x_156_106   : am_E d 156 Q (106, L, st, g) ↔ am_E d 156 Q (109, L, .int (512) :: st, g) := am_E_sipush (by decide +kernel : am_dc 156 106 = some (.sipush (512))) (by decide) rfl
theorem x_156_109  : am_E d 156 Q (109, L, st, g) ↔ am_K d 156 Q (am_S 156 (.newarray .int) 109 L st g) := am_E_x (by decide +kernel : am_dc 156 109 = some (.newarray .int))
theorem x_156_111   (hok : (am_ok (am_ft 11 15).1 v && (!(am_ft 11 15).2 || (am_ini 156 && am_co 11 == am_o 156)) && decide (11 < 13)) = true) : am_E d 156 Q (111, L, v :: .ref a :: st, g) ↔ am_kg d 156 Q 114 L st (am_pf g a 11 15 v) := am_E_putfield (by decide +kernel : am_dc 156 111 = some (.putfield 51)) (by decide +kernel) rfl hok
theorem x_156_114   : am_E d 156 Q (114, L, st, g) ↔ am_K d 156 Q (am_ldA 115 L st g 0) := am_E_aload_n (by decide +kernel : am_dc 156 114 = some (.aload_n 0)) rfl rfl
theorem x_156_115   : am_E d 156 Q (115, L, st, g) ↔ am_E d 156 Q (118, L, .int (512) :: st, g) := am_E_sipush (by decide +kernel : am_dc 156 115 = some (.sipush (512))) (by decide) rfl
theorem x_156_118  : am_E d 156 Q (118, L, st, g) ↔ am_K d 156 Q (am_S 156 (.newarray .int) 118 L st g) := am_E_x (by decide +kernel : am_dc 156 118 = some (.newarray .int))
theorem x_156_120   (hok : (am_ok (am_ft 11 16).1 v && (!(am_ft 11 16).2 || (am_ini 156 && am_co 11 == am_o 156)) && decide (11 < 13)) = true) : am_E d 156 Q (120, L, v :: .ref a :: st, g) ↔ am_kg d 156 Q 123 L st (am_pf g a 11 16 v) := am_E_putfield (by decide +kernel : am_dc 156 120 = some (.putfield 54)) (by decide +kernel) rfl hok
theorem x_156_123   : am_E d 156 Q (123, L, st, g) ↔ am_K d 156 Q (am_ldA 124 L st g 0) := am_E_aload_n (by decide +kernel : am_dc 156 123 = some (.aload_n 0)) rfl rfl
theorem x_156_124   : am_E d 156 Q (124, L, st, g) ↔ am_E d 156 Q (127, L, .int (512) :: st, g) := am_E_sipush (by decide +kernel : am_dc 156 124 = some (.sipush (512))) (by decide) rfl
theorem x_156_127  : am_E d 156 Q (127, L, st, g) ↔ am_K d 156 Q (am_S 156 (.newarray .int) 127 L st g) := am_E_x (by decide +kernel : am_dc 156 127 = some (.newarray .int))
theorem x_156_129   (hok : (am_ok (am_ft 11 17).1 v && (!(am_ft 11 17).2 || (am_ini 156 && am_co 11 == am_o 156)) && decide (11 < 13)) = true) : am_E d 156 Q (129, L, v :: .ref a :: st, g) ↔ am_kg d 156 Q 132 L st (am_pf g a 11 17 v) := am_E_putfield (by decide +kernel : am_dc 156 129 = some (.putfield 57)) (by decide +kernel) rfl hok
theorem x_156_132   : am_E d 156 Q (132, L, st, g) ↔ am_K d 156 Q (am_ldA 133 L st g 0) := am_E_aload_n (by decide +kernel : am_dc 156 132 = some (.aload_n 0)) rfl rfl
theorem x_156_133   : am_E d 156 Q (133, L, st, g) ↔ am_E d 156 Q (135, L, .int (8) :: st, g) := am_E_bipush (by decide +kernel : am_dc 156 133 = some (.bipush (8))) (by decide) rfl
theorem x_156_135  : am_E d 156 Q (135, L, st, g) ↔ am_K d 156 Q (am_S 156 (.newarray .int) 135 L st g) := am_E_x (by decide +kernel : am_dc 156 135 = some (.newarray .int))
theorem x_156_137   (hok : (am_ok (am_ft 11 18).1 v && (!(am_ft 11 18).2 || (am_ini 156 && am_co 11 == am_o 156)) && decide (11 < 13)) = true) : am_E d 156 Q (137, L, v :: .ref a :: st, g) ↔ am_kg d 156 Q 140 L st (am_pf g a 11 18 v) := am_E_putfield (by decide +kernel : am_dc 156 137 = some (.putfield 60)) (by decide +kernel) rfl hok
theorem x_156_140   : am_E d 156 Q (140, L, st, g) ↔ am_K d 156 Q (am_ldA 141 L st g 0) := am_E_aload_n (by decide +kernel : am_dc 156 140 = some (.aload_n 0)) rfl rfl
theorem x_156_141   : am_E d 156 Q (141, L, st, g) ↔ am_E d 156 Q (144, L, .int (192) :: st, g) := am_E_sipush (by decide +kernel : am_dc 156 141 = some (.sipush (192))) (by decide) rfl
theorem x_156_144  : am_E d 156 Q (144, L, st, g) ↔ am_K d 156 Q (am_S 156 (.newarray .int) 144 L st g) := am_E_x (by decide +kernel : am_dc 156 144 = some (.newarray .int))
theorem x_156_146   (hok : (am_ok (am_ft 11 19).1 v && (!(am_ft 11 19).2 || (am_ini 156 && am_co 11 == am_o 156)) && decide (11 < 13)) = true) : am_E d 156 Q (146, L, v :: .ref a :: st, g) ↔ am_kg d 156 Q 149 L st (am_pf g a 11 19 v) := am_E_putfield (by decide +kernel : am_dc 156 146 = some (.putfield 63)) (by decide +kernel) rfl hok
theorem x_156_149   : am_E d 156 Q (149, L, st, g) ↔ am_K d 156 Q (am_ldA 150 L st g 0) := am_E_aload_n (by decide +kernel : am_dc 156 149 = some (.aload_n 0)) rfl rfl
theorem x_156_150   : am_E d 156 Q (150, L, st, g) ↔ am_E d 156 Q (153, L, .int (192) :: st, g) := am_E_sipush (by decide +kernel : am_dc 156 150 = some (.sipush (192))) (by decide) rfl
theorem x_156_153  : am_E d 156 Q (153, L, st, g) ↔ am_K d 156 Q (am_S 156 (.newarray .int) 153 L st g) := am_E_x (by decide +kernel : am_dc 156 153 = some (.newarray .int))
theorem x_156_155   (hok : (am_ok (am_ft 11 20).1 v && (!(am_ft 11 20).2 || (am_ini 156 && am_co 11 == am_o 156)) && decide (11 < 13)) = true) : am_E d 156 Q (155, L, v :: .ref a :: st, g) ↔ am_kg d 156 Q 158 L st (am_pf g a 11 20 v) := am_E_putfield (by decide +kernel : am_dc 156 155 = some (.putfield 66)) (by decide +kernel) rfl hok
theorem x_156_158   : am_E d 156 Q (158, L, st, g) ↔ am_K d 156 Q (am_ldA 159 L st g 0) := am_E_aload_n (by decide +kernel : am_dc 156 158 = some (.aload_n 0)) rfl rfl
theorem x_156_159   : am_E d 156 Q (159, L, st, g) ↔ am_E d 156 Q (160, L, .int (3) :: st, g) := am_E_iconst (by decide +kernel : am_dc 156 159 = some (.iconst (3))) (by decide) rfl
theorem x_156_160  : am_E d 156 Q (160, L, st, g) ↔ am_K d 156 Q (am_S 156 (.newarray .int) 160 L st g) := am_E_x (by decide +kernel : am_dc 156 160 = some (.newarray .int))
theorem x_156_162   (hok : (am_ok (am_ft 11 21).1 v && (!(am_ft 11 21).2 || (am_ini 156 && am_co 11 == am_o 156)) && decide (11 < 13)) = true) : am_E d 156 Q (162, L, v :: .ref a :: st, g) ↔ am_kg d 156 Q 165 L st (am_pf g a 11 21 v) := am_E_putfield (by decide +kernel : am_dc 156 162 = some (.putfield 69)) (by decide +kernel) rfl hok
theorem x_156_165   : am_E d 156 Q (165, L, st, g) ↔ am_K d 156 Q (am_ldA 166 L st g 0) := am_E_aload_n (by decide +kernel : am_dc 156 165 = some (.aload_n 0)) rfl rfl
theorem x_156_166   : am_E d 156 Q (166, L, st, g) ↔ am_E d 156 Q (167, L, .int (3) :: st, g) := am_E_iconst (by decide +kernel : am_dc 156 166 = some (.iconst (3))) (by decide) rfl
theorem x_156_167  : am_E d 156 Q (167, L, st, g) ↔ am_K d 156 Q (am_S 156 (.newarray .int) 167 L st g) := am_E_x (by decide +kernel : am_dc 156 167 = some (.newarray .int))
theorem x_156_169   (hok : (am_ok (am_ft 11 22).1 v && (!(am_ft 11 22).2 || (am_ini 156 && am_co 11 == am_o 156)) && decide (11 < 13)) = true) : am_E d 156 Q (169, L, v :: .ref a :: st, g) ↔ am_kg d 156 Q 172 L st (am_pf g a 11 22 v) := am_E_putfield (by decide +kernel : am_dc 156 169 = some (.putfield 72)) (by decide +kernel) rfl hok
theorem x_156_172   : am_E d 156 Q (172, L, st, g) ↔ am_K d 156 Q (am_ldA 173 L st g 0) := am_E_aload_n (by decide +kernel : am_dc 156 172 = some (.aload_n 0)) rfl rfl
theorem x_156_173   : am_E d 156 Q (173, L, st, g) ↔ am_E d 156 Q (175, L, .int (24) :: st, g) := am_E_bipush (by decide +kernel : am_dc 156 173 = some (.bipush (24))) (by decide) rfl
theorem x_156_175  : am_E d 156 Q (175, L, st, g) ↔ am_K d 156 Q (am_S 156 (.newarray .char) 175 L st g) := am_E_x (by decide +kernel : am_dc 156 175 = some (.newarray .char))
theorem x_156_177   (hok : (am_ok (am_ft 11 24).1 v && (!(am_ft 11 24).2 || (am_ini 156 && am_co 11 == am_o 156)) && decide (11 < 13)) = true) : am_E d 156 Q (177, L, v :: .ref a :: st, g) ↔ am_kg d 156 Q 180 L st (am_pf g a 11 24 v) := am_E_putfield (by decide +kernel : am_dc 156 177 = some (.putfield 75)) (by decide +kernel) rfl hok
theorem x_156_180   : am_E d 156 Q (180, L, st, g) ↔ am_K d 156 Q (am_ldA 181 L st g 0) := am_E_aload_n (by decide +kernel : am_dc 156 180 = some (.aload_n 0)) rfl rfl
theorem x_156_181   : am_E d 156 Q (181, L, st, g) ↔ am_E d 156 Q (183, L, .int (32) :: st, g) := am_E_bipush (by decide +kernel : am_dc 156 181 = some (.bipush (32))) (by decide) rfl
theorem x_156_183  : am_E d 156 Q (183, L, st, g) ↔ am_K d 156 Q (am_S 156 (.newarray .int) 183 L st g) := am_E_x (by decide +kernel : am_dc 156 183 = some (.newarray .int))
theorem x_156_185   (hok : (am_ok (am_ft 11 26).1 v && (!(am_ft 11 26).2 || (am_ini 156 && am_co 11 == am_o 156)) && decide (11 < 13)) = true) : am_E d 156 Q (185, L, v :: .ref a :: st, g) ↔ am_kg d 156 Q 188 L st (am_pf g a 11 26 v) := am_E_putfield (by decide +kernel : am_dc 156 185 = some (.putfield 79)) (by decide +kernel) rfl hok
theorem x_156_188   : am_E d 156 Q (188, L, st, g) ↔ am_K d 156 Q (am_ldA 189 L st g 0) := am_E_aload_n (by decide +kernel : am_dc 156 188 = some (.aload_n 0)) rfl rfl
theorem x_156_189   : am_E d 156 Q (189, L, st, g) ↔ am_E d 156 Q (191, L, .int (32) :: st, g) := am_E_bipush (by decide +kernel : am_dc 156 189 = some (.bipush (32))) (by decide) rfl
theorem x_156_191  : am_E d 156 Q (191, L, st, g) ↔ am_K d 156 Q (am_S 156 (.newarray .int) 191 L st g) := am_E_x (by decide +kernel : am_dc 156 191 = some (.newarray .int))
theorem x_156_193   (hok : (am_ok (am_ft 11 27).1 v && (!(am_ft 11 27).2 || (am_ini 156 && am_co 11 == am_o 156)) && decide (11 < 13)) = true) : am_E d 156 Q (193, L, v :: .ref a :: st, g) ↔ am_kg d 156 Q 196 L st (am_pf g a 11 27 v) := am_E_putfield (by decide +kernel : am_dc 156 193 = some (.putfield 82)) (by decide +kernel) rfl hok
theorem x_156_196   : am_E d 156 Q (196, L, st, g) ↔ am_K d 156 Q (am_ldA 197 L st g 0) := am_E_aload_n (by decide +kernel : am_dc 156 196 = some (.aload_n 0)) rfl rfl
theorem x_156_197   : am_E d 156 Q (197, L, st, g) ↔ am_E d 156 Q (199, L, .int (32) :: st, g) := am_E_bipush (by decide +kernel : am_dc 156 197 = some (.bipush (32))) (by decide) rfl
theorem x_156_199  : am_E d 156 Q (199, L, st, g) ↔ am_K d 156 Q (am_S 156 (.newarray .int) 199 L st g) := am_E_x (by decide +kernel : am_dc 156 199 = some (.newarray .int))
theorem x_156_201   (hok : (am_ok (am_ft 11 28).1 v && (!(am_ft 11 28).2 || (am_ini 156 && am_co 11 == am_o 156)) && decide (11 < 13)) = true) : am_E d 156 Q (201, L, v :: .ref a :: st, g) ↔ am_kg d 156 Q 204 L st (am_pf g a 11 28 v) := am_E_putfield (by decide +kernel : am_dc 156 201 = some (.putfield 85)) (by decide +kernel) rfl hok
theorem x_156_204   : am_E d 156 Q (204, L, st, g) ↔ am_K d 156 Q (am_ldA 205 L st g 0) := am_E_aload_n (by decide +kernel : am_dc 156 204 = some (.aload_n 0)) rfl rfl
theorem x_156_205   : am_E d 156 Q (205, L, st, g) ↔ am_E d 156 Q (207, L, .int (32) :: st, g) := am_E_bipush (by decide +kernel : am_dc 156 205 = some (.bipush (32))) (by decide) rfl
theorem x_156_207  : am_E d 156 Q (207, L, st, g) ↔ am_K d 156 Q (am_S 156 (.newarray .int) 207 L st g) := am_E_x (by decide +kernel : am_dc 156 207 = some (.newarray .int))
theorem x_156_209   (hok : (am_ok (am_ft 11 29).1 v && (!(am_ft 11 29).2 || (am_ini 156 && am_co 11 == am_o 156)) && decide (11 < 13)) = true) : am_E d 156 Q (209, L, v :: .ref a :: st, g) ↔ am_kg d 156 Q 212 L st (am_pf g a 11 29 v) := am_E_putfield (by decide +kernel : am_dc 156 209 = some (.putfield 88)) (by decide +kernel) rfl hok
theorem x_156_212   : am_E d 156 Q (212, L, st, g) ↔ am_K d 156 Q (am_ldA 213 L st g 0) := am_E_aload_n (by decide +kernel : am_dc 156 212 = some (.aload_n 0)) rfl rfl
theorem x_156_213   : am_E d 156 Q (213, L, st, g) ↔ am_E d 156 Q (215, L, .int (32) :: st, g) := am_E_bipush (by decide +kernel : am_dc 156 213 = some (.bipush (32))) (by decide) rfl
theorem x_156_215  : am_E d 156 Q (215, L, st, g) ↔ am_K d 156 Q (am_S 156 (.newarray .int) 215 L st g) := am_E_x (by decide +kernel : am_dc 156 215 = some (.newarray .int))
theorem x_156_217   (hok : (am_ok (am_ft 11 30).1 v && (!(am_ft 11 30).2 || (am_ini 156 && am_co 11 == am_o 156)) && decide (11 < 13)) = true) : am_E d 156 Q (217, L, v :: .ref a :: st, g) ↔ am_kg d 156 Q 220 L st (am_pf g a 11 30 v) := am_E_putfield (by decide +kernel : am_dc 156 217 = some (.putfield 91)) (by decide +kernel) rfl hok
theorem x_156_220   : am_E d 156 Q (220, L, st, g) ↔ am_K d 156 Q (am_ldA 221 L st g 0) := am_E_aload_n (by decide +kernel : am_dc 156 220 = some (.aload_n 0)) rfl rfl
theorem x_156_221   : am_E d 156 Q (221, L, st, g) ↔ am_E d 156 Q (223, L, .int (32) :: st, g) := am_E_bipush (by decide +kernel : am_dc 156 221 = some (.bipush (32))) (by decide) rfl
theorem x_156_223  : am_E d 156 Q (223, L, st, g) ↔ am_K d 156 Q (am_S 156 (.newarray .int) 223 L st g) := am_E_x (by decide +kernel : am_dc 156 223 = some (.newarray .int))
theorem x_156_225   (hok : (am_ok (am_ft 11 32).1 v && (!(am_ft 11 32).2 || (am_ini 156 && am_co 11 == am_o 156)) && decide (11 < 13)) = true) : am_E d 156 Q (225, L, v :: .ref a :: st, g) ↔ am_kg d 156 Q 228 L st (am_pf g a 11 32 v) := am_E_putfield (by decide +kernel : am_dc 156 225 = some (.putfield 94)) (by decide +kernel) rfl hok
theorem x_156_228   : am_E d 156 Q (228, L, st, g) ↔ am_K d 156 Q (am_ldA 229 L st g 0) := am_E_aload_n (by decide +kernel : am_dc 156 228 = some (.aload_n 0)) rfl rfl
theorem x_156_229   : am_E d 156 Q (229, L, st, g) ↔ am_E d 156 Q (231, L, .int (12) :: st, g) := am_E_bipush (by decide +kernel : am_dc 156 229 = some (.bipush (12))) (by decide) rfl
theorem x_156_231  : am_E d 156 Q (231, L, st, g) ↔ am_K d 156 Q (am_S 156 (.newarray .int) 231 L st g) := am_E_x (by decide +kernel : am_dc 156 231 = some (.newarray .int))
theorem x_156_233   (hok : (am_ok (am_ft 11 39).1 v && (!(am_ft 11 39).2 || (am_ini 156 && am_co 11 == am_o 156)) && decide (11 < 13)) = true) : am_E d 156 Q (233, L, v :: .ref a :: st, g) ↔ am_kg d 156 Q 236 L st (am_pf g a 11 39 v) := am_E_putfield (by decide +kernel : am_dc 156 233 = some (.putfield 97)) (by decide +kernel) rfl hok
theorem x_156_236   : am_E d 156 Q (236, L, st, g) ↔ am_K d 156 Q (am_ldA 237 L st g 0) := am_E_aload_n (by decide +kernel : am_dc 156 236 = some (.aload_n 0)) rfl rfl
theorem x_156_237   : am_E d 156 Q (237, L, st, g) ↔ am_E d 156 Q (239, L, .int (12) :: st, g) := am_E_bipush (by decide +kernel : am_dc 156 237 = some (.bipush (12))) (by decide) rfl
theorem x_156_239  : am_E d 156 Q (239, L, st, g) ↔ am_K d 156 Q (am_S 156 (.newarray .int) 239 L st g) := am_E_x (by decide +kernel : am_dc 156 239 = some (.newarray .int))
theorem x_156_241   (hok : (am_ok (am_ft 11 40).1 v && (!(am_ft 11 40).2 || (am_ini 156 && am_co 11 == am_o 156)) && decide (11 < 13)) = true) : am_E d 156 Q (241, L, v :: .ref a :: st, g) ↔ am_kg d 156 Q 244 L st (am_pf g a 11 40 v) := am_E_putfield (by decide +kernel : am_dc 156 241 = some (.putfield 100)) (by decide +kernel) rfl hok
theorem x_156_244   : am_E d 156 Q (244, L, st, g) ↔ am_K d 156 Q (am_ldA 245 L st g 0) := am_E_aload_n (by decide +kernel : am_dc 156 244 = some (.aload_n 0)) rfl rfl
theorem x_156_245   : am_E d 156 Q (245, L, st, g) ↔ am_E d 156 Q (248, L, .int (2592) :: st, g) := am_E_sipush (by decide +kernel : am_dc 156 245 = some (.sipush (2592))) (by decide) rfl
theorem x_156_248  : am_E d 156 Q (248, L, st, g) ↔ am_K d 156 Q (am_S 156 (.newarray .int) 248 L st g) := am_E_x (by decide +kernel : am_dc 156 248 = some (.newarray .int))
theorem x_156_250   (hok : (am_ok (am_ft 11 41).1 v && (!(am_ft 11 41).2 || (am_ini 156 && am_co 11 == am_o 156)) && decide (11 < 13)) = true) : am_E d 156 Q (250, L, v :: .ref a :: st, g) ↔ am_kg d 156 Q 253 L st (am_pf g a 11 41 v) := am_E_putfield (by decide +kernel : am_dc 156 250 = some (.putfield 103)) (by decide +kernel) rfl hok
theorem x_156_253   : am_E d 156 Q (253, L, st, g) ↔ am_K d 156 Q (am_ldA 254 L st g 0) := am_E_aload_n (by decide +kernel : am_dc 156 253 = some (.aload_n 0)) rfl rfl
theorem x_156_254   : am_E d 156 Q (254, L, st, g) ↔ am_E d 156 Q (257, L, .int (2592) :: st, g) := am_E_sipush (by decide +kernel : am_dc 156 254 = some (.sipush (2592))) (by decide) rfl
theorem x_156_257  : am_E d 156 Q (257, L, st, g) ↔ am_K d 156 Q (am_S 156 (.newarray .boolean) 257 L st g) := am_E_x (by decide +kernel : am_dc 156 257 = some (.newarray .boolean))
theorem x_156_259   (hok : (am_ok (am_ft 11 42).1 v && (!(am_ft 11 42).2 || (am_ini 156 && am_co 11 == am_o 156)) && decide (11 < 13)) = true) : am_E d 156 Q (259, L, v :: .ref a :: st, g) ↔ am_kg d 156 Q 262 L st (am_pf g a 11 42 v) := am_E_putfield (by decide +kernel : am_dc 156 259 = some (.putfield 106)) (by decide +kernel) rfl hok
theorem x_156_262   : am_E d 156 Q (262, L, st, g) ↔ am_K d 156 Q (am_ldA 263 L st g 0) := am_E_aload_n (by decide +kernel : am_dc 156 262 = some (.aload_n 0)) rfl rfl
theorem x_156_263   : am_E d 156 Q (263, L, st, g) ↔ am_E d 156 Q (266, L, .int (2592) :: st, g) := am_E_sipush (by decide +kernel : am_dc 156 263 = some (.sipush (2592))) (by decide) rfl
theorem x_156_266  : am_E d 156 Q (266, L, st, g) ↔ am_K d 156 Q (am_S 156 (.newarray .int) 266 L st g) := am_E_x (by decide +kernel : am_dc 156 266 = some (.newarray .int))
theorem x_156_268   (hok : (am_ok (am_ft 11 43).1 v && (!(am_ft 11 43).2 || (am_ini 156 && am_co 11 == am_o 156)) && decide (11 < 13)) = true) : am_E d 156 Q (268, L, v :: .ref a :: st, g) ↔ am_kg d 156 Q 271 L st (am_pf g a 11 43 v) := am_E_putfield (by decide +kernel : am_dc 156 268 = some (.putfield 109)) (by decide +kernel) rfl hok
theorem x_156_271   : am_E d 156 Q (271, L, st, g) ↔ am_K d 156 Q (am_ldA 272 L st g 0) := am_E_aload_n (by decide +kernel : am_dc 156 271 = some (.aload_n 0)) rfl rfl
theorem x_156_272   : am_E d 156 Q (272, L, st, g) ↔ am_E d 156 Q (275, L, .int (2592) :: st, g) := am_E_sipush (by decide +kernel : am_dc 156 272 = some (.sipush (2592))) (by decide) rfl
theorem x_156_275  : am_E d 156 Q (275, L, st, g) ↔ am_K d 156 Q (am_S 156 (.newarray .boolean) 275 L st g) := am_E_x (by decide +kernel : am_dc 156 275 = some (.newarray .boolean))
theorem x_156_277   (hok : (am_ok (am_ft 11 44).1 v && (!(am_ft 11 44).2 || (am_ini 156 && am_co 11 == am_o 156)) && decide (11 < 13)) = true) : am_E d 156 Q (277, L, v :: .ref a :: st, g) ↔ am_kg d 156 Q 280 L st (am_pf g a 11 44 v) := am_E_putfield (by decide +kernel : am_dc 156 277 = some (.putfield 112)) (by decide +kernel) rfl hok
theorem x_156_280   : am_E d 156 Q (280, L, st, g) ↔ am_K d 156 Q (am_ldA 281 L st g 0) := am_E_aload_n (by decide +kernel : am_dc 156 280 = some (.aload_n 0)) rfl rfl
theorem x_156_281   : am_E d 156 Q (281, L, st, g) ↔ am_E d 156 Q (284, L, .int (2592) :: st, g) := am_E_sipush (by decide +kernel : am_dc 156 281 = some (.sipush (2592))) (by decide) rfl
theorem x_156_284  : am_E d 156 Q (284, L, st, g) ↔ am_K d 156 Q (am_S 156 (.newarray .int) 284 L st g) := am_E_x (by decide +kernel : am_dc 156 284 = some (.newarray .int))
theorem x_156_286   (hok : (am_ok (am_ft 11 45).1 v && (!(am_ft 11 45).2 || (am_ini 156 && am_co 11 == am_o 156)) && decide (11 < 13)) = true) : am_E d 156 Q (286, L, v :: .ref a :: st, g) ↔ am_kg d 156 Q 289 L st (am_pf g a 11 45 v) := am_E_putfield (by decide +kernel : am_dc 156 286 = some (.putfield 115)) (by decide +kernel) rfl hok
theorem x_156_289   : am_E d 156 Q (289, L, st, g) ↔ am_K d 156 Q (am_ldA 290 L st g 0) := am_E_aload_n (by decide +kernel : am_dc 156 289 = some (.aload_n 0)) rfl rfl
theorem x_156_290   : am_E d 156 Q (290, L, st, g) ↔ am_E d 156 Q (292, L, .int (20) :: st, g) := am_E_bipush (by decide +kernel : am_dc 156 290 = some (.bipush (20))) (by decide) rfl
theorem x_156_292  : am_E d 156 Q (292, L, st, g) ↔ am_K d 156 Q (am_S 156 (.newarray .int) 292 L st g) := am_E_x (by decide +kernel : am_dc 156 292 = some (.newarray .int))
theorem x_156_294   (hok : (am_ok (am_ft 11 50).1 v && (!(am_ft 11 50).2 || (am_ini 156 && am_co 11 == am_o 156)) && decide (11 < 13)) = true) : am_E d 156 Q (294, L, v :: .ref a :: st, g) ↔ am_kg d 156 Q 297 L st (am_pf g a 11 50 v) := am_E_putfield (by decide +kernel : am_dc 156 294 = some (.putfield 118)) (by decide +kernel) rfl hok
theorem x_156_297   : am_E d 156 Q (297, L, st, g) ↔ am_K d 156 Q (am_ldA 298 L st g 0) := am_E_aload_n (by decide +kernel : am_dc 156 297 = some (.aload_n 0)) rfl rfl
theorem x_156_298   : am_E d 156 Q (298, L, st, g) ↔ am_E d 156 Q (300, L, .int (20) :: st, g) := am_E_bipush (by decide +kernel : am_dc 156 298 = some (.bipush (20))) (by decide) rfl
theorem x_156_300  : am_E d 156 Q (300, L, st, g) ↔ am_K d 156 Q (am_S 156 (.newarray .int) 300 L st g) := am_E_x (by decide +kernel : am_dc 156 300 = some (.newarray .int))
theorem x_156_302   (hok : (am_ok (am_ft 11 51).1 v && (!(am_ft 11 51).2 || (am_ini 156 && am_co 11 == am_o 156)) && decide (11 < 13)) = true) : am_E d 156 Q (302, L, v :: .ref a :: st, g) ↔ am_kg d 156 Q 305 L st (am_pf g a 11 51 v) := am_E_putfield (by decide +kernel : am_dc 156 302 = some (.putfield 121)) (by decide +kernel) rfl hok
theorem x_156_305   : am_E d 156 Q (305, L, st, g) ↔ am_K d 156 Q (am_ldA 306 L st g 0) := am_E_aload_n (by decide +kernel : am_dc 156 305 = some (.aload_n 0)) rfl rfl
theorem x_156_306   : am_E d 156 Q (306, L, st, g) ↔ am_E d 156 Q (308, L, .int (20) :: st, g) := am_E_bipush (by decide +kernel : am_dc 156 306 = some (.bipush (20))) (by decide) rfl
theorem x_156_308  : am_E d 156 Q (308, L, st, g) ↔ am_K d 156 Q (am_S 156 (.newarray .int) 308 L st g) := am_E_x (by decide +kernel : am_dc 156 308 = some (.newarray .int))
theorem x_156_310   (hok : (am_ok (am_ft 11 52).1 v && (!(am_ft 11 52).2 || (am_ini 156 && am_co 11 == am_o 156)) && decide (11 < 13)) = true) : am_E d 156 Q (310, L, v :: .ref a :: st, g) ↔ am_kg d 156 Q 313 L st (am_pf g a 11 52 v) := am_E_putfield (by decide +kernel : am_dc 156 310 = some (.putfield 124)) (by decide +kernel) rfl hok
theorem x_156_313   : am_E d 156 Q (313, L, st, g) ↔ am_K d 156 Q (am_ldA 314 L st g 0) := am_E_aload_n (by decide +kernel : am_dc 156 313 = some (.aload_n 0)) rfl rfl
theorem x_156_314   : am_E d 156 Q (314, L, st, g) ↔ am_E d 156 Q (316, L, .int (20) :: st, g) := am_E_bipush (by decide +kernel : am_dc 156 314 = some (.bipush (20))) (by decide) rfl
theorem x_156_316  : am_E d 156 Q (316, L, st, g) ↔ am_K d 156 Q (am_S 156 (.newarray .int) 316 L st g) := am_E_x (by decide +kernel : am_dc 156 316 = some (.newarray .int))
theorem x_156_318   (hok : (am_ok (am_ft 11 53).1 v && (!(am_ft 11 53).2 || (am_ini 156 && am_co 11 == am_o 156)) && decide (11 < 13)) = true) : am_E d 156 Q (318, L, v :: .ref a :: st, g) ↔ am_kg d 156 Q 321 L st (am_pf g a 11 53 v) := am_E_putfield (by decide +kernel : am_dc 156 318 = some (.putfield 127)) (by decide +kernel) rfl hok
theorem x_156_321   : am_E d 156 Q (321, L, st, g) ↔ am_K d 156 Q (am_ldA 322 L st g 0) := am_E_aload_n (by decide +kernel : am_dc 156 321 = some (.aload_n 0)) rfl rfl
theorem x_156_322   : am_E d 156 Q (322, L, st, g) ↔ am_E d 156 Q (324, L, .int (20) :: st, g) := am_E_bipush (by decide +kernel : am_dc 156 322 = some (.bipush (20))) (by decide) rfl
theorem x_156_324  : am_E d 156 Q (324, L, st, g) ↔ am_K d 156 Q (am_S 156 (.newarray .int) 324 L st g) := am_E_x (by decide +kernel : am_dc 156 324 = some (.newarray .int))
theorem x_156_326   (hok : (am_ok (am_ft 11 54).1 v && (!(am_ft 11 54).2 || (am_ini 156 && am_co 11 == am_o 156)) && decide (11 < 13)) = true) : am_E d 156 Q (326, L, v :: .ref a :: st, g) ↔ am_kg d 156 Q 329 L st (am_pf g a 11 54 v) := am_E_putfield (by decide +kernel : am_dc 156 326 = some (.putfield 130)) (by decide +kernel) rfl hok
theorem x_156_329   : am_E d 156 Q (329, L, st, g) ↔ am_K d 156 Q (am_ldA 330 L st g 0) := am_E_aload_n (by decide +kernel : am_dc 156 329 = some (.aload_n 0)) rfl rfl
theorem x_156_330   : am_E d 156 Q (330, L, st, g) ↔ am_E d 156 Q (332, L, .int (20) :: st, g) := am_E_bipush (by decide +kernel : am_dc 156 330 = some (.bipush (20))) (by decide) rfl
theorem x_156_332  : am_E d 156 Q (332, L, st, g) ↔ am_K d 156 Q (am_S 156 (.newarray .int) 332 L st g) := am_E_x (by decide +kernel : am_dc 156 332 = some (.newarray .int))
theorem x_156_334   (hok : (am_ok (am_ft 11 55).1 v && (!(am_ft 11 55).2 || (am_ini 156 && am_co 11 == am_o 156)) && decide (11 < 13)) = true) : am_E d 156 Q (334, L, v :: .ref a :: st, g) ↔ am_kg d 156 Q 337 L st (am_pf g a 11 55 v) := am_E_putfield (by decide +kernel : am_dc 156 334 = some (.putfield 133)) (by decide +kernel) rfl hok
theorem x_156_337   : am_E d 156 Q (337, L, st, g) ↔ am_K d 156 Q (am_ldA 338 L st g 0) := am_E_aload_n (by decide +kernel : am_dc 156 337 = some (.aload_n 0)) rfl rfl
theorem x_156_338   : am_E d 156 Q (338, L, st, g) ↔ am_E d 156 Q (340, L, .int (20) :: st, g) := am_E_bipush (by decide +kernel : am_dc 156 338 = some (.bipush (20))) (by decide) rfl
theorem x_156_340  : am_E d 156 Q (340, L, st, g) ↔ am_K d 156 Q (am_S 156 (.newarray .long) 340 L st g) := am_E_x (by decide +kernel : am_dc 156 340 = some (.newarray .long))
theorem x_156_342   (hok : (am_ok (am_ft 11 56).1 v && (!(am_ft 11 56).2 || (am_ini 156 && am_co 11 == am_o 156)) && decide (11 < 13)) = true) : am_E d 156 Q (342, L, v :: .ref a :: st, g) ↔ am_kg d 156 Q 345 L st (am_pf g a 11 56 v) := am_E_putfield (by decide +kernel : am_dc 156 342 = some (.putfield 136)) (by decide +kernel) rfl hok
theorem x_156_345   : am_E d 156 Q (345, L, st, g) ↔ am_K d 156 Q (am_ldA 346 L st g 0) := am_E_aload_n (by decide +kernel : am_dc 156 345 = some (.aload_n 0)) rfl rfl
theorem x_156_346   : am_E d 156 Q (346, L, st, g) ↔ am_E d 156 Q (348, L, .int (20) :: st, g) := am_E_bipush (by decide +kernel : am_dc 156 346 = some (.bipush (20))) (by decide) rfl
theorem x_156_348  : am_E d 156 Q (348, L, st, g) ↔ am_K d 156 Q (am_S 156 (.newarray .int) 348 L st g) := am_E_x (by decide +kernel : am_dc 156 348 = some (.newarray .int))
theorem x_156_350   (hok : (am_ok (am_ft 11 57).1 v && (!(am_ft 11 57).2 || (am_ini 156 && am_co 11 == am_o 156)) && decide (11 < 13)) = true) : am_E d 156 Q (350, L, v :: .ref a :: st, g) ↔ am_kg d 156 Q 353 L st (am_pf g a 11 57 v) := am_E_putfield (by decide +kernel : am_dc 156 350 = some (.putfield 140)) (by decide +kernel) rfl hok
theorem x_156_353   : am_E d 156 Q (353, L, st, g) ↔ am_K d 156 Q (am_ldA 354 L st g 0) := am_E_aload_n (by decide +kernel : am_dc 156 353 = some (.aload_n 0)) rfl rfl
theorem x_156_354   : am_E d 156 Q (354, L, st, g) ↔ am_E d 156 Q (356, L, .int (20) :: st, g) := am_E_bipush (by decide +kernel : am_dc 156 354 = some (.bipush (20))) (by decide) rfl
theorem x_156_356  : am_E d 156 Q (356, L, st, g) ↔ am_K d 156 Q (am_S 156 (.newarray .int) 356 L st g) := am_E_x (by decide +kernel : am_dc 156 356 = some (.newarray .int))
theorem x_156_358   (hok : (am_ok (am_ft 11 58).1 v && (!(am_ft 11 58).2 || (am_ini 156 && am_co 11 == am_o 156)) && decide (11 < 13)) = true) : am_E d 156 Q (358, L, v :: .ref a :: st, g) ↔ am_kg d 156 Q 361 L st (am_pf g a 11 58 v) := am_E_putfield (by decide +kernel : am_dc 156 358 = some (.putfield 143)) (by decide +kernel) rfl hok
theorem x_156_361   : am_E d 156 Q (361, L, st, g) ↔ am_K d 156 Q (am_ldA 362 L st g 0) := am_E_aload_n (by decide +kernel : am_dc 156 361 = some (.aload_n 0)) rfl rfl
theorem x_156_362   : am_E d 156 Q (362, L, st, g) ↔ am_E d 156 Q (365, L, .int (640) :: st, g) := am_E_sipush (by decide +kernel : am_dc 156 362 = some (.sipush (640))) (by decide) rfl
theorem x_156_365  : am_E d 156 Q (365, L, st, g) ↔ am_K d 156 Q (am_S 156 (.newarray .int) 365 L st g) := am_E_x (by decide +kernel : am_dc 156 365 = some (.newarray .int))
theorem x_156_367   (hok : (am_ok (am_ft 11 60).1 v && (!(am_ft 11 60).2 || (am_ini 156 && am_co 11 == am_o 156)) && decide (11 < 13)) = true) : am_E d 156 Q (367, L, v :: .ref a :: st, g) ↔ am_kg d 156 Q 370 L st (am_pf g a 11 60 v) := am_E_putfield (by decide +kernel : am_dc 156 367 = some (.putfield 146)) (by decide +kernel) rfl hok
theorem x_156_370   : am_E d 156 Q (370, L, st, g) ↔ am_K d 156 Q (am_ldA 371 L st g 0) := am_E_aload_n (by decide +kernel : am_dc 156 370 = some (.aload_n 0)) rfl rfl
theorem x_156_371   : am_E d 156 Q (371, L, st, g) ↔ am_E d 156 Q (374, L, .int (640) :: st, g) := am_E_sipush (by decide +kernel : am_dc 156 371 = some (.sipush (640))) (by decide) rfl
theorem x_156_374  : am_E d 156 Q (374, L, st, g) ↔ am_K d 156 Q (am_S 156 (.newarray .long) 374 L st g) := am_E_x (by decide +kernel : am_dc 156 374 = some (.newarray .long))
theorem x_156_376   (hok : (am_ok (am_ft 11 61).1 v && (!(am_ft 11 61).2 || (am_ini 156 && am_co 11 == am_o 156)) && decide (11 < 13)) = true) : am_E d 156 Q (376, L, v :: .ref a :: st, g) ↔ am_kg d 156 Q 379 L st (am_pf g a 11 61 v) := am_E_putfield (by decide +kernel : am_dc 156 376 = some (.putfield 149)) (by decide +kernel) rfl hok
theorem x_156_379   : am_E d 156 Q (379, L, st, g) ↔ am_K d 156 Q (am_ldA 380 L st g 0) := am_E_aload_n (by decide +kernel : am_dc 156 379 = some (.aload_n 0)) rfl rfl
theorem x_156_380   : am_E d 156 Q (380, L, st, g) ↔ am_E d 156 Q (383, L, .int (300) :: st, g) := am_E_sipush (by decide +kernel : am_dc 156 380 = some (.sipush (300))) (by decide) rfl
theorem x_156_383   (hok : (am_ok (am_ft 11 65).1 v && (!(am_ft 11 65).2 || (am_ini 156 && am_co 11 == am_o 156)) && decide (11 < 13)) = true) : am_E d 156 Q (383, L, v :: .ref a :: st, g) ↔ am_kg d 156 Q 386 L st (am_pf g a 11 65 v) := am_E_putfield (by decide +kernel : am_dc 156 383 = some (.putfield 152)) (by decide +kernel) rfl hok
theorem x_156_386   : am_E d 156 Q (386, L, st, g) ↔ am_K d 156 Q (am_ldA 387 L st g 0) := am_E_aload_n (by decide +kernel : am_dc 156 386 = some (.aload_n 0)) rfl rfl
theorem x_156_387   : am_E d 156 Q (387, L, st, g) ↔ am_E d 156 Q (388, L, .int (3) :: st, g) := am_E_iconst (by decide +kernel : am_dc 156 387 = some (.iconst (3))) (by decide) rfl
theorem x_156_388  : am_E d 156 Q (388, L, st, g) ↔ am_K d 156 Q (am_S 156 (.newarray .int) 388 L st g) := am_E_x (by decide +kernel : am_dc 156 388 = some (.newarray .int))
theorem x_156_390   (hok : (am_ok (am_ft 11 66).1 v && (!(am_ft 11 66).2 || (am_ini 156 && am_co 11 == am_o 156)) && decide (11 < 13)) = true) : am_E d 156 Q (390, L, v :: .ref a :: st, g) ↔ am_kg d 156 Q 393 L st (am_pf g a 11 66 v) := am_E_putfield (by decide +kernel : am_dc 156 390 = some (.putfield 155)) (by decide +kernel) rfl hok
theorem x_156_393   : am_E d 156 Q (393, L, st, g) ↔ am_K d 156 Q (am_ldA 394 L st g 0) := am_E_aload_n (by decide +kernel : am_dc 156 393 = some (.aload_n 0)) rfl rfl
theorem x_156_394   : am_E d 156 Q (394, L, st, g) ↔ am_E d 156 Q (397, L, .int (216) :: st, g) := am_E_sipush (by decide +kernel : am_dc 156 394 = some (.sipush (216))) (by decide) rfl
theorem x_156_397  : am_E d 156 Q (397, L, st, g) ↔ am_K d 156 Q (am_S 156 (.newarray .int) 397 L st g) := am_E_x (by decide +kernel : am_dc 156 397 = some (.newarray .int))
theorem x_156_399   (hok : (am_ok (am_ft 11 67).1 v && (!(am_ft 11 67).2 || (am_ini 156 && am_co 11 == am_o 156)) && decide (11 < 13)) = true) : am_E d 156 Q (399, L, v :: .ref a :: st, g) ↔ am_kg d 156 Q 402 L st (am_pf g a 11 67 v) := am_E_putfield (by decide +kernel : am_dc 156 399 = some (.putfield 158)) (by decide +kernel) rfl hok
theorem x_156_402   : am_E d 156 Q (402, L, st, g) ↔ am_K d 156 Q (am_ldA 403 L st g 0) := am_E_aload_n (by decide +kernel : am_dc 156 402 = some (.aload_n 0)) rfl rfl
theorem x_156_403   : am_E d 156 Q (403, L, st, g) ↔ am_E d 156 Q (405, L, .int (16) :: st, g) := am_E_bipush (by decide +kernel : am_dc 156 403 = some (.bipush (16))) (by decide) rfl
theorem x_156_405  : am_E d 156 Q (405, L, st, g) ↔ am_K d 156 Q (am_S 156 (.newarray .char) 405 L st g) := am_E_x (by decide +kernel : am_dc 156 405 = some (.newarray .char))
theorem x_156_407   (hok : (am_ok (am_ft 11 68).1 v && (!(am_ft 11 68).2 || (am_ini 156 && am_co 11 == am_o 156)) && decide (11 < 13)) = true) : am_E d 156 Q (407, L, v :: .ref a :: st, g) ↔ am_kg d 156 Q 410 L st (am_pf g a 11 68 v) := am_E_putfield (by decide +kernel : am_dc 156 407 = some (.putfield 161)) (by decide +kernel) rfl hok
theorem x_156_410   : am_E d 156 Q (410, L, st, g) ↔ am_E d 156 Q (411, L, .int (0) :: st, g) := am_E_iconst (by decide +kernel : am_dc 156 410 = some (.iconst (0))) (by decide) rfl
theorem x_156_411   : am_E d 156 Q (411, L, st, g) ↔ am_K d 156 Q (am_stI 412 L st g 1) := am_E_istore_n (by decide +kernel : am_dc 156 411 = some (.istore_n 1)) rfl rfl
theorem x_156_412   : am_E d 156 Q (412, L, st, g) ↔ am_K d 156 Q (am_ldI 413 L st g 1) := am_E_iload_n (by decide +kernel : am_dc 156 412 = some (.iload_n 1)) rfl rfl
theorem x_156_413   : am_E d 156 Q (413, L, st, g) ↔ am_E d 156 Q (414, L, .int (3) :: st, g) := am_E_iconst (by decide +kernel : am_dc 156 413 = some (.iconst (3))) (by decide) rfl
theorem x_156_414   : am_E d 156 Q (414, L, .int y :: .int x :: st, g) ↔ am_E d 156 Q (am_cmp .ge x y 458 417, L, st, g) := am_E_ic (by decide +kernel : am_dc 156 414 = some (.if_icmp .ge (44))) rfl rfl
theorem x_156_417   : am_E d 156 Q (417, L, st, g) ↔ am_K d 156 Q (am_ldA 418 L st g 0) := am_E_aload_n (by decide +kernel : am_dc 156 417 = some (.aload_n 0)) rfl rfl
theorem x_156_418   : am_E d 156 Q (418, L, .ref a :: st, g) ↔ am_kv d 156 Q 421 L st g (am_gf g a 11 1) := am_E_getfield (by decide +kernel : am_dc 156 418 = some (.getfield 7)) (by decide +kernel) rfl
theorem x_156_421   : am_E d 156 Q (421, L, st, g) ↔ am_E d 156 Q (423, L, .int (6) :: st, g) := am_E_bipush (by decide +kernel : am_dc 156 421 = some (.bipush (6))) (by decide) rfl
theorem x_156_423   : am_E d 156 Q (423, L, st, g) ↔ am_K d 156 Q (am_ldI 424 L st g 1) := am_E_iload_n (by decide +kernel : am_dc 156 423 = some (.iload_n 1)) rfl rfl
theorem x_156_424   : am_E d 156 Q (424, L, .int y :: .int x :: st, g) ↔ am_E d 156 Q (425, L, .int (x * y) :: st, g) := am_E_imul (by decide +kernel : am_dc 156 424 = some (.imul)) rfl
theorem x_156_425   : am_E d 156 Q (425, L, st, g) ↔ am_E d 156 Q (426, L, .int (1) :: st, g) := am_E_iconst (by decide +kernel : am_dc 156 425 = some (.iconst (1))) (by decide) rfl
theorem x_156_426   : am_E d 156 Q (426, L, v :: .int x :: .ref a :: st, g) ↔ am_kg d 156 Q 427 L st (am_sat .bastore g a x v) := am_E_bastore (by decide +kernel : am_dc 156 426 = some (.bastore)) rfl
theorem x_156_427   : am_E d 156 Q (427, L, st, g) ↔ am_K d 156 Q (am_ldA 428 L st g 0) := am_E_aload_n (by decide +kernel : am_dc 156 427 = some (.aload_n 0)) rfl rfl
theorem x_156_428   : am_E d 156 Q (428, L, .ref a :: st, g) ↔ am_kv d 156 Q 431 L st g (am_gf g a 11 2) := am_E_getfield (by decide +kernel : am_dc 156 428 = some (.getfield 13)) (by decide +kernel) rfl
theorem x_156_431   : am_E d 156 Q (431, L, st, g) ↔ am_E d 156 Q (433, L, .int (6) :: st, g) := am_E_bipush (by decide +kernel : am_dc 156 431 = some (.bipush (6))) (by decide) rfl
theorem x_156_433   : am_E d 156 Q (433, L, st, g) ↔ am_K d 156 Q (am_ldI 434 L st g 1) := am_E_iload_n (by decide +kernel : am_dc 156 433 = some (.iload_n 1)) rfl rfl
theorem x_156_434   : am_E d 156 Q (434, L, .int y :: .int x :: st, g) ↔ am_E d 156 Q (435, L, .int (x * y) :: st, g) := am_E_imul (by decide +kernel : am_dc 156 434 = some (.imul)) rfl
theorem x_156_435   : am_E d 156 Q (435, L, st, g) ↔ am_E d 156 Q (436, L, .int (-1) :: st, g) := am_E_iconst (by decide +kernel : am_dc 156 435 = some (.iconst (-1))) (by decide) rfl
theorem x_156_436   : am_E d 156 Q (436, L, v :: .int x :: .ref a :: st, g) ↔ am_kg d 156 Q 437 L st (am_sat .iastore g a x v) := am_E_iastore (by decide +kernel : am_dc 156 436 = some (.iastore)) rfl
theorem x_156_437   : am_E d 156 Q (437, L, st, g) ↔ am_K d 156 Q (am_ldA 438 L st g 0) := am_E_aload_n (by decide +kernel : am_dc 156 437 = some (.aload_n 0)) rfl rfl
theorem x_156_438   : am_E d 156 Q (438, L, .ref a :: st, g) ↔ am_kv d 156 Q 441 L st g (am_gf g a 11 3) := am_E_getfield (by decide +kernel : am_dc 156 438 = some (.getfield 17)) (by decide +kernel) rfl
theorem x_156_441   : am_E d 156 Q (441, L, st, g) ↔ am_E d 156 Q (443, L, .int (6) :: st, g) := am_E_bipush (by decide +kernel : am_dc 156 441 = some (.bipush (6))) (by decide) rfl
theorem x_156_443   : am_E d 156 Q (443, L, st, g) ↔ am_K d 156 Q (am_ldI 444 L st g 1) := am_E_iload_n (by decide +kernel : am_dc 156 443 = some (.iload_n 1)) rfl rfl
theorem x_156_444   : am_E d 156 Q (444, L, .int y :: .int x :: st, g) ↔ am_E d 156 Q (445, L, .int (x * y) :: st, g) := am_E_imul (by decide +kernel : am_dc 156 444 = some (.imul)) rfl
theorem x_156_445   : am_E d 156 Q (445, L, st, g) ↔ am_E d 156 Q (446, L, .int (1) :: st, g) := am_E_iconst (by decide +kernel : am_dc 156 445 = some (.iconst (1))) (by decide) rfl
theorem x_156_446   : am_E d 156 Q (446, L, v :: .int x :: .ref a :: st, g) ↔ am_kg d 156 Q 447 L st (am_sat .iastore g a x v) := am_E_iastore (by decide +kernel : am_dc 156 446 = some (.iastore)) rfl
theorem x_156_447   : am_E d 156 Q (447, L, st, g) ↔ am_K d 156 Q (am_ldA 448 L st g 0) := am_E_aload_n (by decide +kernel : am_dc 156 447 = some (.aload_n 0)) rfl rfl
theorem x_156_448   : am_E d 156 Q (448, L, st, g) ↔ am_K d 156 Q (am_ldI 449 L st g 1) := am_E_iload_n (by decide +kernel : am_dc 156 448 = some (.iload_n 1)) rfl rfl
theorem x_156_449  : am_E d 156 Q (449, L, st, g) ↔ am_K d 156 Q (am_S 156 (.invokevirtual 164) 449 L st g) := am_E_x (by decide +kernel : am_dc 156 449 = some (.invokevirtual 164))
theorem x_156_452   (hk : L.getD 1 none = some (.int x)) (hl : 1 < L.length) : am_E d 156 Q (452, L, st, g) ↔ am_E d 156 Q (455, am_s1 L 1 (.int (x + (1))), st, g) := am_E_iinc (by decide +kernel : am_dc 156 452 = some (.iinc 1 (1))) (by decide) rfl hk hl
theorem x_156_455   : am_E d 156 Q (455, L, st, g) ↔ am_E d 156 Q (412, L, st, g) := am_E_gt (by decide +kernel : am_dc 156 455 = some (.goto (-43))) rfl rfl
theorem x_156_458  : am_E d 156 Q (458, L, [], g) ↔ Q (.inl none) g := am_E_return (by decide +kernel : am_dc 156 458 = some (.return_)) (by decide +kernel)
theorem v_156_1 : am_iv 156 1 = some (3, 0, 1) := by decide +kernel
theorem f_156_7 : am_fl 156 7 = some (11, 1) := by decide +kernel
theorem f_156_13 : am_fl 156 13 = some (11, 2) := by decide +kernel
theorem f_156_17 : am_fl 156 17 = some (11, 3) := by decide +kernel
theorem f_156_20 : am_fl 156 20 = some (11, 4) := by decide +kernel
theorem f_156_23 : am_fl 156 23 = some (11, 5) := by decide +kernel
theorem f_156_26 : am_fl 156 26 = some (11, 6) := by decide +kernel
theorem f_156_29 : am_fl 156 29 = some (11, 7) := by decide +kernel
theorem f_156_32 : am_fl 156 32 = some (11, 8) := by decide +kernel
theorem f_156_36 : am_fl 156 36 = some (11, 9) := by decide +kernel
theorem f_156_39 : am_fl 156 39 = some (11, 10) := by decide +kernel
theorem f_156_42 : am_fl 156 42 = some (11, 12) := by decide +kernel
theorem f_156_45 : am_fl 156 45 = some (11, 13) := by decide +kernel
theorem f_156_48 : am_fl 156 48 = some (11, 14) := by decide +kernel
theorem f_156_51 : am_fl 156 51 = some (11, 15) := by decide +kernel
theorem f_156_54 : am_fl 156 54 = some (11, 16) := by decide +kernel
theorem f_156_57 : am_fl 156 57 = some (11, 17) := by decide +kernel
theorem f_156_60 : am_fl 156 60 = some (11, 18) := by decide +kernel
theorem f_156_63 : am_fl 156 63 = some (11, 19) := by decide +kernel
theorem f_156_66 : am_fl 156 66 = some (11, 20) := by decide +kernel
theorem f_156_69 : am_fl 156 69 = some (11, 21) := by decide +kernel
theorem f_156_72 : am_fl 156 72 = some (11, 22) := by decide +kernel
theorem f_156_75 : am_fl 156 75 = some (11, 24) := by decide +kernel
theorem f_156_79 : am_fl 156 79 = some (11, 26) := by decide +kernel
theorem f_156_82 : am_fl 156 82 = some (11, 27) := by decide +kernel
theorem f_156_85 : am_fl 156 85 = some (11, 28) := by decide +kernel
theorem f_156_88 : am_fl 156 88 = some (11, 29) := by decide +kernel
theorem f_156_91 : am_fl 156 91 = some (11, 30) := by decide +kernel
theorem f_156_94 : am_fl 156 94 = some (11, 32) := by decide +kernel
theorem f_156_97 : am_fl 156 97 = some (11, 39) := by decide +kernel
theorem f_156_100 : am_fl 156 100 = some (11, 40) := by decide +kernel
theorem f_156_103 : am_fl 156 103 = some (11, 41) := by decide +kernel
theorem f_156_106 : am_fl 156 106 = some (11, 42) := by decide +kernel
theorem f_156_109 : am_fl 156 109 = some (11, 43) := by decide +kernel
theorem f_156_112 : am_fl 156 112 = some (11, 44) := by decide +kernel
theorem f_156_115 : am_fl 156 115 = some (11, 45) := by decide +kernel
theorem f_156_118 : am_fl 156 118 = some (11, 50) := by decide +kernel
theorem f_156_121 : am_fl 156 121 = some (11, 51) := by decide +kernel
theorem f_156_124 : am_fl 156 124 = some (11, 52) := by decide +kernel
theorem f_156_127 : am_fl 156 127 = some (11, 53) := by decide +kernel
theorem f_156_130 : am_fl 156 130 = some (11, 54) := by decide +kernel
theorem f_156_133 : am_fl 156 133 = some (11, 55) := by decide +kernel
theorem f_156_136 : am_fl 156 136 = some (11, 56) := by decide +kernel
theorem f_156_140 : am_fl 156 140 = some (11, 57) := by decide +kernel
theorem f_156_143 : am_fl 156 143 = some (11, 58) := by decide +kernel
theorem f_156_146 : am_fl 156 146 = some (11, 60) := by decide +kernel
theorem f_156_149 : am_fl 156 149 = some (11, 61) := by decide +kernel
theorem f_156_152 : am_fl 156 152 = some (11, 65) := by decide +kernel
theorem f_156_155 : am_fl 156 155 = some (11, 66) := by decide +kernel
theorem f_156_158 : am_fl 156 158 = some (11, 67) := by decide +kernel
theorem f_156_161 : am_fl 156 161 = some (11, 68) := by decide +kernel
theorem v_156_164 : am_iv 156 164 = some (1, 179, 2) := by decide +kernel
theorem t_156 : am_t 156 = none := by decide +kernel
theorem h_156 : am_h 156 = [] := by decide +kernel
theorem m_156 : am_m 156 = 2 := by decide +kernel
theorem x_157_0   : am_E d 157 Q (0, L, st, g) ↔ am_K d 157 Q (am_ldA 1 L st g 0) := am_E_aload_n (by decide +kernel : am_dc 157 0 = some (.aload_n 0)) rfl rfl
theorem x_157_1   : am_E d 157 Q (1, L, st, g) ↔ am_K d 157 Q (am_ldI 2 L st g 1) := am_E_iload_n (by decide +kernel : am_dc 157 1 = some (.iload_n 1)) rfl rfl
theorem x_157_2   : am_E d 157 Q (2, L, st, g) ↔ am_K d 157 Q (am_ldI 3 L st g 2) := am_E_iload_n (by decide +kernel : am_dc 157 2 = some (.iload_n 2)) rfl rfl
theorem x_157_3  : am_E d 157 Q (3, L, st, g) ↔ am_K d 157 Q (am_S 157 (.invokevirtual 189) 3 L st g) := am_E_x (by decide +kernel : am_dc 157 3 = some (.invokevirtual 189))
theorem x_157_6   : am_E d 157 Q (6, L, st, g) ↔ am_K d 157 Q (am_stI 8 L st g 4) := am_E_istore (by decide +kernel : am_dc 157 6 = some (.istore 4)) rfl
theorem x_157_8   : am_E d 157 Q (8, L, st, g) ↔ am_K d 157 Q (am_ldA 9 L st g 0) := am_E_aload_n (by decide +kernel : am_dc 157 8 = some (.aload_n 0)) rfl rfl
theorem x_157_9   : am_E d 157 Q (9, L, st, g) ↔ am_K d 157 Q (am_ldI 11 L st g 4) := am_E_iload (by decide +kernel : am_dc 157 9 = some (.iload 4)) rfl
theorem x_157_11   : am_E d 157 Q (11, L, st, g) ↔ am_K d 157 Q (am_ldI 12 L st g 3) := am_E_iload_n (by decide +kernel : am_dc 157 11 = some (.iload_n 3)) rfl rfl
theorem x_157_12   : am_E d 157 Q (12, L, .int x :: st, g) ↔ am_E d 157 Q (am_cmp .lt x 0 24 15, L, st, g) := am_E_if (by decide +kernel : am_dc 157 12 = some (.ifCond .lt (12))) rfl rfl
theorem x_157_15   : am_E d 157 Q (15, L, st, g) ↔ am_K d 157 Q (am_ldI 16 L st g 3) := am_E_iload_n (by decide +kernel : am_dc 157 15 = some (.iload_n 3)) rfl rfl
theorem x_157_16   : am_E d 157 Q (16, L, st, g) ↔ am_E d 157 Q (17, L, .int (3) :: st, g) := am_E_iconst (by decide +kernel : am_dc 157 16 = some (.iconst (3))) (by decide) rfl
theorem x_157_17   : am_E d 157 Q (17, L, .int y :: .int x :: st, g) ↔ am_E d 157 Q (am_cmp .gt x y 24 20, L, st, g) := am_E_ic (by decide +kernel : am_dc 157 17 = some (.if_icmp .gt (7))) rfl rfl
theorem x_157_20   : am_E d 157 Q (20, L, st, g) ↔ am_E d 157 Q (21, L, .int (1) :: st, g) := am_E_iconst (by decide +kernel : am_dc 157 20 = some (.iconst (1))) (by decide) rfl
theorem x_157_21   : am_E d 157 Q (21, L, st, g) ↔ am_E d 157 Q (25, L, st, g) := am_E_gt (by decide +kernel : am_dc 157 21 = some (.goto (4))) rfl rfl
theorem x_157_24   : am_E d 157 Q (24, L, st, g) ↔ am_E d 157 Q (25, L, .int (0) :: st, g) := am_E_iconst (by decide +kernel : am_dc 157 24 = some (.iconst (0))) (by decide) rfl
theorem x_157_25   : am_E d 157 Q (25, L, st, g) ↔ am_E d 157 Q (26, L, .int (1) :: st, g) := am_E_iconst (by decide +kernel : am_dc 157 25 = some (.iconst (1))) (by decide) rfl
theorem x_157_26  : am_E d 157 Q (26, L, st, g) ↔ am_K d 157 Q (am_S 157 (.invokevirtual 196) 26 L st g) := am_E_x (by decide +kernel : am_dc 157 26 = some (.invokevirtual 196))
theorem x_157_29   : am_E d 157 Q (29, L, .int x :: st, g) ↔ am_E d 157 Q (am_cmp .ne x 0 34 32, L, st, g) := am_E_if (by decide +kernel : am_dc 157 29 = some (.ifCond .ne (5))) rfl rfl
theorem x_157_32   : am_E d 157 Q (32, L, st, g) ↔ am_E d 157 Q (33, L, .int (0) :: st, g) := am_E_iconst (by decide +kernel : am_dc 157 32 = some (.iconst (0))) (by decide) rfl
theorem x_157_33  : am_E d 157 Q (33, L, [.int x], g) ↔ if am_ok (FieldType.int) (.int x) = true then Q (.inl (some (.int x))) g else False := am_E_ireturn (by decide +kernel : am_dc 157 33 = some (.ireturn)) (by decide +kernel)
theorem x_157_34   : am_E d 157 Q (34, L, st, g) ↔ am_K d 157 Q (am_ldI 35 L st g 3) := am_E_iload_n (by decide +kernel : am_dc 157 34 = some (.iload_n 3)) rfl rfl
theorem x_157_35   : am_E d 157 Q (35, L, .int x :: st, g) ↔ am_E d 157 Q (am_cmp .ne x 0 52 38, L, st, g) := am_E_if (by decide +kernel : am_dc 157 35 = some (.ifCond .ne (17))) rfl rfl
theorem x_157_38   : am_E d 157 Q (38, L, st, g) ↔ am_K d 157 Q (am_ldA 39 L st g 0) := am_E_aload_n (by decide +kernel : am_dc 157 38 = some (.aload_n 0)) rfl rfl
theorem x_157_39   : am_E d 157 Q (39, L, .ref a :: st, g) ↔ am_kv d 157 Q 42 L st g (am_gf g a 11 2) := am_E_getfield (by decide +kernel : am_dc 157 39 = some (.getfield 13)) (by decide +kernel) rfl
theorem x_157_42   : am_E d 157 Q (42, L, st, g) ↔ am_E d 157 Q (44, L, .int (6) :: st, g) := am_E_bipush (by decide +kernel : am_dc 157 42 = some (.bipush (6))) (by decide) rfl
theorem x_157_44   : am_E d 157 Q (44, L, st, g) ↔ am_K d 157 Q (am_ldI 45 L st g 1) := am_E_iload_n (by decide +kernel : am_dc 157 44 = some (.iload_n 1)) rfl rfl
theorem x_157_45   : am_E d 157 Q (45, L, .int y :: .int x :: st, g) ↔ am_E d 157 Q (46, L, .int (x * y) :: st, g) := am_E_imul (by decide +kernel : am_dc 157 45 = some (.imul)) rfl
theorem x_157_46   : am_E d 157 Q (46, L, st, g) ↔ am_K d 157 Q (am_ldI 47 L st g 2) := am_E_iload_n (by decide +kernel : am_dc 157 46 = some (.iload_n 2)) rfl rfl
theorem x_157_47   : am_E d 157 Q (47, L, .int y :: .int x :: st, g) ↔ am_E d 157 Q (48, L, .int (x + y) :: st, g) := am_E_iadd (by decide +kernel : am_dc 157 47 = some (.iadd)) rfl
theorem x_157_48   : am_E d 157 Q (48, L, .int x :: .ref a :: st, g) ↔ am_kv d 157 Q 49 L st g (am_iat .iaload g a x) := am_E_iaload (by decide +kernel : am_dc 157 48 = some (.iaload)) rfl
theorem x_157_49   : am_E d 157 Q (49, L, st, g) ↔ am_E d 157 Q (91, L, st, g) := am_E_gt (by decide +kernel : am_dc 157 49 = some (.goto (42))) rfl rfl
theorem x_157_52   : am_E d 157 Q (52, L, st, g) ↔ am_K d 157 Q (am_ldI 53 L st g 3) := am_E_iload_n (by decide +kernel : am_dc 157 52 = some (.iload_n 3)) rfl rfl
theorem x_157_53   : am_E d 157 Q (53, L, st, g) ↔ am_E d 157 Q (54, L, .int (1) :: st, g) := am_E_iconst (by decide +kernel : am_dc 157 53 = some (.iconst (1))) (by decide) rfl
theorem x_157_54   : am_E d 157 Q (54, L, .int y :: .int x :: st, g) ↔ am_E d 157 Q (am_cmp .ne x y 71 57, L, st, g) := am_E_ic (by decide +kernel : am_dc 157 54 = some (.if_icmp .ne (17))) rfl rfl
theorem x_157_57   : am_E d 157 Q (57, L, st, g) ↔ am_K d 157 Q (am_ldA 58 L st g 0) := am_E_aload_n (by decide +kernel : am_dc 157 57 = some (.aload_n 0)) rfl rfl
theorem x_157_58   : am_E d 157 Q (58, L, .ref a :: st, g) ↔ am_kv d 157 Q 61 L st g (am_gf g a 11 3) := am_E_getfield (by decide +kernel : am_dc 157 58 = some (.getfield 17)) (by decide +kernel) rfl
theorem x_157_61   : am_E d 157 Q (61, L, st, g) ↔ am_E d 157 Q (63, L, .int (6) :: st, g) := am_E_bipush (by decide +kernel : am_dc 157 61 = some (.bipush (6))) (by decide) rfl
theorem x_157_63   : am_E d 157 Q (63, L, st, g) ↔ am_K d 157 Q (am_ldI 64 L st g 1) := am_E_iload_n (by decide +kernel : am_dc 157 63 = some (.iload_n 1)) rfl rfl
theorem x_157_64   : am_E d 157 Q (64, L, .int y :: .int x :: st, g) ↔ am_E d 157 Q (65, L, .int (x * y) :: st, g) := am_E_imul (by decide +kernel : am_dc 157 64 = some (.imul)) rfl
theorem x_157_65   : am_E d 157 Q (65, L, st, g) ↔ am_K d 157 Q (am_ldI 66 L st g 2) := am_E_iload_n (by decide +kernel : am_dc 157 65 = some (.iload_n 2)) rfl rfl
theorem x_157_66   : am_E d 157 Q (66, L, .int y :: .int x :: st, g) ↔ am_E d 157 Q (67, L, .int (x + y) :: st, g) := am_E_iadd (by decide +kernel : am_dc 157 66 = some (.iadd)) rfl
theorem x_157_67   : am_E d 157 Q (67, L, .int x :: .ref a :: st, g) ↔ am_kv d 157 Q 68 L st g (am_iat .iaload g a x) := am_E_iaload (by decide +kernel : am_dc 157 67 = some (.iaload)) rfl
theorem x_157_68   : am_E d 157 Q (68, L, st, g) ↔ am_E d 157 Q (91, L, st, g) := am_E_gt (by decide +kernel : am_dc 157 68 = some (.goto (23))) rfl rfl
theorem x_157_71   : am_E d 157 Q (71, L, st, g) ↔ am_K d 157 Q (am_ldI 72 L st g 3) := am_E_iload_n (by decide +kernel : am_dc 157 71 = some (.iload_n 3)) rfl rfl
theorem x_157_72   : am_E d 157 Q (72, L, st, g) ↔ am_E d 157 Q (73, L, .int (2) :: st, g) := am_E_iconst (by decide +kernel : am_dc 157 72 = some (.iconst (2))) (by decide) rfl
theorem x_157_73   : am_E d 157 Q (73, L, .int y :: .int x :: st, g) ↔ am_E d 157 Q (am_cmp .ne x y 85 76, L, st, g) := am_E_ic (by decide +kernel : am_dc 157 73 = some (.if_icmp .ne (12))) rfl rfl
theorem x_157_76   : am_E d 157 Q (76, L, st, g) ↔ am_K d 157 Q (am_ldA 77 L st g 0) := am_E_aload_n (by decide +kernel : am_dc 157 76 = some (.aload_n 0)) rfl rfl
theorem x_157_77   : am_E d 157 Q (77, L, st, g) ↔ am_K d 157 Q (am_ldI 78 L st g 1) := am_E_iload_n (by decide +kernel : am_dc 157 77 = some (.iload_n 1)) rfl rfl
theorem x_157_78   : am_E d 157 Q (78, L, st, g) ↔ am_K d 157 Q (am_ldI 79 L st g 2) := am_E_iload_n (by decide +kernel : am_dc 157 78 = some (.iload_n 2)) rfl rfl
theorem x_157_79  : am_E d 157 Q (79, L, st, g) ↔ am_K d 157 Q (am_S 157 (.invokevirtual 207) 79 L st g) := am_E_x (by decide +kernel : am_dc 157 79 = some (.invokevirtual 207))
theorem x_157_82   : am_E d 157 Q (82, L, st, g) ↔ am_E d 157 Q (91, L, st, g) := am_E_gt (by decide +kernel : am_dc 157 82 = some (.goto (9))) rfl rfl
theorem x_157_85   : am_E d 157 Q (85, L, st, g) ↔ am_K d 157 Q (am_ldA 86 L st g 0) := am_E_aload_n (by decide +kernel : am_dc 157 85 = some (.aload_n 0)) rfl rfl
theorem x_157_86   : am_E d 157 Q (86, L, st, g) ↔ am_K d 157 Q (am_ldI 87 L st g 1) := am_E_iload_n (by decide +kernel : am_dc 157 86 = some (.iload_n 1)) rfl rfl
theorem x_157_87   : am_E d 157 Q (87, L, st, g) ↔ am_K d 157 Q (am_ldI 88 L st g 2) := am_E_iload_n (by decide +kernel : am_dc 157 87 = some (.iload_n 2)) rfl rfl
theorem x_157_88  : am_E d 157 Q (88, L, st, g) ↔ am_K d 157 Q (am_S 157 (.invokevirtual 375) 88 L st g) := am_E_x (by decide +kernel : am_dc 157 88 = some (.invokevirtual 375))
theorem x_157_91  : am_E d 157 Q (91, L, [.int x], g) ↔ if am_ok (FieldType.int) (.int x) = true then Q (.inl (some (.int x))) g else False := am_E_ireturn (by decide +kernel : am_dc 157 91 = some (.ireturn)) (by decide +kernel)
theorem v_157_189 : am_iv 157 189 = some (1, 196, 3) := by decide +kernel
theorem v_157_196 : am_iv 157 196 = some (1, 185, 4) := by decide +kernel
theorem f_157_13 : am_fl 157 13 = some (11, 2) := by decide +kernel
theorem f_157_17 : am_fl 157 17 = some (11, 3) := by decide +kernel
theorem v_157_207 : am_iv 157 207 = some (1, 168, 3) := by decide +kernel
theorem v_157_375 : am_iv 157 375 = some (1, 201, 3) := by decide +kernel
theorem t_157 : am_t 157 = some (FieldType.int) := by decide +kernel
theorem h_157 : am_h 157 = [] := by decide +kernel
theorem m_157 : am_m 157 = 5 := by decide +kernel
theorem x_158_0   : am_E d 158 Q (0, L, st, g) ↔ am_E d 158 Q (1, L, .int (1) :: st, g) := am_E_iconst (by decide +kernel : am_dc 158 0 = some (.iconst (1))) (by decide) rfl
theorem x_158_1   : am_E d 158 Q (1, L, st, g) ↔ am_K d 158 Q (am_stI 2 L st g 3) := am_E_istore_n (by decide +kernel : am_dc 158 1 = some (.istore_n 3)) rfl rfl
theorem x_158_2   : am_E d 158 Q (2, L, st, g) ↔ am_E d 158 Q (3, L, .int (0) :: st, g) := am_E_iconst (by decide +kernel : am_dc 158 2 = some (.iconst (0))) (by decide) rfl
theorem x_158_3   : am_E d 158 Q (3, L, st, g) ↔ am_K d 158 Q (am_stI 5 L st g 4) := am_E_istore (by decide +kernel : am_dc 158 3 = some (.istore 4)) rfl
theorem x_158_5   : am_E d 158 Q (5, L, st, g) ↔ am_K d 158 Q (am_ldI 7 L st g 4) := am_E_iload (by decide +kernel : am_dc 158 5 = some (.iload 4)) rfl
theorem x_158_7   : am_E d 158 Q (7, L, st, g) ↔ am_E d 158 Q (8, L, .int (3) :: st, g) := am_E_iconst (by decide +kernel : am_dc 158 7 = some (.iconst (3))) (by decide) rfl
theorem x_158_8   : am_E d 158 Q (8, L, .int y :: .int x :: st, g) ↔ am_E d 158 Q (am_cmp .ge x y 68 11, L, st, g) := am_E_ic (by decide +kernel : am_dc 158 8 = some (.if_icmp .ge (60))) rfl rfl
theorem x_158_11   : am_E d 158 Q (11, L, st, g) ↔ am_K d 158 Q (am_ldI 12 L st g 1) := am_E_iload_n (by decide +kernel : am_dc 158 11 = some (.iload_n 1)) rfl rfl
theorem x_158_12   : am_E d 158 Q (12, L, st, g) ↔ am_K d 158 Q (am_ldI 14 L st g 4) := am_E_iload (by decide +kernel : am_dc 158 12 = some (.iload 4)) rfl
theorem x_158_14  : am_E d 158 Q (14, L, st, g) ↔ am_K d 158 Q (am_S 158 (.invokestatic 217) 14 L st g) := am_E_x (by decide +kernel : am_dc 158 14 = some (.invokestatic 217))
theorem x_158_17   : am_E d 158 Q (17, L, st, g) ↔ am_K d 158 Q (am_stI 19 L st g 5) := am_E_istore (by decide +kernel : am_dc 158 17 = some (.istore 5)) rfl
theorem x_158_19   : am_E d 158 Q (19, L, st, g) ↔ am_K d 158 Q (am_ldI 20 L st g 3) := am_E_iload_n (by decide +kernel : am_dc 158 19 = some (.iload_n 3)) rfl rfl
theorem x_158_20   : am_E d 158 Q (20, L, .int x :: st, g) ↔ am_E d 158 Q (am_cmp .eq x 0 60 23, L, st, g) := am_E_if (by decide +kernel : am_dc 158 20 = some (.ifCond .eq (40))) rfl rfl
theorem x_158_23   : am_E d 158 Q (23, L, st, g) ↔ am_K d 158 Q (am_ldA 24 L st g 0) := am_E_aload_n (by decide +kernel : am_dc 158 23 = some (.aload_n 0)) rfl rfl
theorem x_158_24   : am_E d 158 Q (24, L, .ref a :: st, g) ↔ am_kv d 158 Q 27 L st g (am_gf g a 11 1) := am_E_getfield (by decide +kernel : am_dc 158 24 = some (.getfield 7)) (by decide +kernel) rfl
theorem x_158_27   : am_E d 158 Q (27, L, st, g) ↔ am_E d 158 Q (29, L, .int (6) :: st, g) := am_E_bipush (by decide +kernel : am_dc 158 27 = some (.bipush (6))) (by decide) rfl
theorem x_158_29   : am_E d 158 Q (29, L, st, g) ↔ am_K d 158 Q (am_ldI 31 L st g 4) := am_E_iload (by decide +kernel : am_dc 158 29 = some (.iload 4)) rfl
theorem x_158_31   : am_E d 158 Q (31, L, .int y :: .int x :: st, g) ↔ am_E d 158 Q (32, L, .int (x * y) :: st, g) := am_E_imul (by decide +kernel : am_dc 158 31 = some (.imul)) rfl
theorem x_158_32   : am_E d 158 Q (32, L, st, g) ↔ am_K d 158 Q (am_ldI 34 L st g 5) := am_E_iload (by decide +kernel : am_dc 158 32 = some (.iload 5)) rfl
theorem x_158_34   : am_E d 158 Q (34, L, .int y :: .int x :: st, g) ↔ am_E d 158 Q (35, L, .int (x + y) :: st, g) := am_E_iadd (by decide +kernel : am_dc 158 34 = some (.iadd)) rfl
theorem x_158_35   : am_E d 158 Q (35, L, .int x :: .ref a :: st, g) ↔ am_kv d 158 Q 36 L st g (am_iat .baload g a x) := am_E_baload (by decide +kernel : am_dc 158 35 = some (.baload)) rfl
theorem x_158_36   : am_E d 158 Q (36, L, .int x :: st, g) ↔ am_E d 158 Q (am_cmp .eq x 0 60 39, L, st, g) := am_E_if (by decide +kernel : am_dc 158 36 = some (.ifCond .eq (24))) rfl rfl
theorem x_158_39   : am_E d 158 Q (39, L, st, g) ↔ am_K d 158 Q (am_ldA 40 L st g 0) := am_E_aload_n (by decide +kernel : am_dc 158 39 = some (.aload_n 0)) rfl rfl
theorem x_158_40   : am_E d 158 Q (40, L, st, g) ↔ am_K d 158 Q (am_ldI 42 L st g 4) := am_E_iload (by decide +kernel : am_dc 158 40 = some (.iload 4)) rfl
theorem x_158_42   : am_E d 158 Q (42, L, st, g) ↔ am_K d 158 Q (am_ldI 44 L st g 5) := am_E_iload (by decide +kernel : am_dc 158 42 = some (.iload 5)) rfl
theorem x_158_44   : am_E d 158 Q (44, L, st, g) ↔ am_K d 158 Q (am_ldI 45 L st g 2) := am_E_iload_n (by decide +kernel : am_dc 158 44 = some (.iload_n 2)) rfl rfl
theorem x_158_45   : am_E d 158 Q (45, L, st, g) ↔ am_K d 158 Q (am_ldI 47 L st g 4) := am_E_iload (by decide +kernel : am_dc 158 45 = some (.iload 4)) rfl
theorem x_158_47  : am_E d 158 Q (47, L, st, g) ↔ am_K d 158 Q (am_S 158 (.invokestatic 217) 47 L st g) := am_E_x (by decide +kernel : am_dc 158 47 = some (.invokestatic 217))
theorem x_158_50  : am_E d 158 Q (50, L, st, g) ↔ am_K d 158 Q (am_S 158 (.invokevirtual 203) 50 L st g) := am_E_x (by decide +kernel : am_dc 158 50 = some (.invokevirtual 203))
theorem x_158_53   : am_E d 158 Q (53, L, .int x :: st, g) ↔ am_E d 158 Q (am_cmp .eq x 0 60 56, L, st, g) := am_E_if (by decide +kernel : am_dc 158 53 = some (.ifCond .eq (7))) rfl rfl
theorem x_158_56   : am_E d 158 Q (56, L, st, g) ↔ am_E d 158 Q (57, L, .int (1) :: st, g) := am_E_iconst (by decide +kernel : am_dc 158 56 = some (.iconst (1))) (by decide) rfl
theorem x_158_57   : am_E d 158 Q (57, L, st, g) ↔ am_E d 158 Q (61, L, st, g) := am_E_gt (by decide +kernel : am_dc 158 57 = some (.goto (4))) rfl rfl
theorem x_158_60   : am_E d 158 Q (60, L, st, g) ↔ am_E d 158 Q (61, L, .int (0) :: st, g) := am_E_iconst (by decide +kernel : am_dc 158 60 = some (.iconst (0))) (by decide) rfl
theorem x_158_61   : am_E d 158 Q (61, L, st, g) ↔ am_K d 158 Q (am_stI 62 L st g 3) := am_E_istore_n (by decide +kernel : am_dc 158 61 = some (.istore_n 3)) rfl rfl
theorem x_158_62   (hk : L.getD 4 none = some (.int x)) (hl : 4 < L.length) : am_E d 158 Q (62, L, st, g) ↔ am_E d 158 Q (65, am_s1 L 4 (.int (x + (1))), st, g) := am_E_iinc (by decide +kernel : am_dc 158 62 = some (.iinc 4 (1))) (by decide) rfl hk hl
theorem x_158_65   : am_E d 158 Q (65, L, st, g) ↔ am_E d 158 Q (5, L, st, g) := am_E_gt (by decide +kernel : am_dc 158 65 = some (.goto (-60))) rfl rfl
theorem x_158_68   : am_E d 158 Q (68, L, st, g) ↔ am_K d 158 Q (am_ldI 69 L st g 3) := am_E_iload_n (by decide +kernel : am_dc 158 68 = some (.iload_n 3)) rfl rfl
theorem x_158_69  : am_E d 158 Q (69, L, [.int x], g) ↔ if am_ok (FieldType.boolean) (.int x) = true then Q (.inl (some (.int x))) g else False := am_E_ireturn (by decide +kernel : am_dc 158 69 = some (.ireturn)) (by decide +kernel)
theorem v_158_217 : am_iv 158 217 = some (0, 213, 2) := by decide +kernel
theorem f_158_7 : am_fl 158 7 = some (11, 1) := by decide +kernel
theorem v_158_203 : am_iv 158 203 = some (1, 238, 4) := by decide +kernel
theorem t_158 : am_t 158 = some (FieldType.boolean) := by decide +kernel
theorem h_158 : am_h 158 = [] := by decide +kernel
theorem m_158 : am_m 158 = 6 := by decide +kernel
theorem x_159_0   : am_E d 159 Q (0, L, st, g) ↔ am_K d 159 Q (am_ldA 1 L st g 0) := am_E_aload_n (by decide +kernel : am_dc 159 0 = some (.aload_n 0)) rfl rfl
theorem x_159_1   : am_E d 159 Q (1, L, st, g) ↔ am_K d 159 Q (am_ldI 2 L st g 1) := am_E_iload_n (by decide +kernel : am_dc 159 1 = some (.iload_n 1)) rfl rfl
theorem x_159_2  : am_E d 159 Q (2, L, st, g) ↔ am_K d 159 Q (am_S 159 (.invokevirtual 399) 2 L st g) := am_E_x (by decide +kernel : am_dc 159 2 = some (.invokevirtual 399))
theorem x_159_5   : am_E d 159 Q (5, L, .int x :: st, g) ↔ am_E d 159 Q (am_cmp .eq x 0 19 8, L, st, g) := am_E_if (by decide +kernel : am_dc 159 5 = some (.ifCond .eq (14))) rfl rfl
theorem x_159_8   : am_E d 159 Q (8, L, st, g) ↔ am_K d 159 Q (am_ldA 9 L st g 0) := am_E_aload_n (by decide +kernel : am_dc 159 8 = some (.aload_n 0)) rfl rfl
theorem x_159_9  : am_E d 159 Q (9, L, st, g) ↔ am_K d 159 Q (am_S 159 (.invokevirtual 402) 9 L st g) := am_E_x (by decide +kernel : am_dc 159 9 = some (.invokevirtual 402))
theorem x_159_12   : am_E d 159 Q (12, L, .int x :: st, g) ↔ am_E d 159 Q (am_cmp .lt x 0 19 15, L, st, g) := am_E_if (by decide +kernel : am_dc 159 12 = some (.ifCond .lt (7))) rfl rfl
theorem x_159_15   : am_E d 159 Q (15, L, st, g) ↔ am_E d 159 Q (16, L, .int (1) :: st, g) := am_E_iconst (by decide +kernel : am_dc 159 15 = some (.iconst (1))) (by decide) rfl
theorem x_159_16   : am_E d 159 Q (16, L, st, g) ↔ am_E d 159 Q (20, L, st, g) := am_E_gt (by decide +kernel : am_dc 159 16 = some (.goto (4))) rfl rfl
theorem x_159_19   : am_E d 159 Q (19, L, st, g) ↔ am_E d 159 Q (20, L, .int (0) :: st, g) := am_E_iconst (by decide +kernel : am_dc 159 19 = some (.iconst (0))) (by decide) rfl
theorem x_159_20   : am_E d 159 Q (20, L, st, g) ↔ am_K d 159 Q (am_stI 21 L st g 2) := am_E_istore_n (by decide +kernel : am_dc 159 20 = some (.istore_n 2)) rfl rfl
theorem x_159_21   : am_E d 159 Q (21, L, st, g) ↔ am_K d 159 Q (am_ldI 22 L st g 2) := am_E_iload_n (by decide +kernel : am_dc 159 21 = some (.iload_n 2)) rfl rfl
theorem x_159_22   : am_E d 159 Q (22, L, .int x :: st, g) ↔ am_E d 159 Q (am_cmp .eq x 0 41 25, L, st, g) := am_E_if (by decide +kernel : am_dc 159 22 = some (.ifCond .eq (19))) rfl rfl
theorem x_159_25   : am_E d 159 Q (25, L, st, g) ↔ am_K d 159 Q (am_ldA 26 L st g 0) := am_E_aload_n (by decide +kernel : am_dc 159 25 = some (.aload_n 0)) rfl rfl
theorem x_159_26   : am_E d 159 Q (26, L, st, g) ↔ am_K d 159 Q (am_ldA 27 L st g 0) := am_E_aload_n (by decide +kernel : am_dc 159 26 = some (.aload_n 0)) rfl rfl
theorem x_159_27  : am_E d 159 Q (27, L, st, g) ↔ am_K d 159 Q (am_S 159 (.invokevirtual 402) 27 L st g) := am_E_x (by decide +kernel : am_dc 159 27 = some (.invokevirtual 402))
theorem x_159_30   : am_E d 159 Q (30, L, st, g) ↔ am_K d 159 Q (am_ldI 31 L st g 1) := am_E_iload_n (by decide +kernel : am_dc 159 30 = some (.iload_n 1)) rfl rfl
theorem x_159_31  : am_E d 159 Q (31, L, st, g) ↔ am_K d 159 Q (am_S 159 (.invokevirtual 405) 31 L st g) := am_E_x (by decide +kernel : am_dc 159 31 = some (.invokevirtual 405))
theorem x_159_34   : am_E d 159 Q (34, L, .int x :: st, g) ↔ am_E d 159 Q (am_cmp .eq x 0 41 37, L, st, g) := am_E_if (by decide +kernel : am_dc 159 34 = some (.ifCond .eq (7))) rfl rfl
theorem x_159_37   : am_E d 159 Q (37, L, st, g) ↔ am_E d 159 Q (38, L, .int (1) :: st, g) := am_E_iconst (by decide +kernel : am_dc 159 37 = some (.iconst (1))) (by decide) rfl
theorem x_159_38   : am_E d 159 Q (38, L, st, g) ↔ am_E d 159 Q (42, L, st, g) := am_E_gt (by decide +kernel : am_dc 159 38 = some (.goto (4))) rfl rfl
theorem x_159_41   : am_E d 159 Q (41, L, st, g) ↔ am_E d 159 Q (42, L, .int (0) :: st, g) := am_E_iconst (by decide +kernel : am_dc 159 41 = some (.iconst (0))) (by decide) rfl
theorem x_159_42   : am_E d 159 Q (42, L, st, g) ↔ am_K d 159 Q (am_stI 43 L st g 3) := am_E_istore_n (by decide +kernel : am_dc 159 42 = some (.istore_n 3)) rfl rfl
theorem x_159_43   : am_E d 159 Q (43, L, st, g) ↔ am_K d 159 Q (am_ldA 44 L st g 0) := am_E_aload_n (by decide +kernel : am_dc 159 43 = some (.aload_n 0)) rfl rfl
theorem x_159_44   : am_E d 159 Q (44, L, st, g) ↔ am_K d 159 Q (am_ldI 45 L st g 2) := am_E_iload_n (by decide +kernel : am_dc 159 44 = some (.iload_n 2)) rfl rfl
theorem x_159_45   : am_E d 159 Q (45, L, st, g) ↔ am_K d 159 Q (am_ldI 46 L st g 3) := am_E_iload_n (by decide +kernel : am_dc 159 45 = some (.iload_n 3)) rfl rfl
theorem x_159_46   : am_E d 159 Q (46, L, st, g) ↔ am_E d 159 Q (47, L, .int (1) :: st, g) := am_E_iconst (by decide +kernel : am_dc 159 46 = some (.iconst (1))) (by decide) rfl
theorem x_159_47  : am_E d 159 Q (47, L, st, g) ↔ am_K d 159 Q (am_S 159 (.invokevirtual 196) 47 L st g) := am_E_x (by decide +kernel : am_dc 159 47 = some (.invokevirtual 196))
theorem x_159_50   : am_E d 159 Q (50, L, .int x :: st, g) ↔ am_E d 159 Q (am_cmp .ne x 0 55 53, L, st, g) := am_E_if (by decide +kernel : am_dc 159 50 = some (.ifCond .ne (5))) rfl rfl
theorem x_159_53   : am_E d 159 Q (53, L, st, g) ↔ am_E d 159 Q (54, L, .int (0) :: st, g) := am_E_iconst (by decide +kernel : am_dc 159 53 = some (.iconst (0))) (by decide) rfl
theorem x_159_54  : am_E d 159 Q (54, L, [.int x], g) ↔ if am_ok (FieldType.boolean) (.int x) = true then Q (.inl (some (.int x))) g else False := am_E_ireturn (by decide +kernel : am_dc 159 54 = some (.ireturn)) (by decide +kernel)
theorem x_159_55   : am_E d 159 Q (55, L, st, g) ↔ am_K d 159 Q (am_ldA 56 L st g 0) := am_E_aload_n (by decide +kernel : am_dc 159 55 = some (.aload_n 0)) rfl rfl
theorem x_159_56   : am_E d 159 Q (56, L, st, g) ↔ am_K d 159 Q (am_ldA 57 L st g 0) := am_E_aload_n (by decide +kernel : am_dc 159 56 = some (.aload_n 0)) rfl rfl
theorem x_159_57   : am_E d 159 Q (57, L, .ref a :: st, g) ↔ am_kv d 159 Q 60 L st g (am_gf g a 11 49) := am_E_getfield (by decide +kernel : am_dc 159 57 = some (.getfield 331)) (by decide +kernel) rfl
theorem x_159_60   (hok : (am_ok (am_ft 11 64).1 v && (!(am_ft 11 64).2 || (am_ini 159 && am_co 11 == am_o 159)) && decide (11 < 13)) = true) : am_E d 159 Q (60, L, v :: .ref a :: st, g) ↔ am_kg d 159 Q 63 L st (am_pf g a 11 64 v) := am_E_putfield (by decide +kernel : am_dc 159 60 = some (.putfield 408)) (by decide +kernel) rfl hok
theorem x_159_63   : am_E d 159 Q (63, L, st, g) ↔ am_E d 159 Q (64, L, .int (1) :: st, g) := am_E_iconst (by decide +kernel : am_dc 159 63 = some (.iconst (1))) (by decide) rfl
theorem x_159_64  : am_E d 159 Q (64, L, [.int x], g) ↔ if am_ok (FieldType.boolean) (.int x) = true then Q (.inl (some (.int x))) g else False := am_E_ireturn (by decide +kernel : am_dc 159 64 = some (.ireturn)) (by decide +kernel)
theorem v_159_399 : am_iv 159 399 = some (1, 193, 2) := by decide +kernel
theorem v_159_402 : am_iv 159 402 = some (1, 186, 1) := by decide +kernel
theorem v_159_405 : am_iv 159 405 = some (1, 244, 3) := by decide +kernel
theorem v_159_196 : am_iv 159 196 = some (1, 185, 4) := by decide +kernel
theorem f_159_331 : am_fl 159 331 = some (11, 49) := by decide +kernel
theorem f_159_408 : am_fl 159 408 = some (11, 64) := by decide +kernel
theorem t_159 : am_t 159 = some (FieldType.boolean) := by decide +kernel
theorem h_159 : am_h 159 = [] := by decide +kernel
theorem m_159 : am_m 159 = 4 := by decide +kernel
theorem x_160_0   : am_E d 160 Q (0, L, st, g) ↔ am_K d 160 Q (am_ldA 1 L st g 0) := am_E_aload_n (by decide +kernel : am_dc 160 0 = some (.aload_n 0)) rfl rfl
theorem x_160_1   : am_E d 160 Q (1, L, st, g) ↔ am_K d 160 Q (am_ldI 2 L st g 1) := am_E_iload_n (by decide +kernel : am_dc 160 1 = some (.iload_n 1)) rfl rfl
theorem x_160_2  : am_E d 160 Q (2, L, st, g) ↔ am_K d 160 Q (am_S 160 (.invokestatic 171) 2 L st g) := am_E_x (by decide +kernel : am_dc 160 2 = some (.invokestatic 171))
theorem x_160_5   : am_E d 160 Q (5, L, st, g) ↔ am_K d 160 Q (am_ldI 6 L st g 2) := am_E_iload_n (by decide +kernel : am_dc 160 5 = some (.iload_n 2)) rfl rfl
theorem x_160_6   : am_E d 160 Q (6, L, .int x :: st, g) ↔ am_E d 160 Q (am_cmp .lt x 0 18 9, L, st, g) := am_E_if (by decide +kernel : am_dc 160 6 = some (.ifCond .lt (12))) rfl rfl
theorem x_160_9   : am_E d 160 Q (9, L, st, g) ↔ am_K d 160 Q (am_ldI 10 L st g 2) := am_E_iload_n (by decide +kernel : am_dc 160 9 = some (.iload_n 2)) rfl rfl
theorem x_160_10   : am_E d 160 Q (10, L, st, g) ↔ am_E d 160 Q (11, L, .int (5) :: st, g) := am_E_iconst (by decide +kernel : am_dc 160 10 = some (.iconst (5))) (by decide) rfl
theorem x_160_11   : am_E d 160 Q (11, L, .int y :: .int x :: st, g) ↔ am_E d 160 Q (am_cmp .gt x y 18 14, L, st, g) := am_E_ic (by decide +kernel : am_dc 160 11 = some (.if_icmp .gt (7))) rfl rfl
theorem x_160_14   : am_E d 160 Q (14, L, st, g) ↔ am_E d 160 Q (15, L, .int (1) :: st, g) := am_E_iconst (by decide +kernel : am_dc 160 14 = some (.iconst (1))) (by decide) rfl
theorem x_160_15   : am_E d 160 Q (15, L, st, g) ↔ am_E d 160 Q (19, L, st, g) := am_E_gt (by decide +kernel : am_dc 160 15 = some (.goto (4))) rfl rfl
theorem x_160_18   : am_E d 160 Q (18, L, st, g) ↔ am_E d 160 Q (19, L, .int (0) :: st, g) := am_E_iconst (by decide +kernel : am_dc 160 18 = some (.iconst (0))) (by decide) rfl
theorem x_160_19   : am_E d 160 Q (19, L, st, g) ↔ am_E d 160 Q (20, L, .int (1) :: st, g) := am_E_iconst (by decide +kernel : am_dc 160 19 = some (.iconst (1))) (by decide) rfl
theorem x_160_20  : am_E d 160 Q (20, L, st, g) ↔ am_K d 160 Q (am_S 160 (.invokevirtual 196) 20 L st g) := am_E_x (by decide +kernel : am_dc 160 20 = some (.invokevirtual 196))
theorem x_160_23   : am_E d 160 Q (23, L, .int x :: st, g) ↔ am_E d 160 Q (am_cmp .ne x 0 28 26, L, st, g) := am_E_if (by decide +kernel : am_dc 160 23 = some (.ifCond .ne (5))) rfl rfl
theorem x_160_26   : am_E d 160 Q (26, L, st, g) ↔ am_E d 160 Q (27, L, .int (0) :: st, g) := am_E_iconst (by decide +kernel : am_dc 160 26 = some (.iconst (0))) (by decide) rfl
theorem x_160_27  : am_E d 160 Q (27, L, [.int x], g) ↔ if am_ok (FieldType.int) (.int x) = true then Q (.inl (some (.int x))) g else False := am_E_ireturn (by decide +kernel : am_dc 160 27 = some (.ireturn)) (by decide +kernel)
theorem x_160_28   : am_E d 160 Q (28, L, st, g) ↔ am_K d 160 Q (am_ldA 29 L st g 0) := am_E_aload_n (by decide +kernel : am_dc 160 28 = some (.aload_n 0)) rfl rfl
theorem x_160_29   : am_E d 160 Q (29, L, .ref a :: st, g) ↔ am_kv d 160 Q 32 L st g (am_gf g a 11 7) := am_E_getfield (by decide +kernel : am_dc 160 29 = some (.getfield 29)) (by decide +kernel) rfl
theorem x_160_32   : am_E d 160 Q (32, L, st, g) ↔ am_K d 160 Q (am_ldI 33 L st g 1) := am_E_iload_n (by decide +kernel : am_dc 160 32 = some (.iload_n 1)) rfl rfl
theorem x_160_33   : am_E d 160 Q (33, L, .int x :: .ref a :: st, g) ↔ am_kv d 160 Q 34 L st g (am_iat .iaload g a x) := am_E_iaload (by decide +kernel : am_dc 160 33 = some (.iaload)) rfl
theorem x_160_34   : am_E d 160 Q (34, L, st, g) ↔ am_K d 160 Q (am_stI 35 L st g 3) := am_E_istore_n (by decide +kernel : am_dc 160 34 = some (.istore_n 3)) rfl rfl
theorem x_160_35   : am_E d 160 Q (35, L, st, g) ↔ am_K d 160 Q (am_ldA 36 L st g 0) := am_E_aload_n (by decide +kernel : am_dc 160 35 = some (.aload_n 0)) rfl rfl
theorem x_160_36   : am_E d 160 Q (36, L, .ref a :: st, g) ↔ am_kv d 160 Q 39 L st g (am_gf g a 11 7) := am_E_getfield (by decide +kernel : am_dc 160 36 = some (.getfield 29)) (by decide +kernel) rfl
theorem x_160_39   : am_E d 160 Q (39, L, st, g) ↔ am_K d 160 Q (am_ldI 40 L st g 1) := am_E_iload_n (by decide +kernel : am_dc 160 39 = some (.iload_n 1)) rfl rfl
theorem x_160_40   : am_E d 160 Q (40, L, st, g) ↔ am_K d 160 Q (am_ldI 41 L st g 2) := am_E_iload_n (by decide +kernel : am_dc 160 40 = some (.iload_n 2)) rfl rfl
theorem x_160_41   : am_E d 160 Q (41, L, v :: .int x :: .ref a :: st, g) ↔ am_kg d 160 Q 42 L st (am_sat .iastore g a x v) := am_E_iastore (by decide +kernel : am_dc 160 41 = some (.iastore)) rfl
theorem x_160_42   : am_E d 160 Q (42, L, st, g) ↔ am_K d 160 Q (am_ldI 43 L st g 3) := am_E_iload_n (by decide +kernel : am_dc 160 42 = some (.iload_n 3)) rfl rfl
theorem x_160_43  : am_E d 160 Q (43, L, [.int x], g) ↔ if am_ok (FieldType.int) (.int x) = true then Q (.inl (some (.int x))) g else False := am_E_ireturn (by decide +kernel : am_dc 160 43 = some (.ireturn)) (by decide +kernel)
theorem v_160_171 : am_iv 160 171 = some (0, 192, 1) := by decide +kernel
theorem v_160_196 : am_iv 160 196 = some (1, 185, 4) := by decide +kernel
theorem f_160_29 : am_fl 160 29 = some (11, 7) := by decide +kernel
theorem t_160 : am_t 160 = some (FieldType.int) := by decide +kernel
theorem h_160 : am_h 160 = [] := by decide +kernel
theorem m_160 : am_m 160 = 4 := by decide +kernel
theorem x_161_0   : am_E d 161 Q (0, L, st, g) ↔ am_K d 161 Q (am_ldA 1 L st g 0) := am_E_aload_n (by decide +kernel : am_dc 161 0 = some (.aload_n 0)) rfl rfl
theorem x_161_1   : am_E d 161 Q (1, L, .ref a :: st, g) ↔ am_kv d 161 Q 4 L st g (am_gf g a 11 53) := am_E_getfield (by decide +kernel : am_dc 161 1 = some (.getfield 127)) (by decide +kernel) rfl
theorem x_161_4   : am_E d 161 Q (4, L, st, g) ↔ am_K d 161 Q (am_ldI 5 L st g 1) := am_E_iload_n (by decide +kernel : am_dc 161 4 = some (.iload_n 1)) rfl rfl
theorem x_161_5   : am_E d 161 Q (5, L, st, g) ↔ am_K d 161 Q (am_ldI 6 L st g 2) := am_E_iload_n (by decide +kernel : am_dc 161 5 = some (.iload_n 2)) rfl rfl
theorem x_161_6   : am_E d 161 Q (6, L, v :: .int x :: .ref a :: st, g) ↔ am_kg d 161 Q 7 L st (am_sat .iastore g a x v) := am_E_iastore (by decide +kernel : am_dc 161 6 = some (.iastore)) rfl
theorem x_161_7   : am_E d 161 Q (7, L, st, g) ↔ am_K d 161 Q (am_ldA 8 L st g 0) := am_E_aload_n (by decide +kernel : am_dc 161 7 = some (.aload_n 0)) rfl rfl
theorem x_161_8   : am_E d 161 Q (8, L, .ref a :: st, g) ↔ am_kv d 161 Q 11 L st g (am_gf g a 11 54) := am_E_getfield (by decide +kernel : am_dc 161 8 = some (.getfield 130)) (by decide +kernel) rfl
theorem x_161_11   : am_E d 161 Q (11, L, st, g) ↔ am_K d 161 Q (am_ldI 12 L st g 1) := am_E_iload_n (by decide +kernel : am_dc 161 11 = some (.iload_n 1)) rfl rfl
theorem x_161_12   : am_E d 161 Q (12, L, st, g) ↔ am_K d 161 Q (am_ldI 13 L st g 3) := am_E_iload_n (by decide +kernel : am_dc 161 12 = some (.iload_n 3)) rfl rfl
theorem x_161_13   : am_E d 161 Q (13, L, v :: .int x :: .ref a :: st, g) ↔ am_kg d 161 Q 14 L st (am_sat .iastore g a x v) := am_E_iastore (by decide +kernel : am_dc 161 13 = some (.iastore)) rfl
theorem x_161_14   : am_E d 161 Q (14, L, st, g) ↔ am_K d 161 Q (am_ldA 15 L st g 0) := am_E_aload_n (by decide +kernel : am_dc 161 14 = some (.aload_n 0)) rfl rfl
theorem x_161_15   : am_E d 161 Q (15, L, .ref a :: st, g) ↔ am_kv d 161 Q 18 L st g (am_gf g a 11 55) := am_E_getfield (by decide +kernel : am_dc 161 15 = some (.getfield 133)) (by decide +kernel) rfl
theorem x_161_18   : am_E d 161 Q (18, L, st, g) ↔ am_K d 161 Q (am_ldI 19 L st g 1) := am_E_iload_n (by decide +kernel : am_dc 161 18 = some (.iload_n 1)) rfl rfl
theorem x_161_19   : am_E d 161 Q (19, L, st, g) ↔ am_E d 161 Q (20, L, .int (0) :: st, g) := am_E_iconst (by decide +kernel : am_dc 161 19 = some (.iconst (0))) (by decide) rfl
theorem x_161_20   : am_E d 161 Q (20, L, v :: .int x :: .ref a :: st, g) ↔ am_kg d 161 Q 21 L st (am_sat .iastore g a x v) := am_E_iastore (by decide +kernel : am_dc 161 20 = some (.iastore)) rfl
theorem x_161_21   : am_E d 161 Q (21, L, st, g) ↔ am_K d 161 Q (am_ldA 22 L st g 0) := am_E_aload_n (by decide +kernel : am_dc 161 21 = some (.aload_n 0)) rfl rfl
theorem x_161_22   : am_E d 161 Q (22, L, .ref a :: st, g) ↔ am_kv d 161 Q 25 L st g (am_gf g a 11 56) := am_E_getfield (by decide +kernel : am_dc 161 22 = some (.getfield 136)) (by decide +kernel) rfl
theorem x_161_25   : am_E d 161 Q (25, L, st, g) ↔ am_K d 161 Q (am_ldI 26 L st g 1) := am_E_iload_n (by decide +kernel : am_dc 161 25 = some (.iload_n 1)) rfl rfl
theorem x_161_26   : am_E d 161 Q (26, L, st, g) ↔ am_E d 161 Q (27, L, .long (0) :: st, g) := am_E_lconst (by decide +kernel : am_dc 161 26 = some (.lconst 0)) (by decide) rfl
theorem x_161_27   : am_E d 161 Q (27, L, v :: .int x :: .ref a :: st, g) ↔ am_kg d 161 Q 28 L st (am_sat .lastore g a x v) := am_E_lastore (by decide +kernel : am_dc 161 27 = some (.lastore)) rfl
theorem x_161_28   : am_E d 161 Q (28, L, st, g) ↔ am_K d 161 Q (am_ldA 29 L st g 0) := am_E_aload_n (by decide +kernel : am_dc 161 28 = some (.aload_n 0)) rfl rfl
theorem x_161_29   : am_E d 161 Q (29, L, .ref a :: st, g) ↔ am_kv d 161 Q 32 L st g (am_gf g a 11 57) := am_E_getfield (by decide +kernel : am_dc 161 29 = some (.getfield 140)) (by decide +kernel) rfl
theorem x_161_32   : am_E d 161 Q (32, L, st, g) ↔ am_K d 161 Q (am_ldI 33 L st g 1) := am_E_iload_n (by decide +kernel : am_dc 161 32 = some (.iload_n 1)) rfl rfl
theorem x_161_33   : am_E d 161 Q (33, L, st, g) ↔ am_E d 161 Q (34, L, .int (0) :: st, g) := am_E_iconst (by decide +kernel : am_dc 161 33 = some (.iconst (0))) (by decide) rfl
theorem x_161_34   : am_E d 161 Q (34, L, v :: .int x :: .ref a :: st, g) ↔ am_kg d 161 Q 35 L st (am_sat .iastore g a x v) := am_E_iastore (by decide +kernel : am_dc 161 34 = some (.iastore)) rfl
theorem x_161_35   : am_E d 161 Q (35, L, st, g) ↔ am_K d 161 Q (am_ldA 36 L st g 0) := am_E_aload_n (by decide +kernel : am_dc 161 35 = some (.aload_n 0)) rfl rfl
theorem x_161_36   : am_E d 161 Q (36, L, .ref a :: st, g) ↔ am_kv d 161 Q 39 L st g (am_gf g a 11 58) := am_E_getfield (by decide +kernel : am_dc 161 36 = some (.getfield 143)) (by decide +kernel) rfl
theorem x_161_39   : am_E d 161 Q (39, L, st, g) ↔ am_K d 161 Q (am_ldI 40 L st g 1) := am_E_iload_n (by decide +kernel : am_dc 161 39 = some (.iload_n 1)) rfl rfl
theorem x_161_40   : am_E d 161 Q (40, L, st, g) ↔ am_E d 161 Q (41, L, .int (0) :: st, g) := am_E_iconst (by decide +kernel : am_dc 161 40 = some (.iconst (0))) (by decide) rfl
theorem x_161_41   : am_E d 161 Q (41, L, v :: .int x :: .ref a :: st, g) ↔ am_kg d 161 Q 42 L st (am_sat .iastore g a x v) := am_E_iastore (by decide +kernel : am_dc 161 41 = some (.iastore)) rfl
theorem x_161_42  : am_E d 161 Q (42, L, [], g) ↔ Q (.inl none) g := am_E_return (by decide +kernel : am_dc 161 42 = some (.return_)) (by decide +kernel)
theorem f_161_127 : am_fl 161 127 = some (11, 53) := by decide +kernel
theorem f_161_130 : am_fl 161 130 = some (11, 54) := by decide +kernel
theorem f_161_133 : am_fl 161 133 = some (11, 55) := by decide +kernel
theorem f_161_136 : am_fl 161 136 = some (11, 56) := by decide +kernel
theorem f_161_140 : am_fl 161 140 = some (11, 57) := by decide +kernel
theorem f_161_143 : am_fl 161 143 = some (11, 58) := by decide +kernel
theorem t_161 : am_t 161 = none := by decide +kernel
theorem h_161 : am_h 161 = [] := by decide +kernel
theorem m_161 : am_m 161 = 4 := by decide +kernel
theorem x_162_0   : am_E d 162 Q (0, L, st, g) ↔ am_K d 162 Q (am_ldI 1 L st g 1) := am_E_iload_n (by decide +kernel : am_dc 162 0 = some (.iload_n 1)) rfl rfl
theorem x_162_1  : am_E d 162 Q (1, L, st, g) ↔ am_K d 162 Q (am_S 162 (.invokestatic 220) 1 L st g) := am_E_x (by decide +kernel : am_dc 162 1 = some (.invokestatic 220))
theorem x_162_4   : am_E d 162 Q (4, L, .int x :: st, g) ↔ am_E d 162 Q (am_cmp .eq x 0 27 7, L, st, g) := am_E_if (by decide +kernel : am_dc 162 4 = some (.ifCond .eq (23))) rfl rfl
theorem x_162_7   : am_E d 162 Q (7, L, st, g) ↔ am_K d 162 Q (am_ldA 8 L st g 0) := am_E_aload_n (by decide +kernel : am_dc 162 7 = some (.aload_n 0)) rfl rfl
theorem x_162_8   : am_E d 162 Q (8, L, st, g) ↔ am_E d 162 Q (9, L, .int (1) :: st, g) := am_E_iconst (by decide +kernel : am_dc 162 8 = some (.iconst (1))) (by decide) rfl
theorem x_162_9   (hok : (am_ok (am_ft 11 33).1 v && (!(am_ft 11 33).2 || (am_ini 162 && am_co 11 == am_o 162)) && decide (11 < 13)) = true) : am_E d 162 Q (9, L, v :: .ref a :: st, g) ↔ am_kg d 162 Q 12 L st (am_pf g a 11 33 v) := am_E_putfield (by decide +kernel : am_dc 162 9 = some (.putfield 248)) (by decide +kernel) rfl hok
theorem x_162_12   : am_E d 162 Q (12, L, st, g) ↔ am_K d 162 Q (am_ldA 13 L st g 0) := am_E_aload_n (by decide +kernel : am_dc 162 12 = some (.aload_n 0)) rfl rfl
theorem x_162_13   : am_E d 162 Q (13, L, st, g) ↔ am_E d 162 Q (14, L, .int (1) :: st, g) := am_E_iconst (by decide +kernel : am_dc 162 13 = some (.iconst (1))) (by decide) rfl
theorem x_162_14   (hok : (am_ok (am_ft 11 34).1 v && (!(am_ft 11 34).2 || (am_ini 162 && am_co 11 == am_o 162)) && decide (11 < 13)) = true) : am_E d 162 Q (14, L, v :: .ref a :: st, g) ↔ am_kg d 162 Q 17 L st (am_pf g a 11 34 v) := am_E_putfield (by decide +kernel : am_dc 162 14 = some (.putfield 257)) (by decide +kernel) rfl hok
theorem x_162_17   : am_E d 162 Q (17, L, st, g) ↔ am_K d 162 Q (am_ldA 18 L st g 0) := am_E_aload_n (by decide +kernel : am_dc 162 17 = some (.aload_n 0)) rfl rfl
theorem x_162_18   : am_E d 162 Q (18, L, st, g) ↔ am_K d 162 Q (am_ldI 19 L st g 1) := am_E_iload_n (by decide +kernel : am_dc 162 18 = some (.iload_n 1)) rfl rfl
theorem x_162_19   : am_E d 162 Q (19, L, st, g) ↔ am_E d 162 Q (21, L, .int (48) :: st, g) := am_E_bipush (by decide +kernel : am_dc 162 19 = some (.bipush (48))) (by decide) rfl
theorem x_162_21   : am_E d 162 Q (21, L, .int y :: .int x :: st, g) ↔ am_E d 162 Q (22, L, .int (x - y) :: st, g) := am_E_isub (by decide +kernel : am_dc 162 21 = some (.isub)) rfl
theorem x_162_22   (hok : (am_ok (am_ft 11 35).1 v && (!(am_ft 11 35).2 || (am_ini 162 && am_co 11 == am_o 162)) && decide (11 < 13)) = true) : am_E d 162 Q (22, L, v :: .ref a :: st, g) ↔ am_kg d 162 Q 25 L st (am_pf g a 11 35 v) := am_E_putfield (by decide +kernel : am_dc 162 22 = some (.putfield 251)) (by decide +kernel) rfl hok
theorem x_162_25   : am_E d 162 Q (25, L, st, g) ↔ am_E d 162 Q (26, L, .int (1) :: st, g) := am_E_iconst (by decide +kernel : am_dc 162 25 = some (.iconst (1))) (by decide) rfl
theorem x_162_26  : am_E d 162 Q (26, L, [.int x], g) ↔ if am_ok (FieldType.boolean) (.int x) = true then Q (.inl (some (.int x))) g else False := am_E_ireturn (by decide +kernel : am_dc 162 26 = some (.ireturn)) (by decide +kernel)
theorem x_162_27   : am_E d 162 Q (27, L, st, g) ↔ am_K d 162 Q (am_ldI 28 L st g 1) := am_E_iload_n (by decide +kernel : am_dc 162 27 = some (.iload_n 1)) rfl rfl
theorem x_162_28  : am_E d 162 Q (28, L, st, g) ↔ am_K d 162 Q (am_S 162 (.invokestatic 227) 28 L st g) := am_E_x (by decide +kernel : am_dc 162 28 = some (.invokestatic 227))
theorem x_162_31   : am_E d 162 Q (31, L, .int x :: st, g) ↔ am_E d 162 Q (am_cmp .eq x 0 80 34, L, st, g) := am_E_if (by decide +kernel : am_dc 162 31 = some (.ifCond .eq (49))) rfl rfl
theorem x_162_34   : am_E d 162 Q (34, L, st, g) ↔ am_K d 162 Q (am_ldA 35 L st g 0) := am_E_aload_n (by decide +kernel : am_dc 162 34 = some (.aload_n 0)) rfl rfl
theorem x_162_35   : am_E d 162 Q (35, L, st, g) ↔ am_E d 162 Q (36, L, .int (2) :: st, g) := am_E_iconst (by decide +kernel : am_dc 162 35 = some (.iconst (2))) (by decide) rfl
theorem x_162_36   (hok : (am_ok (am_ft 11 33).1 v && (!(am_ft 11 33).2 || (am_ini 162 && am_co 11 == am_o 162)) && decide (11 < 13)) = true) : am_E d 162 Q (36, L, v :: .ref a :: st, g) ↔ am_kg d 162 Q 39 L st (am_pf g a 11 33 v) := am_E_putfield (by decide +kernel : am_dc 162 36 = some (.putfield 248)) (by decide +kernel) rfl hok
theorem x_162_39   : am_E d 162 Q (39, L, st, g) ↔ am_K d 162 Q (am_ldA 40 L st g 0) := am_E_aload_n (by decide +kernel : am_dc 162 39 = some (.aload_n 0)) rfl rfl
theorem x_162_40   : am_E d 162 Q (40, L, st, g) ↔ am_K d 162 Q (am_ldA 41 L st g 0) := am_E_aload_n (by decide +kernel : am_dc 162 40 = some (.aload_n 0)) rfl rfl
theorem x_162_41   : am_E d 162 Q (41, L, .ref a :: st, g) ↔ am_kv d 162 Q 44 L st g (am_gf g a 11 18) := am_E_getfield (by decide +kernel : am_dc 162 41 = some (.getfield 60)) (by decide +kernel) rfl
theorem x_162_44   : am_E d 162 Q (44, L, st, g) ↔ am_K d 162 Q (am_ldA 45 L st g 0) := am_E_aload_n (by decide +kernel : am_dc 162 44 = some (.aload_n 0)) rfl rfl
theorem x_162_45   : am_E d 162 Q (45, L, .ref a :: st, g) ↔ am_kv d 162 Q 48 L st g (am_gf g a 11 11) := am_E_getfield (by decide +kernel : am_dc 162 45 = some (.getfield 211)) (by decide +kernel) rfl
theorem x_162_48   : am_E d 162 Q (48, L, .int x :: .ref a :: st, g) ↔ am_kv d 162 Q 49 L st g (am_iat .iaload g a x) := am_E_iaload (by decide +kernel : am_dc 162 48 = some (.iaload)) rfl
theorem x_162_49   (hok : (am_ok (am_ft 11 36).1 v && (!(am_ft 11 36).2 || (am_ini 162 && am_co 11 == am_o 162)) && decide (11 < 13)) = true) : am_E d 162 Q (49, L, v :: .ref a :: st, g) ↔ am_kg d 162 Q 52 L st (am_pf g a 11 36 v) := am_E_putfield (by decide +kernel : am_dc 162 49 = some (.putfield 254)) (by decide +kernel) rfl hok
theorem x_162_52   : am_E d 162 Q (52, L, st, g) ↔ am_K d 162 Q (am_ldA 53 L st g 0) := am_E_aload_n (by decide +kernel : am_dc 162 52 = some (.aload_n 0)) rfl rfl
theorem x_162_53   : am_E d 162 Q (53, L, .ref a :: st, g) ↔ am_kv d 162 Q 56 L st g (am_gf g a 11 19) := am_E_getfield (by decide +kernel : am_dc 162 53 = some (.getfield 63)) (by decide +kernel) rfl
theorem x_162_56   : am_E d 162 Q (56, L, st, g) ↔ am_E d 162 Q (58, L, .int (24) :: st, g) := am_E_bipush (by decide +kernel : am_dc 162 56 = some (.bipush (24))) (by decide) rfl
theorem x_162_58   : am_E d 162 Q (58, L, st, g) ↔ am_K d 162 Q (am_ldA 59 L st g 0) := am_E_aload_n (by decide +kernel : am_dc 162 58 = some (.aload_n 0)) rfl rfl
theorem x_162_59   : am_E d 162 Q (59, L, .ref a :: st, g) ↔ am_kv d 162 Q 62 L st g (am_gf g a 11 11) := am_E_getfield (by decide +kernel : am_dc 162 59 = some (.getfield 211)) (by decide +kernel) rfl
theorem x_162_62   : am_E d 162 Q (62, L, .int y :: .int x :: st, g) ↔ am_E d 162 Q (63, L, .int (x * y) :: st, g) := am_E_imul (by decide +kernel : am_dc 162 62 = some (.imul)) rfl
theorem x_162_63   : am_E d 162 Q (63, L, st, g) ↔ am_K d 162 Q (am_ldA 64 L st g 0) := am_E_aload_n (by decide +kernel : am_dc 162 63 = some (.aload_n 0)) rfl rfl
theorem x_162_64   : am_E d 162 Q (64, L, .ref a :: st, g) ↔ am_kv d 162 Q 67 L st g (am_gf g a 11 18) := am_E_getfield (by decide +kernel : am_dc 162 64 = some (.getfield 60)) (by decide +kernel) rfl
theorem x_162_67   : am_E d 162 Q (67, L, st, g) ↔ am_K d 162 Q (am_ldA 68 L st g 0) := am_E_aload_n (by decide +kernel : am_dc 162 67 = some (.aload_n 0)) rfl rfl
theorem x_162_68   : am_E d 162 Q (68, L, .ref a :: st, g) ↔ am_kv d 162 Q 71 L st g (am_gf g a 11 11) := am_E_getfield (by decide +kernel : am_dc 162 68 = some (.getfield 211)) (by decide +kernel) rfl
theorem x_162_71   : am_E d 162 Q (71, L, .int x :: .ref a :: st, g) ↔ am_kv d 162 Q 72 L st g (am_iat .iaload g a x) := am_E_iaload (by decide +kernel : am_dc 162 71 = some (.iaload)) rfl
theorem x_162_72   : am_E d 162 Q (72, L, .int y :: .int x :: st, g) ↔ am_E d 162 Q (73, L, .int (x + y) :: st, g) := am_E_iadd (by decide +kernel : am_dc 162 72 = some (.iadd)) rfl
theorem x_162_73   : am_E d 162 Q (73, L, st, g) ↔ am_K d 162 Q (am_ldI 74 L st g 1) := am_E_iload_n (by decide +kernel : am_dc 162 73 = some (.iload_n 1)) rfl rfl
theorem x_162_74   : am_E d 162 Q (74, L, st, g) ↔ am_E d 162 Q (76, L, .int (120) :: st, g) := am_E_bipush (by decide +kernel : am_dc 162 74 = some (.bipush (120))) (by decide) rfl
theorem x_162_76   : am_E d 162 Q (76, L, .int y :: .int x :: st, g) ↔ am_E d 162 Q (77, L, .int (x - y) :: st, g) := am_E_isub (by decide +kernel : am_dc 162 76 = some (.isub)) rfl
theorem x_162_77   : am_E d 162 Q (77, L, v :: .int x :: .ref a :: st, g) ↔ am_kg d 162 Q 78 L st (am_sat .iastore g a x v) := am_E_iastore (by decide +kernel : am_dc 162 77 = some (.iastore)) rfl
theorem x_162_78   : am_E d 162 Q (78, L, st, g) ↔ am_E d 162 Q (79, L, .int (1) :: st, g) := am_E_iconst (by decide +kernel : am_dc 162 78 = some (.iconst (1))) (by decide) rfl
theorem x_162_79  : am_E d 162 Q (79, L, [.int x], g) ↔ if am_ok (FieldType.boolean) (.int x) = true then Q (.inl (some (.int x))) g else False := am_E_ireturn (by decide +kernel : am_dc 162 79 = some (.ireturn)) (by decide +kernel)
theorem x_162_80   : am_E d 162 Q (80, L, st, g) ↔ am_K d 162 Q (am_ldI 81 L st g 1) := am_E_iload_n (by decide +kernel : am_dc 162 80 = some (.iload_n 1)) rfl rfl
theorem x_162_81   : am_E d 162 Q (81, L, st, g) ↔ am_E d 162 Q (83, L, .int (40) :: st, g) := am_E_bipush (by decide +kernel : am_dc 162 81 = some (.bipush (40))) (by decide) rfl
theorem x_162_83   : am_E d 162 Q (83, L, .int y :: .int x :: st, g) ↔ am_E d 162 Q (am_cmp .ne x y 122 86, L, st, g) := am_E_ic (by decide +kernel : am_dc 162 83 = some (.if_icmp .ne (39))) rfl rfl
theorem x_162_86   : am_E d 162 Q (86, L, st, g) ↔ am_K d 162 Q (am_ldA 87 L st g 0) := am_E_aload_n (by decide +kernel : am_dc 162 86 = some (.aload_n 0)) rfl rfl
theorem x_162_87   : am_E d 162 Q (87, L, .ref a :: st, g) ↔ am_kv d 162 Q 90 L st g (am_gf g a 11 27) := am_E_getfield (by decide +kernel : am_dc 162 87 = some (.getfield 82)) (by decide +kernel) rfl
theorem x_162_90   : am_E d 162 Q (90, L, st, g) ↔ am_K d 162 Q (am_ldA 91 L st g 0) := am_E_aload_n (by decide +kernel : am_dc 162 90 = some (.aload_n 0)) rfl rfl
theorem x_162_91   : am_E d 162 Q (91, L, .ref a :: st, g) ↔ am_kv d 162 Q 94 L st g (am_gf g a 11 25) := am_E_getfield (by decide +kernel : am_dc 162 91 = some (.getfield 233)) (by decide +kernel) rfl
theorem x_162_94   : am_E d 162 Q (94, L, st, g) ↔ am_E d 162 Q (95, L, .int (1) :: st, g) := am_E_iconst (by decide +kernel : am_dc 162 94 = some (.iconst (1))) (by decide) rfl
theorem x_162_95   : am_E d 162 Q (95, L, .int y :: .int x :: st, g) ↔ am_E d 162 Q (96, L, .int (x - y) :: st, g) := am_E_isub (by decide +kernel : am_dc 162 95 = some (.isub)) rfl
theorem x_162_96   : am_E d 162 Q (96, L, .int x :: .ref a :: st, g) ↔ am_kv d 162 Q 97 L st g (am_iat .iaload g a x) := am_E_iaload (by decide +kernel : am_dc 162 96 = some (.iaload)) rfl
theorem x_162_97   : am_E d 162 Q (97, L, st, g) ↔ am_E d 162 Q (98, L, .int (3) :: st, g) := am_E_iconst (by decide +kernel : am_dc 162 97 = some (.iconst (3))) (by decide) rfl
theorem x_162_98   : am_E d 162 Q (98, L, .int y :: .int x :: st, g) ↔ am_E d 162 Q (am_cmp .ge x y 122 101, L, st, g) := am_E_ic (by decide +kernel : am_dc 162 98 = some (.if_icmp .ge (24))) rfl rfl
theorem x_162_101   : am_E d 162 Q (101, L, st, g) ↔ am_K d 162 Q (am_ldA 102 L st g 0) := am_E_aload_n (by decide +kernel : am_dc 162 101 = some (.aload_n 0)) rfl rfl
theorem x_162_102   : am_E d 162 Q (102, L, st, g) ↔ am_E d 162 Q (103, L, .int (1) :: st, g) := am_E_iconst (by decide +kernel : am_dc 162 102 = some (.iconst (1))) (by decide) rfl
theorem x_162_103   : am_E d 162 Q (103, L, st, g) ↔ am_K d 162 Q (am_ldA 104 L st g 0) := am_E_aload_n (by decide +kernel : am_dc 162 103 = some (.aload_n 0)) rfl rfl
theorem x_162_104   : am_E d 162 Q (104, L, .ref a :: st, g) ↔ am_kv d 162 Q 107 L st g (am_gf g a 11 27) := am_E_getfield (by decide +kernel : am_dc 162 104 = some (.getfield 82)) (by decide +kernel) rfl
theorem x_162_107   : am_E d 162 Q (107, L, st, g) ↔ am_K d 162 Q (am_ldA 108 L st g 0) := am_E_aload_n (by decide +kernel : am_dc 162 107 = some (.aload_n 0)) rfl rfl
theorem x_162_108   : am_E d 162 Q (108, L, .ref a :: st, g) ↔ am_kv d 162 Q 111 L st g (am_gf g a 11 25) := am_E_getfield (by decide +kernel : am_dc 162 108 = some (.getfield 233)) (by decide +kernel) rfl
theorem x_162_111   : am_E d 162 Q (111, L, st, g) ↔ am_E d 162 Q (112, L, .int (1) :: st, g) := am_E_iconst (by decide +kernel : am_dc 162 111 = some (.iconst (1))) (by decide) rfl
theorem x_162_112   : am_E d 162 Q (112, L, .int y :: .int x :: st, g) ↔ am_E d 162 Q (113, L, .int (x - y) :: st, g) := am_E_isub (by decide +kernel : am_dc 162 112 = some (.isub)) rfl
theorem x_162_113   : am_E d 162 Q (113, L, .int x :: .ref a :: st, g) ↔ am_kv d 162 Q 114 L st g (am_iat .iaload g a x) := am_E_iaload (by decide +kernel : am_dc 162 113 = some (.iaload)) rfl
theorem x_162_114   : am_E d 162 Q (114, L, st, g) ↔ am_E d 162 Q (115, L, .int (1) :: st, g) := am_E_iconst (by decide +kernel : am_dc 162 114 = some (.iconst (1))) (by decide) rfl
theorem x_162_115   : am_E d 162 Q (115, L, .int y :: .int x :: st, g) ↔ am_E d 162 Q (116, L, .int (x + y) :: st, g) := am_E_iadd (by decide +kernel : am_dc 162 115 = some (.iadd)) rfl
theorem x_162_116   : am_E d 162 Q (116, L, st, g) ↔ am_E d 162 Q (117, L, .int (0) :: st, g) := am_E_iconst (by decide +kernel : am_dc 162 116 = some (.iconst (0))) (by decide) rfl
theorem x_162_117  : am_E d 162 Q (117, L, st, g) ↔ am_K d 162 Q (am_S 162 (.invokevirtual 260) 117 L st g) := am_E_x (by decide +kernel : am_dc 162 117 = some (.invokevirtual 260))
theorem x_162_120   : am_E d 162 Q (120, L, st, g) ↔ am_E d 162 Q (121, L, .int (1) :: st, g) := am_E_iconst (by decide +kernel : am_dc 162 120 = some (.iconst (1))) (by decide) rfl
theorem x_162_121  : am_E d 162 Q (121, L, [.int x], g) ↔ if am_ok (FieldType.boolean) (.int x) = true then Q (.inl (some (.int x))) g else False := am_E_ireturn (by decide +kernel : am_dc 162 121 = some (.ireturn)) (by decide +kernel)
theorem x_162_122   : am_E d 162 Q (122, L, st, g) ↔ am_E d 162 Q (123, L, .int (0) :: st, g) := am_E_iconst (by decide +kernel : am_dc 162 122 = some (.iconst (0))) (by decide) rfl
theorem x_162_123  : am_E d 162 Q (123, L, [.int x], g) ↔ if am_ok (FieldType.boolean) (.int x) = true then Q (.inl (some (.int x))) g else False := am_E_ireturn (by decide +kernel : am_dc 162 123 = some (.ireturn)) (by decide +kernel)
theorem v_162_220 : am_iv 162 220 = some (0, 191, 1) := by decide +kernel
theorem f_162_248 : am_fl 162 248 = some (11, 33) := by decide +kernel
theorem f_162_257 : am_fl 162 257 = some (11, 34) := by decide +kernel
theorem f_162_251 : am_fl 162 251 = some (11, 35) := by decide +kernel
theorem v_162_227 : am_iv 162 227 = some (0, 195, 1) := by decide +kernel
theorem f_162_60 : am_fl 162 60 = some (11, 18) := by decide +kernel
theorem f_162_211 : am_fl 162 211 = some (11, 11) := by decide +kernel
theorem f_162_254 : am_fl 162 254 = some (11, 36) := by decide +kernel
theorem f_162_63 : am_fl 162 63 = some (11, 19) := by decide +kernel
theorem f_162_82 : am_fl 162 82 = some (11, 27) := by decide +kernel
theorem f_162_233 : am_fl 162 233 = some (11, 25) := by decide +kernel
theorem v_162_260 : am_iv 162 260 = some (1, 211, 4) := by decide +kernel
theorem t_162 : am_t 162 = some (FieldType.boolean) := by decide +kernel
theorem h_162 : am_h 162 = [] := by decide +kernel
theorem m_162 : am_m 162 = 2 := by decide +kernel
theorem x_163_0   : am_E d 163 Q (0, L, st, g) ↔ am_K d 163 Q (am_ldA 1 L st g 0) := am_E_aload_n (by decide +kernel : am_dc 163 0 = some (.aload_n 0)) rfl rfl
theorem x_163_1   : am_E d 163 Q (1, L, .ref a :: st, g) ↔ am_kv d 163 Q 4 L st g (am_gf g a 11 38) := am_E_getfield (by decide +kernel : am_dc 163 1 = some (.getfield 186)) (by decide +kernel) rfl
theorem x_163_4   : am_E d 163 Q (4, L, st, g) ↔ am_E d 163 Q (5, L, .int (1) :: st, g) := am_E_iconst (by decide +kernel : am_dc 163 4 = some (.iconst (1))) (by decide) rfl
theorem x_163_5   : am_E d 163 Q (5, L, .int y :: .int x :: st, g) ↔ am_E d 163 Q (6, L, .int (x - y) :: st, g) := am_E_isub (by decide +kernel : am_dc 163 5 = some (.isub)) rfl
theorem x_163_6   : am_E d 163 Q (6, L, st, g) ↔ am_K d 163 Q (am_stI 8 L st g 4) := am_E_istore (by decide +kernel : am_dc 163 6 = some (.istore 4)) rfl
theorem x_163_8   : am_E d 163 Q (8, L, st, g) ↔ am_E d 163 Q (11, L, .int (216) :: st, g) := am_E_sipush (by decide +kernel : am_dc 163 8 = some (.sipush (216))) (by decide) rfl
theorem x_163_11   : am_E d 163 Q (11, L, st, g) ↔ am_K d 163 Q (am_ldI 13 L st g 4) := am_E_iload (by decide +kernel : am_dc 163 11 = some (.iload 4)) rfl
theorem x_163_13   : am_E d 163 Q (13, L, .int y :: .int x :: st, g) ↔ am_E d 163 Q (14, L, .int (x * y) :: st, g) := am_E_imul (by decide +kernel : am_dc 163 13 = some (.imul)) rfl
theorem x_163_14   : am_E d 163 Q (14, L, st, g) ↔ am_K d 163 Q (am_ldA 15 L st g 0) := am_E_aload_n (by decide +kernel : am_dc 163 14 = some (.aload_n 0)) rfl rfl
theorem x_163_15   : am_E d 163 Q (15, L, .ref a :: st, g) ↔ am_kv d 163 Q 18 L st g (am_gf g a 11 40) := am_E_getfield (by decide +kernel : am_dc 163 15 = some (.getfield 100)) (by decide +kernel) rfl
theorem x_163_18   : am_E d 163 Q (18, L, st, g) ↔ am_K d 163 Q (am_ldI 20 L st g 4) := am_E_iload (by decide +kernel : am_dc 163 18 = some (.iload 4)) rfl
theorem x_163_20   : am_E d 163 Q (20, L, .int x :: .ref a :: st, g) ↔ am_kv d 163 Q 21 L st g (am_iat .iaload g a x) := am_E_iaload (by decide +kernel : am_dc 163 20 = some (.iaload)) rfl
theorem x_163_21   : am_E d 163 Q (21, L, .int y :: .int x :: st, g) ↔ am_E d 163 Q (22, L, .int (x + y) :: st, g) := am_E_iadd (by decide +kernel : am_dc 163 21 = some (.iadd)) rfl
theorem x_163_22   : am_E d 163 Q (22, L, st, g) ↔ am_K d 163 Q (am_stI 24 L st g 5) := am_E_istore (by decide +kernel : am_dc 163 22 = some (.istore 5)) rfl
theorem x_163_24   : am_E d 163 Q (24, L, st, g) ↔ am_E d 163 Q (27, L, .int (216) :: st, g) := am_E_sipush (by decide +kernel : am_dc 163 24 = some (.sipush (216))) (by decide) rfl
theorem x_163_27   : am_E d 163 Q (27, L, st, g) ↔ am_K d 163 Q (am_ldA 28 L st g 0) := am_E_aload_n (by decide +kernel : am_dc 163 27 = some (.aload_n 0)) rfl rfl
theorem x_163_28   : am_E d 163 Q (28, L, .ref a :: st, g) ↔ am_kv d 163 Q 31 L st g (am_gf g a 11 39) := am_E_getfield (by decide +kernel : am_dc 163 28 = some (.getfield 97)) (by decide +kernel) rfl
theorem x_163_31   : am_E d 163 Q (31, L, st, g) ↔ am_K d 163 Q (am_ldI 33 L st g 4) := am_E_iload (by decide +kernel : am_dc 163 31 = some (.iload 4)) rfl
theorem x_163_33   : am_E d 163 Q (33, L, .int x :: .ref a :: st, g) ↔ am_kv d 163 Q 34 L st g (am_iat .iaload g a x) := am_E_iaload (by decide +kernel : am_dc 163 33 = some (.iaload)) rfl
theorem x_163_34   : am_E d 163 Q (34, L, .int y :: .int x :: st, g) ↔ am_E d 163 Q (35, L, .int (x * y) :: st, g) := am_E_imul (by decide +kernel : am_dc 163 34 = some (.imul)) rfl
theorem x_163_35   : am_E d 163 Q (35, L, st, g) ↔ am_K d 163 Q (am_ldI 36 L st g 1) := am_E_iload_n (by decide +kernel : am_dc 163 35 = some (.iload_n 1)) rfl rfl
theorem x_163_36   : am_E d 163 Q (36, L, .int y :: .int x :: st, g) ↔ am_E d 163 Q (37, L, .int (x + y) :: st, g) := am_E_iadd (by decide +kernel : am_dc 163 36 = some (.iadd)) rfl
theorem x_163_37   : am_E d 163 Q (37, L, st, g) ↔ am_K d 163 Q (am_stI 39 L st g 6) := am_E_istore (by decide +kernel : am_dc 163 37 = some (.istore 6)) rfl
theorem x_163_39   : am_E d 163 Q (39, L, st, g) ↔ am_K d 163 Q (am_ldA 40 L st g 0) := am_E_aload_n (by decide +kernel : am_dc 163 39 = some (.aload_n 0)) rfl rfl
theorem x_163_40   : am_E d 163 Q (40, L, .ref a :: st, g) ↔ am_kv d 163 Q 43 L st g (am_gf g a 11 41) := am_E_getfield (by decide +kernel : am_dc 163 40 = some (.getfield 103)) (by decide +kernel) rfl
theorem x_163_43   : am_E d 163 Q (43, L, st, g) ↔ am_K d 163 Q (am_ldI 45 L st g 5) := am_E_iload (by decide +kernel : am_dc 163 43 = some (.iload 5)) rfl
theorem x_163_45   : am_E d 163 Q (45, L, st, g) ↔ am_K d 163 Q (am_ldI 46 L st g 1) := am_E_iload_n (by decide +kernel : am_dc 163 45 = some (.iload_n 1)) rfl rfl
theorem x_163_46   : am_E d 163 Q (46, L, v :: .int x :: .ref a :: st, g) ↔ am_kg d 163 Q 47 L st (am_sat .iastore g a x v) := am_E_iastore (by decide +kernel : am_dc 163 46 = some (.iastore)) rfl
theorem x_163_47   : am_E d 163 Q (47, L, st, g) ↔ am_K d 163 Q (am_ldA 48 L st g 0) := am_E_aload_n (by decide +kernel : am_dc 163 47 = some (.aload_n 0)) rfl rfl
theorem x_163_48   : am_E d 163 Q (48, L, .ref a :: st, g) ↔ am_kv d 163 Q 51 L st g (am_gf g a 11 42) := am_E_getfield (by decide +kernel : am_dc 163 48 = some (.getfield 106)) (by decide +kernel) rfl
theorem x_163_51   : am_E d 163 Q (51, L, st, g) ↔ am_K d 163 Q (am_ldI 53 L st g 5) := am_E_iload (by decide +kernel : am_dc 163 51 = some (.iload 5)) rfl
theorem x_163_53   : am_E d 163 Q (53, L, st, g) ↔ am_K d 163 Q (am_ldA 54 L st g 0) := am_E_aload_n (by decide +kernel : am_dc 163 53 = some (.aload_n 0)) rfl rfl
theorem x_163_54   : am_E d 163 Q (54, L, .ref a :: st, g) ↔ am_kv d 163 Q 57 L st g (am_gf g a 11 9) := am_E_getfield (by decide +kernel : am_dc 163 54 = some (.getfield 36)) (by decide +kernel) rfl
theorem x_163_57   : am_E d 163 Q (57, L, st, g) ↔ am_K d 163 Q (am_ldI 59 L st g 6) := am_E_iload (by decide +kernel : am_dc 163 57 = some (.iload 6)) rfl
theorem x_163_59   : am_E d 163 Q (59, L, .int x :: .ref a :: st, g) ↔ am_kv d 163 Q 60 L st g (am_iat .baload g a x) := am_E_baload (by decide +kernel : am_dc 163 59 = some (.baload)) rfl
theorem x_163_60   : am_E d 163 Q (60, L, v :: .int x :: .ref a :: st, g) ↔ am_kg d 163 Q 61 L st (am_sat .bastore g a x v) := am_E_bastore (by decide +kernel : am_dc 163 60 = some (.bastore)) rfl
theorem x_163_61   : am_E d 163 Q (61, L, st, g) ↔ am_K d 163 Q (am_ldA 62 L st g 0) := am_E_aload_n (by decide +kernel : am_dc 163 61 = some (.aload_n 0)) rfl rfl
theorem x_163_62   : am_E d 163 Q (62, L, .ref a :: st, g) ↔ am_kv d 163 Q 65 L st g (am_gf g a 11 43) := am_E_getfield (by decide +kernel : am_dc 163 62 = some (.getfield 109)) (by decide +kernel) rfl
theorem x_163_65   : am_E d 163 Q (65, L, st, g) ↔ am_K d 163 Q (am_ldI 67 L st g 5) := am_E_iload (by decide +kernel : am_dc 163 65 = some (.iload 5)) rfl
theorem x_163_67   : am_E d 163 Q (67, L, st, g) ↔ am_K d 163 Q (am_ldA 68 L st g 0) := am_E_aload_n (by decide +kernel : am_dc 163 67 = some (.aload_n 0)) rfl rfl
theorem x_163_68   : am_E d 163 Q (68, L, .ref a :: st, g) ↔ am_kv d 163 Q 71 L st g (am_gf g a 11 10) := am_E_getfield (by decide +kernel : am_dc 163 68 = some (.getfield 39)) (by decide +kernel) rfl
theorem x_163_71   : am_E d 163 Q (71, L, st, g) ↔ am_K d 163 Q (am_ldI 73 L st g 6) := am_E_iload (by decide +kernel : am_dc 163 71 = some (.iload 6)) rfl
theorem x_163_73   : am_E d 163 Q (73, L, .int x :: .ref a :: st, g) ↔ am_kv d 163 Q 74 L st g (am_iat .iaload g a x) := am_E_iaload (by decide +kernel : am_dc 163 73 = some (.iaload)) rfl
theorem x_163_74   : am_E d 163 Q (74, L, v :: .int x :: .ref a :: st, g) ↔ am_kg d 163 Q 75 L st (am_sat .iastore g a x v) := am_E_iastore (by decide +kernel : am_dc 163 74 = some (.iastore)) rfl
theorem x_163_75   : am_E d 163 Q (75, L, st, g) ↔ am_K d 163 Q (am_ldA 76 L st g 0) := am_E_aload_n (by decide +kernel : am_dc 163 75 = some (.aload_n 0)) rfl rfl
theorem x_163_76   : am_E d 163 Q (76, L, .ref a :: st, g) ↔ am_kv d 163 Q 79 L st g (am_gf g a 11 44) := am_E_getfield (by decide +kernel : am_dc 163 76 = some (.getfield 112)) (by decide +kernel) rfl
theorem x_163_79   : am_E d 163 Q (79, L, st, g) ↔ am_K d 163 Q (am_ldI 81 L st g 5) := am_E_iload (by decide +kernel : am_dc 163 79 = some (.iload 5)) rfl
theorem x_163_81   : am_E d 163 Q (81, L, st, g) ↔ am_K d 163 Q (am_ldI 82 L st g 2) := am_E_iload_n (by decide +kernel : am_dc 163 81 = some (.iload_n 2)) rfl rfl
theorem x_163_82   : am_E d 163 Q (82, L, v :: .int x :: .ref a :: st, g) ↔ am_kg d 163 Q 83 L st (am_sat .bastore g a x v) := am_E_bastore (by decide +kernel : am_dc 163 82 = some (.bastore)) rfl
theorem x_163_83   : am_E d 163 Q (83, L, st, g) ↔ am_K d 163 Q (am_ldA 84 L st g 0) := am_E_aload_n (by decide +kernel : am_dc 163 83 = some (.aload_n 0)) rfl rfl
theorem x_163_84   : am_E d 163 Q (84, L, .ref a :: st, g) ↔ am_kv d 163 Q 87 L st g (am_gf g a 11 45) := am_E_getfield (by decide +kernel : am_dc 163 84 = some (.getfield 115)) (by decide +kernel) rfl
theorem x_163_87   : am_E d 163 Q (87, L, st, g) ↔ am_K d 163 Q (am_ldI 89 L st g 5) := am_E_iload (by decide +kernel : am_dc 163 87 = some (.iload 5)) rfl
theorem x_163_89   : am_E d 163 Q (89, L, st, g) ↔ am_K d 163 Q (am_ldI 90 L st g 3) := am_E_iload_n (by decide +kernel : am_dc 163 89 = some (.iload_n 3)) rfl rfl
theorem x_163_90   : am_E d 163 Q (90, L, v :: .int x :: .ref a :: st, g) ↔ am_kg d 163 Q 91 L st (am_sat .iastore g a x v) := am_E_iastore (by decide +kernel : am_dc 163 90 = some (.iastore)) rfl
theorem x_163_91   : am_E d 163 Q (91, L, st, g) ↔ am_K d 163 Q (am_ldA 92 L st g 0) := am_E_aload_n (by decide +kernel : am_dc 163 91 = some (.aload_n 0)) rfl rfl
theorem x_163_92   : am_E d 163 Q (92, L, .ref a :: st, g) ↔ am_kv d 163 Q 95 L st g (am_gf g a 11 40) := am_E_getfield (by decide +kernel : am_dc 163 92 = some (.getfield 100)) (by decide +kernel) rfl
theorem x_163_95   : am_E d 163 Q (95, L, st, g) ↔ am_K d 163 Q (am_ldI 97 L st g 4) := am_E_iload (by decide +kernel : am_dc 163 95 = some (.iload 4)) rfl
theorem x_163_97   : am_E d 163 Q (97, L, v :: v1 :: st, g) ↔ if v.category = 1 ∧ v1.category = 1 then am_E d 163 Q (98, L, v :: v1 :: v :: v1 :: st, g) else False := am_E_dup2 (by decide +kernel : am_dc 163 97 = some (.dup2)) rfl
theorem x_163_98   : am_E d 163 Q (98, L, .int x :: .ref a :: st, g) ↔ am_kv d 163 Q 99 L st g (am_iat .iaload g a x) := am_E_iaload (by decide +kernel : am_dc 163 98 = some (.iaload)) rfl
theorem x_163_99   : am_E d 163 Q (99, L, st, g) ↔ am_E d 163 Q (100, L, .int (1) :: st, g) := am_E_iconst (by decide +kernel : am_dc 163 99 = some (.iconst (1))) (by decide) rfl
theorem x_163_100   : am_E d 163 Q (100, L, .int y :: .int x :: st, g) ↔ am_E d 163 Q (101, L, .int (x + y) :: st, g) := am_E_iadd (by decide +kernel : am_dc 163 100 = some (.iadd)) rfl
theorem x_163_101   : am_E d 163 Q (101, L, v :: .int x :: .ref a :: st, g) ↔ am_kg d 163 Q 102 L st (am_sat .iastore g a x v) := am_E_iastore (by decide +kernel : am_dc 163 101 = some (.iastore)) rfl
theorem x_163_102   : am_E d 163 Q (102, L, st, g) ↔ am_K d 163 Q (am_ldA 103 L st g 0) := am_E_aload_n (by decide +kernel : am_dc 163 102 = some (.aload_n 0)) rfl rfl
theorem x_163_103   : am_E d 163 Q (103, L, .ref a :: st, g) ↔ am_kv d 163 Q 106 L st g (am_gf g a 11 9) := am_E_getfield (by decide +kernel : am_dc 163 103 = some (.getfield 36)) (by decide +kernel) rfl
theorem x_163_106   : am_E d 163 Q (106, L, st, g) ↔ am_K d 163 Q (am_ldI 108 L st g 6) := am_E_iload (by decide +kernel : am_dc 163 106 = some (.iload 6)) rfl
theorem x_163_108   : am_E d 163 Q (108, L, st, g) ↔ am_K d 163 Q (am_ldI 109 L st g 2) := am_E_iload_n (by decide +kernel : am_dc 163 108 = some (.iload_n 2)) rfl rfl
theorem x_163_109   : am_E d 163 Q (109, L, v :: .int x :: .ref a :: st, g) ↔ am_kg d 163 Q 110 L st (am_sat .bastore g a x v) := am_E_bastore (by decide +kernel : am_dc 163 109 = some (.bastore)) rfl
theorem x_163_110   : am_E d 163 Q (110, L, st, g) ↔ am_K d 163 Q (am_ldA 111 L st g 0) := am_E_aload_n (by decide +kernel : am_dc 163 110 = some (.aload_n 0)) rfl rfl
theorem x_163_111   : am_E d 163 Q (111, L, .ref a :: st, g) ↔ am_kv d 163 Q 114 L st g (am_gf g a 11 10) := am_E_getfield (by decide +kernel : am_dc 163 111 = some (.getfield 39)) (by decide +kernel) rfl
theorem x_163_114   : am_E d 163 Q (114, L, st, g) ↔ am_K d 163 Q (am_ldI 116 L st g 6) := am_E_iload (by decide +kernel : am_dc 163 114 = some (.iload 6)) rfl
theorem x_163_116   : am_E d 163 Q (116, L, st, g) ↔ am_K d 163 Q (am_ldI 117 L st g 3) := am_E_iload_n (by decide +kernel : am_dc 163 116 = some (.iload_n 3)) rfl rfl
theorem x_163_117   : am_E d 163 Q (117, L, v :: .int x :: .ref a :: st, g) ↔ am_kg d 163 Q 118 L st (am_sat .iastore g a x v) := am_E_iastore (by decide +kernel : am_dc 163 117 = some (.iastore)) rfl
theorem x_163_118  : am_E d 163 Q (118, L, [], g) ↔ Q (.inl none) g := am_E_return (by decide +kernel : am_dc 163 118 = some (.return_)) (by decide +kernel)
theorem f_163_186 : am_fl 163 186 = some (11, 38) := by decide +kernel
theorem f_163_100 : am_fl 163 100 = some (11, 40) := by decide +kernel
theorem f_163_97 : am_fl 163 97 = some (11, 39) := by decide +kernel
theorem f_163_103 : am_fl 163 103 = some (11, 41) := by decide +kernel
theorem f_163_106 : am_fl 163 106 = some (11, 42) := by decide +kernel
theorem f_163_36 : am_fl 163 36 = some (11, 9) := by decide +kernel
theorem f_163_109 : am_fl 163 109 = some (11, 43) := by decide +kernel
theorem f_163_39 : am_fl 163 39 = some (11, 10) := by decide +kernel
theorem f_163_112 : am_fl 163 112 = some (11, 44) := by decide +kernel
theorem f_163_115 : am_fl 163 115 = some (11, 45) := by decide +kernel
theorem t_163 : am_t 163 = none := by decide +kernel
theorem h_163 : am_h 163 = [] := by decide +kernel
theorem m_163 : am_m 163 = 7 := by decide +kernel
theorem x_164_0   : am_E d 164 Q (0, L, st, g) ↔ am_K d 164 Q (am_ldI 1 L st g 3) := am_E_iload_n (by decide +kernel : am_dc 164 0 = some (.iload_n 3)) rfl rfl
theorem x_164_1   : am_E d 164 Q (1, L, st, g) ↔ am_K d 164 Q (am_stI 3 L st g 4) := am_E_istore (by decide +kernel : am_dc 164 1 = some (.istore 4)) rfl
theorem x_164_3   : am_E d 164 Q (3, L, st, g) ↔ am_E d 164 Q (4, L, .int (0) :: st, g) := am_E_iconst (by decide +kernel : am_dc 164 3 = some (.iconst (0))) (by decide) rfl
theorem x_164_4   : am_E d 164 Q (4, L, st, g) ↔ am_K d 164 Q (am_stI 6 L st g 5) := am_E_istore (by decide +kernel : am_dc 164 4 = some (.istore 5)) rfl
theorem x_164_6   : am_E d 164 Q (6, L, st, g) ↔ am_K d 164 Q (am_ldI 8 L st g 5) := am_E_iload (by decide +kernel : am_dc 164 6 = some (.iload 5)) rfl
theorem x_164_8   : am_E d 164 Q (8, L, st, g) ↔ am_E d 164 Q (10, L, .int (6) :: st, g) := am_E_bipush (by decide +kernel : am_dc 164 8 = some (.bipush (6))) (by decide) rfl
theorem x_164_10   : am_E d 164 Q (10, L, .int y :: .int x :: st, g) ↔ am_E d 164 Q (am_cmp .ge x y 69 13, L, st, g) := am_E_ic (by decide +kernel : am_dc 164 10 = some (.if_icmp .ge (59))) rfl rfl
theorem x_164_13   : am_E d 164 Q (13, L, st, g) ↔ am_K d 164 Q (am_ldA 14 L st g 0) := am_E_aload_n (by decide +kernel : am_dc 164 13 = some (.aload_n 0)) rfl rfl
theorem x_164_14   : am_E d 164 Q (14, L, .ref a :: st, g) ↔ am_kv d 164 Q 17 L st g (am_gf g a 11 1) := am_E_getfield (by decide +kernel : am_dc 164 14 = some (.getfield 7)) (by decide +kernel) rfl
theorem x_164_17   : am_E d 164 Q (17, L, st, g) ↔ am_E d 164 Q (19, L, .int (6) :: st, g) := am_E_bipush (by decide +kernel : am_dc 164 17 = some (.bipush (6))) (by decide) rfl
theorem x_164_19   : am_E d 164 Q (19, L, st, g) ↔ am_K d 164 Q (am_ldI 20 L st g 1) := am_E_iload_n (by decide +kernel : am_dc 164 19 = some (.iload_n 1)) rfl rfl
theorem x_164_20   : am_E d 164 Q (20, L, .int y :: .int x :: st, g) ↔ am_E d 164 Q (21, L, .int (x * y) :: st, g) := am_E_imul (by decide +kernel : am_dc 164 20 = some (.imul)) rfl
theorem x_164_21   : am_E d 164 Q (21, L, st, g) ↔ am_K d 164 Q (am_ldI 23 L st g 5) := am_E_iload (by decide +kernel : am_dc 164 21 = some (.iload 5)) rfl
theorem x_164_23   : am_E d 164 Q (23, L, .int y :: .int x :: st, g) ↔ am_E d 164 Q (24, L, .int (x + y) :: st, g) := am_E_iadd (by decide +kernel : am_dc 164 23 = some (.iadd)) rfl
theorem x_164_24   : am_E d 164 Q (24, L, .int x :: .ref a :: st, g) ↔ am_kv d 164 Q 25 L st g (am_iat .baload g a x) := am_E_baload (by decide +kernel : am_dc 164 24 = some (.baload)) rfl
theorem x_164_25   : am_E d 164 Q (25, L, .int x :: st, g) ↔ am_E d 164 Q (am_cmp .eq x 0 51 28, L, st, g) := am_E_if (by decide +kernel : am_dc 164 25 = some (.ifCond .eq (26))) rfl rfl
theorem x_164_28   : am_E d 164 Q (28, L, st, g) ↔ am_K d 164 Q (am_ldA 29 L st g 0) := am_E_aload_n (by decide +kernel : am_dc 164 28 = some (.aload_n 0)) rfl rfl
theorem x_164_29   : am_E d 164 Q (29, L, .ref a :: st, g) ↔ am_kv d 164 Q 32 L st g (am_gf g a 11 2) := am_E_getfield (by decide +kernel : am_dc 164 29 = some (.getfield 13)) (by decide +kernel) rfl
theorem x_164_32   : am_E d 164 Q (32, L, st, g) ↔ am_E d 164 Q (34, L, .int (6) :: st, g) := am_E_bipush (by decide +kernel : am_dc 164 32 = some (.bipush (6))) (by decide) rfl
theorem x_164_34   : am_E d 164 Q (34, L, st, g) ↔ am_K d 164 Q (am_ldI 35 L st g 1) := am_E_iload_n (by decide +kernel : am_dc 164 34 = some (.iload_n 1)) rfl rfl
theorem x_164_35   : am_E d 164 Q (35, L, .int y :: .int x :: st, g) ↔ am_E d 164 Q (36, L, .int (x * y) :: st, g) := am_E_imul (by decide +kernel : am_dc 164 35 = some (.imul)) rfl
theorem x_164_36   : am_E d 164 Q (36, L, st, g) ↔ am_K d 164 Q (am_ldI 38 L st g 5) := am_E_iload (by decide +kernel : am_dc 164 36 = some (.iload 5)) rfl
theorem x_164_38   : am_E d 164 Q (38, L, .int y :: .int x :: st, g) ↔ am_E d 164 Q (39, L, .int (x + y) :: st, g) := am_E_iadd (by decide +kernel : am_dc 164 38 = some (.iadd)) rfl
theorem x_164_39   : am_E d 164 Q (39, L, .int x :: .ref a :: st, g) ↔ am_kv d 164 Q 40 L st g (am_iat .iaload g a x) := am_E_iaload (by decide +kernel : am_dc 164 39 = some (.iaload)) rfl
theorem x_164_40   : am_E d 164 Q (40, L, st, g) ↔ am_K d 164 Q (am_ldI 41 L st g 2) := am_E_iload_n (by decide +kernel : am_dc 164 40 = some (.iload_n 2)) rfl rfl
theorem x_164_41   : am_E d 164 Q (41, L, .int y :: .int x :: st, g) ↔ am_E d 164 Q (am_cmp .ne x y 51 44, L, st, g) := am_E_ic (by decide +kernel : am_dc 164 41 = some (.if_icmp .ne (10))) rfl rfl
theorem x_164_44   : am_E d 164 Q (44, L, st, g) ↔ am_K d 164 Q (am_ldI 46 L st g 4) := am_E_iload (by decide +kernel : am_dc 164 44 = some (.iload 4)) rfl
theorem x_164_46   : am_E d 164 Q (46, L, st, g) ↔ am_E d 164 Q (47, L, .int (1) :: st, g) := am_E_iconst (by decide +kernel : am_dc 164 46 = some (.iconst (1))) (by decide) rfl
theorem x_164_47   : am_E d 164 Q (47, L, .int y :: .int x :: st, g) ↔ am_E d 164 Q (48, L, .int (x - y) :: st, g) := am_E_isub (by decide +kernel : am_dc 164 47 = some (.isub)) rfl
theorem x_164_48   : am_E d 164 Q (48, L, st, g) ↔ am_E d 164 Q (53, L, st, g) := am_E_gt (by decide +kernel : am_dc 164 48 = some (.goto (5))) rfl rfl
theorem x_164_51   : am_E d 164 Q (51, L, st, g) ↔ am_K d 164 Q (am_ldI 53 L st g 4) := am_E_iload (by decide +kernel : am_dc 164 51 = some (.iload 4)) rfl
theorem x_164_53   : am_E d 164 Q (53, L, st, g) ↔ am_K d 164 Q (am_stI 55 L st g 4) := am_E_istore (by decide +kernel : am_dc 164 53 = some (.istore 4)) rfl
theorem x_164_55   : am_E d 164 Q (55, L, st, g) ↔ am_K d 164 Q (am_ldI 57 L st g 4) := am_E_iload (by decide +kernel : am_dc 164 55 = some (.iload 4)) rfl
theorem x_164_57   : am_E d 164 Q (57, L, .int x :: st, g) ↔ am_E d 164 Q (am_cmp .ge x 0 63 60, L, st, g) := am_E_if (by decide +kernel : am_dc 164 57 = some (.ifCond .ge (6))) rfl rfl
theorem x_164_60   : am_E d 164 Q (60, L, st, g) ↔ am_K d 164 Q (am_ldI 62 L st g 5) := am_E_iload (by decide +kernel : am_dc 164 60 = some (.iload 5)) rfl
theorem x_164_62  : am_E d 164 Q (62, L, [.int x], g) ↔ if am_ok (FieldType.int) (.int x) = true then Q (.inl (some (.int x))) g else False := am_E_ireturn (by decide +kernel : am_dc 164 62 = some (.ireturn)) (by decide +kernel)
theorem x_164_63   (hk : L.getD 5 none = some (.int x)) (hl : 5 < L.length) : am_E d 164 Q (63, L, st, g) ↔ am_E d 164 Q (66, am_s1 L 5 (.int (x + (1))), st, g) := am_E_iinc (by decide +kernel : am_dc 164 63 = some (.iinc 5 (1))) (by decide) rfl hk hl
theorem x_164_66   : am_E d 164 Q (66, L, st, g) ↔ am_E d 164 Q (6, L, st, g) := am_E_gt (by decide +kernel : am_dc 164 66 = some (.goto (-60))) rfl rfl
theorem x_164_69   : am_E d 164 Q (69, L, st, g) ↔ am_E d 164 Q (70, L, .int (-1) :: st, g) := am_E_iconst (by decide +kernel : am_dc 164 69 = some (.iconst (-1))) (by decide) rfl
theorem x_164_70  : am_E d 164 Q (70, L, [.int x], g) ↔ if am_ok (FieldType.int) (.int x) = true then Q (.inl (some (.int x))) g else False := am_E_ireturn (by decide +kernel : am_dc 164 70 = some (.ireturn)) (by decide +kernel)
theorem f_164_7 : am_fl 164 7 = some (11, 1) := by decide +kernel
theorem f_164_13 : am_fl 164 13 = some (11, 2) := by decide +kernel
theorem t_164 : am_t 164 = some (FieldType.int) := by decide +kernel
theorem h_164 : am_h 164 = [] := by decide +kernel
theorem m_164 : am_m 164 = 6 := by decide +kernel
theorem x_165_0   : am_E d 165 Q (0, L, st, g) ↔ am_K d 165 Q (am_ldA 1 L st g 0) := am_E_aload_n (by decide +kernel : am_dc 165 0 = some (.aload_n 0)) rfl rfl
theorem x_165_1   : am_E d 165 Q (1, L, st, g) ↔ am_K d 165 Q (am_ldA 2 L st g 0) := am_E_aload_n (by decide +kernel : am_dc 165 1 = some (.aload_n 0)) rfl rfl
theorem x_165_2   : am_E d 165 Q (2, L, .ref a :: st, g) ↔ am_kv d 165 Q 5 L st g (am_gf g a 11 59) := am_E_getfield (by decide +kernel : am_dc 165 2 = some (.getfield 312)) (by decide +kernel) rfl
theorem x_165_5   : am_E d 165 Q (5, L, st, g) ↔ am_E d 165 Q (6, L, .int (2) :: st, g) := am_E_iconst (by decide +kernel : am_dc 165 5 = some (.iconst (2))) (by decide) rfl
theorem x_165_6   : am_E d 165 Q (6, L, .int y :: .int x :: st, g) ↔ am_E d 165 Q (7, L, .int (x - y) :: st, g) := am_E_isub (by decide +kernel : am_dc 165 6 = some (.isub)) rfl
theorem x_165_7   (hok : (am_ok (am_ft 11 59).1 v && (!(am_ft 11 59).2 || (am_ini 165 && am_co 11 == am_o 165)) && decide (11 < 13)) = true) : am_E d 165 Q (7, L, v :: .ref a :: st, g) ↔ am_kg d 165 Q 10 L st (am_pf g a 11 59 v) := am_E_putfield (by decide +kernel : am_dc 165 7 = some (.putfield 312)) (by decide +kernel) rfl hok
theorem x_165_10   : am_E d 165 Q (10, L, st, g) ↔ am_K d 165 Q (am_ldA 11 L st g 0) := am_E_aload_n (by decide +kernel : am_dc 165 10 = some (.aload_n 0)) rfl rfl
theorem x_165_11   : am_E d 165 Q (11, L, .ref a :: st, g) ↔ am_kv d 165 Q 14 L st g (am_gf g a 11 61) := am_E_getfield (by decide +kernel : am_dc 165 11 = some (.getfield 149)) (by decide +kernel) rfl
theorem x_165_14   : am_E d 165 Q (14, L, st, g) ↔ am_K d 165 Q (am_ldA 15 L st g 0) := am_E_aload_n (by decide +kernel : am_dc 165 14 = some (.aload_n 0)) rfl rfl
theorem x_165_15   : am_E d 165 Q (15, L, .ref a :: st, g) ↔ am_kv d 165 Q 18 L st g (am_gf g a 11 59) := am_E_getfield (by decide +kernel : am_dc 165 15 = some (.getfield 312)) (by decide +kernel) rfl
theorem x_165_18   : am_E d 165 Q (18, L, .int x :: .ref a :: st, g) ↔ am_kv d 165 Q 19 L st g (am_iat .laload g a x) := am_E_laload (by decide +kernel : am_dc 165 18 = some (.laload)) rfl
theorem x_165_19   : am_E d 165 Q (19, L, st, g) ↔ am_K d 165 Q (am_stL 20 L st g 2) := am_E_lstore_n (by decide +kernel : am_dc 165 19 = some (.lstore_n 2)) rfl rfl
theorem x_165_20   : am_E d 165 Q (20, L, st, g) ↔ am_K d 165 Q (am_ldA 21 L st g 0) := am_E_aload_n (by decide +kernel : am_dc 165 20 = some (.aload_n 0)) rfl rfl
theorem x_165_21   : am_E d 165 Q (21, L, .ref a :: st, g) ↔ am_kv d 165 Q 24 L st g (am_gf g a 11 61) := am_E_getfield (by decide +kernel : am_dc 165 21 = some (.getfield 149)) (by decide +kernel) rfl
theorem x_165_24   : am_E d 165 Q (24, L, st, g) ↔ am_K d 165 Q (am_ldA 25 L st g 0) := am_E_aload_n (by decide +kernel : am_dc 165 24 = some (.aload_n 0)) rfl rfl
theorem x_165_25   : am_E d 165 Q (25, L, .ref a :: st, g) ↔ am_kv d 165 Q 28 L st g (am_gf g a 11 59) := am_E_getfield (by decide +kernel : am_dc 165 25 = some (.getfield 312)) (by decide +kernel) rfl
theorem x_165_28   : am_E d 165 Q (28, L, st, g) ↔ am_E d 165 Q (29, L, .int (1) :: st, g) := am_E_iconst (by decide +kernel : am_dc 165 28 = some (.iconst (1))) (by decide) rfl
theorem x_165_29   : am_E d 165 Q (29, L, .int y :: .int x :: st, g) ↔ am_E d 165 Q (30, L, .int (x + y) :: st, g) := am_E_iadd (by decide +kernel : am_dc 165 29 = some (.iadd)) rfl
theorem x_165_30   : am_E d 165 Q (30, L, .int x :: .ref a :: st, g) ↔ am_kv d 165 Q 31 L st g (am_iat .laload g a x) := am_E_laload (by decide +kernel : am_dc 165 30 = some (.laload)) rfl
theorem x_165_31   : am_E d 165 Q (31, L, st, g) ↔ am_K d 165 Q (am_stL 33 L st g 4) := am_E_lstore (by decide +kernel : am_dc 165 31 = some (.lstore 4)) rfl
theorem x_165_33   : am_E d 165 Q (33, L, st, g) ↔ am_K d 165 Q (am_ldA 34 L st g 0) := am_E_aload_n (by decide +kernel : am_dc 165 33 = some (.aload_n 0)) rfl rfl
theorem x_165_34   : am_E d 165 Q (34, L, .ref a :: st, g) ↔ am_kv d 165 Q 37 L st g (am_gf g a 11 60) := am_E_getfield (by decide +kernel : am_dc 165 34 = some (.getfield 146)) (by decide +kernel) rfl
theorem x_165_37   : am_E d 165 Q (37, L, st, g) ↔ am_K d 165 Q (am_ldA 38 L st g 0) := am_E_aload_n (by decide +kernel : am_dc 165 37 = some (.aload_n 0)) rfl rfl
theorem x_165_38   : am_E d 165 Q (38, L, .ref a :: st, g) ↔ am_kv d 165 Q 41 L st g (am_gf g a 11 59) := am_E_getfield (by decide +kernel : am_dc 165 38 = some (.getfield 312)) (by decide +kernel) rfl
theorem x_165_41   : am_E d 165 Q (41, L, .int x :: .ref a :: st, g) ↔ am_kv d 165 Q 42 L st g (am_iat .iaload g a x) := am_E_iaload (by decide +kernel : am_dc 165 41 = some (.iaload)) rfl
theorem x_165_42  : am_E d 165 Q (42, L, st, g) ↔ am_K d 165 Q (am_S 165 (.invokestatic 359) 42 L st g) := am_E_x (by decide +kernel : am_dc 165 42 = some (.invokestatic 359))
theorem x_165_45   : am_E d 165 Q (45, L, st, g) ↔ am_K d 165 Q (am_stI 47 L st g 6) := am_E_istore (by decide +kernel : am_dc 165 45 = some (.istore 6)) rfl
theorem x_165_47   : am_E d 165 Q (47, L, st, g) ↔ am_K d 165 Q (am_ldA 48 L st g 0) := am_E_aload_n (by decide +kernel : am_dc 165 47 = some (.aload_n 0)) rfl rfl
theorem x_165_48   : am_E d 165 Q (48, L, .ref a :: st, g) ↔ am_kv d 165 Q 51 L st g (am_gf g a 11 60) := am_E_getfield (by decide +kernel : am_dc 165 48 = some (.getfield 146)) (by decide +kernel) rfl
theorem x_165_51   : am_E d 165 Q (51, L, st, g) ↔ am_K d 165 Q (am_ldA 52 L st g 0) := am_E_aload_n (by decide +kernel : am_dc 165 51 = some (.aload_n 0)) rfl rfl
theorem x_165_52   : am_E d 165 Q (52, L, .ref a :: st, g) ↔ am_kv d 165 Q 55 L st g (am_gf g a 11 59) := am_E_getfield (by decide +kernel : am_dc 165 52 = some (.getfield 312)) (by decide +kernel) rfl
theorem x_165_55   : am_E d 165 Q (55, L, st, g) ↔ am_E d 165 Q (56, L, .int (1) :: st, g) := am_E_iconst (by decide +kernel : am_dc 165 55 = some (.iconst (1))) (by decide) rfl
theorem x_165_56   : am_E d 165 Q (56, L, .int y :: .int x :: st, g) ↔ am_E d 165 Q (57, L, .int (x + y) :: st, g) := am_E_iadd (by decide +kernel : am_dc 165 56 = some (.iadd)) rfl
theorem x_165_57   : am_E d 165 Q (57, L, .int x :: .ref a :: st, g) ↔ am_kv d 165 Q 58 L st g (am_iat .iaload g a x) := am_E_iaload (by decide +kernel : am_dc 165 57 = some (.iaload)) rfl
theorem x_165_58  : am_E d 165 Q (58, L, st, g) ↔ am_K d 165 Q (am_S 165 (.invokestatic 359) 58 L st g) := am_E_x (by decide +kernel : am_dc 165 58 = some (.invokestatic 359))
theorem x_165_61   : am_E d 165 Q (61, L, st, g) ↔ am_K d 165 Q (am_ldI 63 L st g 6) := am_E_iload (by decide +kernel : am_dc 165 61 = some (.iload 6)) rfl
theorem x_165_63   : am_E d 165 Q (63, L, .int y :: .int x :: st, g) ↔ am_E d 165 Q (am_cmp .le x y 83 66, L, st, g) := am_E_ic (by decide +kernel : am_dc 165 63 = some (.if_icmp .le (20))) rfl rfl
theorem x_165_66   : am_E d 165 Q (66, L, st, g) ↔ am_K d 165 Q (am_ldA 67 L st g 0) := am_E_aload_n (by decide +kernel : am_dc 165 66 = some (.aload_n 0)) rfl rfl
theorem x_165_67   : am_E d 165 Q (67, L, .ref a :: st, g) ↔ am_kv d 165 Q 70 L st g (am_gf g a 11 60) := am_E_getfield (by decide +kernel : am_dc 165 67 = some (.getfield 146)) (by decide +kernel) rfl
theorem x_165_70   : am_E d 165 Q (70, L, st, g) ↔ am_K d 165 Q (am_ldA 71 L st g 0) := am_E_aload_n (by decide +kernel : am_dc 165 70 = some (.aload_n 0)) rfl rfl
theorem x_165_71   : am_E d 165 Q (71, L, .ref a :: st, g) ↔ am_kv d 165 Q 74 L st g (am_gf g a 11 59) := am_E_getfield (by decide +kernel : am_dc 165 71 = some (.getfield 312)) (by decide +kernel) rfl
theorem x_165_74   : am_E d 165 Q (74, L, st, g) ↔ am_E d 165 Q (75, L, .int (1) :: st, g) := am_E_iconst (by decide +kernel : am_dc 165 74 = some (.iconst (1))) (by decide) rfl
theorem x_165_75   : am_E d 165 Q (75, L, .int y :: .int x :: st, g) ↔ am_E d 165 Q (76, L, .int (x + y) :: st, g) := am_E_iadd (by decide +kernel : am_dc 165 75 = some (.iadd)) rfl
theorem x_165_76   : am_E d 165 Q (76, L, .int x :: .ref a :: st, g) ↔ am_kv d 165 Q 77 L st g (am_iat .iaload g a x) := am_E_iaload (by decide +kernel : am_dc 165 76 = some (.iaload)) rfl
theorem x_165_77  : am_E d 165 Q (77, L, st, g) ↔ am_K d 165 Q (am_S 165 (.invokestatic 359) 77 L st g) := am_E_x (by decide +kernel : am_dc 165 77 = some (.invokestatic 359))
theorem x_165_80   : am_E d 165 Q (80, L, st, g) ↔ am_E d 165 Q (85, L, st, g) := am_E_gt (by decide +kernel : am_dc 165 80 = some (.goto (5))) rfl rfl
theorem x_165_83   : am_E d 165 Q (83, L, st, g) ↔ am_K d 165 Q (am_ldI 85 L st g 6) := am_E_iload (by decide +kernel : am_dc 165 83 = some (.iload 6)) rfl
theorem x_165_85   : am_E d 165 Q (85, L, st, g) ↔ am_K d 165 Q (am_stI 87 L st g 6) := am_E_istore (by decide +kernel : am_dc 165 85 = some (.istore 6)) rfl
theorem x_165_87   : am_E d 165 Q (87, L, st, g) ↔ am_K d 165 Q (am_ldI 89 L st g 6) := am_E_iload (by decide +kernel : am_dc 165 87 = some (.iload 6)) rfl
theorem x_165_89   : am_E d 165 Q (89, L, .int x :: st, g) ↔ am_E d 165 Q (am_cmp .le x 0 105 92, L, st, g) := am_E_if (by decide +kernel : am_dc 165 89 = some (.ifCond .le (16))) rfl rfl
theorem x_165_92   : am_E d 165 Q (92, L, st, g) ↔ am_K d 165 Q (am_ldA 93 L st g 0) := am_E_aload_n (by decide +kernel : am_dc 165 92 = some (.aload_n 0)) rfl rfl
theorem x_165_93   : am_E d 165 Q (93, L, st, g) ↔ am_K d 165 Q (am_ldI 95 L st g 6) := am_E_iload (by decide +kernel : am_dc 165 93 = some (.iload 6)) rfl
theorem x_165_95  : am_E d 165 Q (95, L, st, g) ↔ am_K d 165 Q (am_S 165 (.invokestatic 372) 95 L st g) := am_E_x (by decide +kernel : am_dc 165 95 = some (.invokestatic 372))
theorem x_165_98   : am_E d 165 Q (98, L, st, g) ↔ am_E d 165 Q (99, L, .long (0) :: st, g) := am_E_lconst (by decide +kernel : am_dc 165 98 = some (.lconst 0)) (by decide) rfl
theorem x_165_99  : am_E d 165 Q (99, L, st, g) ↔ am_K d 165 Q (am_S 165 (.invokevirtual 324) 99 L st g) := am_E_x (by decide +kernel : am_dc 165 99 = some (.invokevirtual 324))
theorem x_165_102   : am_E d 165 Q (102, L, st, g) ↔ am_E d 165 Q (193, L, st, g) := am_E_gt (by decide +kernel : am_dc 165 102 = some (.goto (91))) rfl rfl
theorem x_165_105   : am_E d 165 Q (105, L, st, g) ↔ am_K d 165 Q (am_ldI 106 L st g 1) := am_E_iload_n (by decide +kernel : am_dc 165 105 = some (.iload_n 1)) rfl rfl
theorem x_165_106   : am_E d 165 Q (106, L, st, g) ↔ am_E d 165 Q (107, L, .int (2) :: st, g) := am_E_iconst (by decide +kernel : am_dc 165 106 = some (.iconst (2))) (by decide) rfl
theorem x_165_107   : am_E d 165 Q (107, L, .int y :: .int x :: st, g) ↔ am_E d 165 Q (am_cmp .eq x y 115 110, L, st, g) := am_E_ic (by decide +kernel : am_dc 165 107 = some (.if_icmp .eq (8))) rfl rfl
theorem x_165_110   : am_E d 165 Q (110, L, st, g) ↔ am_K d 165 Q (am_ldI 111 L st g 1) := am_E_iload_n (by decide +kernel : am_dc 165 110 = some (.iload_n 1)) rfl rfl
theorem x_165_111   : am_E d 165 Q (111, L, st, g) ↔ am_E d 165 Q (112, L, .int (3) :: st, g) := am_E_iconst (by decide +kernel : am_dc 165 111 = some (.iconst (3))) (by decide) rfl
theorem x_165_112   : am_E d 165 Q (112, L, .int y :: .int x :: st, g) ↔ am_E d 165 Q (am_cmp .ne x y 139 115, L, st, g) := am_E_ic (by decide +kernel : am_dc 165 112 = some (.if_icmp .ne (27))) rfl rfl
theorem x_165_115   : am_E d 165 Q (115, L, st, g) ↔ am_K d 165 Q (am_ldA 116 L st g 0) := am_E_aload_n (by decide +kernel : am_dc 165 115 = some (.aload_n 0)) rfl rfl
theorem x_165_116   : am_E d 165 Q (116, L, st, g) ↔ am_E d 165 Q (117, L, .int (0) :: st, g) := am_E_iconst (by decide +kernel : am_dc 165 116 = some (.iconst (0))) (by decide) rfl
theorem x_165_117   : am_E d 165 Q (117, L, st, g) ↔ am_K d 165 Q (am_ldI 118 L st g 1) := am_E_iload_n (by decide +kernel : am_dc 165 117 = some (.iload_n 1)) rfl rfl
theorem x_165_118   : am_E d 165 Q (118, L, st, g) ↔ am_E d 165 Q (119, L, .int (2) :: st, g) := am_E_iconst (by decide +kernel : am_dc 165 118 = some (.iconst (2))) (by decide) rfl
theorem x_165_119   : am_E d 165 Q (119, L, .int y :: .int x :: st, g) ↔ am_E d 165 Q (am_cmp .ne x y 129 122, L, st, g) := am_E_ic (by decide +kernel : am_dc 165 119 = some (.if_icmp .ne (10))) rfl rfl
theorem x_165_122   : am_E d 165 Q (122, L, st, g) ↔ am_K d 165 Q (am_ldL 123 L st g 2) := am_E_lload_n (by decide +kernel : am_dc 165 122 = some (.lload_n 2)) rfl rfl
theorem x_165_123   : am_E d 165 Q (123, L, st, g) ↔ am_K d 165 Q (am_ldL 125 L st g 4) := am_E_lload (by decide +kernel : am_dc 165 123 = some (.lload 4)) rfl
theorem x_165_125   : am_E d 165 Q (125, L, .long w :: .long u :: st, g) ↔ am_E d 165 Q (126, L, .long (u + w) :: st, g) := am_E_ladd (by decide +kernel : am_dc 165 125 = some (.ladd)) rfl
theorem x_165_126   : am_E d 165 Q (126, L, st, g) ↔ am_E d 165 Q (133, L, st, g) := am_E_gt (by decide +kernel : am_dc 165 126 = some (.goto (7))) rfl rfl
theorem x_165_129   : am_E d 165 Q (129, L, st, g) ↔ am_K d 165 Q (am_ldL 130 L st g 2) := am_E_lload_n (by decide +kernel : am_dc 165 129 = some (.lload_n 2)) rfl rfl
theorem x_165_130   : am_E d 165 Q (130, L, st, g) ↔ am_K d 165 Q (am_ldL 132 L st g 4) := am_E_lload (by decide +kernel : am_dc 165 130 = some (.lload 4)) rfl
theorem x_165_132   : am_E d 165 Q (132, L, .long w :: .long u :: st, g) ↔ am_E d 165 Q (133, L, .long (u - w) :: st, g) := am_E_lsub (by decide +kernel : am_dc 165 132 = some (.lsub)) rfl
theorem x_165_133  : am_E d 165 Q (133, L, st, g) ↔ am_K d 165 Q (am_S 165 (.invokevirtual 324) 133 L st g) := am_E_x (by decide +kernel : am_dc 165 133 = some (.invokevirtual 324))
theorem x_165_136   : am_E d 165 Q (136, L, st, g) ↔ am_E d 165 Q (193, L, st, g) := am_E_gt (by decide +kernel : am_dc 165 136 = some (.goto (57))) rfl rfl
theorem x_165_139   : am_E d 165 Q (139, L, st, g) ↔ am_K d 165 Q (am_ldI 140 L st g 1) := am_E_iload_n (by decide +kernel : am_dc 165 139 = some (.iload_n 1)) rfl rfl
theorem x_165_140   : am_E d 165 Q (140, L, st, g) ↔ am_E d 165 Q (141, L, .int (4) :: st, g) := am_E_iconst (by decide +kernel : am_dc 165 140 = some (.iconst (4))) (by decide) rfl
theorem x_165_141   : am_E d 165 Q (141, L, .int y :: .int x :: st, g) ↔ am_E d 165 Q (am_cmp .ne x y 162 144, L, st, g) := am_E_ic (by decide +kernel : am_dc 165 141 = some (.if_icmp .ne (21))) rfl rfl
theorem x_165_144   : am_E d 165 Q (144, L, st, g) ↔ am_K d 165 Q (am_ldA 145 L st g 0) := am_E_aload_n (by decide +kernel : am_dc 165 144 = some (.aload_n 0)) rfl rfl
theorem x_165_145   : am_E d 165 Q (145, L, st, g) ↔ am_E d 165 Q (146, L, .int (0) :: st, g) := am_E_iconst (by decide +kernel : am_dc 165 145 = some (.iconst (0))) (by decide) rfl
theorem x_165_146   : am_E d 165 Q (146, L, st, g) ↔ am_K d 165 Q (am_ldL 147 L st g 2) := am_E_lload_n (by decide +kernel : am_dc 165 146 = some (.lload_n 2)) rfl rfl
theorem x_165_147   : am_E d 165 Q (147, L, st, g) ↔ am_K d 165 Q (am_ldL 149 L st g 4) := am_E_lload (by decide +kernel : am_dc 165 147 = some (.lload 4)) rfl
theorem x_165_149   : am_E d 165 Q (149, L, .long w :: .long u :: st, g) ↔ am_E d 165 Q (150, L, .long (u * w) :: st, g) := am_E_lmul (by decide +kernel : am_dc 165 149 = some (.lmul)) rfl
theorem x_165_150  : am_E d 165 Q (150, L, st, g) ↔ am_K d 165 Q (am_S 165 (.ldc2_w 382) 150 L st g) := am_E_x (by decide +kernel : am_dc 165 150 = some (.ldc2_w 382))
theorem x_165_153  : am_E d 165 Q (153, L, st, g) ↔ am_K d 165 Q (am_S 165 (.invokestatic 368) 153 L st g) := am_E_x (by decide +kernel : am_dc 165 153 = some (.invokestatic 368))
theorem x_165_156  : am_E d 165 Q (156, L, st, g) ↔ am_K d 165 Q (am_S 165 (.invokevirtual 324) 156 L st g) := am_E_x (by decide +kernel : am_dc 165 156 = some (.invokevirtual 324))
theorem x_165_159   : am_E d 165 Q (159, L, st, g) ↔ am_E d 165 Q (193, L, st, g) := am_E_gt (by decide +kernel : am_dc 165 159 = some (.goto (34))) rfl rfl
theorem x_165_162   : am_E d 165 Q (162, L, st, g) ↔ am_K d 165 Q (am_ldL 164 L st g 4) := am_E_lload (by decide +kernel : am_dc 165 162 = some (.lload 4)) rfl
theorem x_165_164   : am_E d 165 Q (164, L, st, g) ↔ am_E d 165 Q (165, L, .long (0) :: st, g) := am_E_lconst (by decide +kernel : am_dc 165 164 = some (.lconst 0)) (by decide) rfl
theorem x_165_165   : am_E d 165 Q (165, L, .long w :: .long u :: st, g) ↔ am_E d 165 Q (166, L, .int (lg_cmp u w) :: st, g) := am_E_lcmp (by decide +kernel : am_dc 165 165 = some (.lcmp)) rfl
theorem x_165_166   : am_E d 165 Q (166, L, .int x :: st, g) ↔ am_E d 165 Q (am_cmp .ne x 0 178 169, L, st, g) := am_E_if (by decide +kernel : am_dc 165 166 = some (.ifCond .ne (12))) rfl rfl
theorem x_165_169   : am_E d 165 Q (169, L, st, g) ↔ am_K d 165 Q (am_ldA 170 L st g 0) := am_E_aload_n (by decide +kernel : am_dc 165 169 = some (.aload_n 0)) rfl rfl
theorem x_165_170   : am_E d 165 Q (170, L, st, g) ↔ am_E d 165 Q (171, L, .int (4) :: st, g) := am_E_iconst (by decide +kernel : am_dc 165 170 = some (.iconst (4))) (by decide) rfl
theorem x_165_171   : am_E d 165 Q (171, L, st, g) ↔ am_E d 165 Q (172, L, .long (0) :: st, g) := am_E_lconst (by decide +kernel : am_dc 165 171 = some (.lconst 0)) (by decide) rfl
theorem x_165_172  : am_E d 165 Q (172, L, st, g) ↔ am_K d 165 Q (am_S 165 (.invokevirtual 324) 172 L st g) := am_E_x (by decide +kernel : am_dc 165 172 = some (.invokevirtual 324))
theorem x_165_175   : am_E d 165 Q (175, L, st, g) ↔ am_E d 165 Q (193, L, st, g) := am_E_gt (by decide +kernel : am_dc 165 175 = some (.goto (18))) rfl rfl
theorem x_165_178   : am_E d 165 Q (178, L, st, g) ↔ am_K d 165 Q (am_ldA 179 L st g 0) := am_E_aload_n (by decide +kernel : am_dc 165 178 = some (.aload_n 0)) rfl rfl
theorem x_165_179   : am_E d 165 Q (179, L, st, g) ↔ am_E d 165 Q (180, L, .int (0) :: st, g) := am_E_iconst (by decide +kernel : am_dc 165 179 = some (.iconst (0))) (by decide) rfl
theorem x_165_180  : am_E d 165 Q (180, L, st, g) ↔ am_K d 165 Q (am_S 165 (.ldc2_w 382) 180 L st g) := am_E_x (by decide +kernel : am_dc 165 180 = some (.ldc2_w 382))
theorem x_165_183   : am_E d 165 Q (183, L, st, g) ↔ am_K d 165 Q (am_ldL 184 L st g 2) := am_E_lload_n (by decide +kernel : am_dc 165 183 = some (.lload_n 2)) rfl rfl
theorem x_165_184   : am_E d 165 Q (184, L, .long w :: .long u :: st, g) ↔ am_E d 165 Q (185, L, .long (u * w) :: st, g) := am_E_lmul (by decide +kernel : am_dc 165 184 = some (.lmul)) rfl
theorem x_165_185   : am_E d 165 Q (185, L, st, g) ↔ am_K d 165 Q (am_ldL 187 L st g 4) := am_E_lload (by decide +kernel : am_dc 165 185 = some (.lload 4)) rfl
theorem x_165_187  : am_E d 165 Q (187, L, st, g) ↔ am_K d 165 Q (am_S 165 (.invokestatic 368) 187 L st g) := am_E_x (by decide +kernel : am_dc 165 187 = some (.invokestatic 368))
theorem x_165_190  : am_E d 165 Q (190, L, st, g) ↔ am_K d 165 Q (am_S 165 (.invokevirtual 324) 190 L st g) := am_E_x (by decide +kernel : am_dc 165 190 = some (.invokevirtual 324))
theorem x_165_193   : am_E d 165 Q (193, L, st, g) ↔ am_K d 165 Q (am_ldA 194 L st g 0) := am_E_aload_n (by decide +kernel : am_dc 165 193 = some (.aload_n 0)) rfl rfl
theorem x_165_194   : am_E d 165 Q (194, L, st, g) ↔ am_K d 165 Q (am_ldA 195 L st g 0) := am_E_aload_n (by decide +kernel : am_dc 165 194 = some (.aload_n 0)) rfl rfl
theorem x_165_195   : am_E d 165 Q (195, L, .ref a :: st, g) ↔ am_kv d 165 Q 198 L st g (am_gf g a 11 62) := am_E_getfield (by decide +kernel : am_dc 165 195 = some (.getfield 305)) (by decide +kernel) rfl
theorem x_165_198   : am_E d 165 Q (198, L, st, g) ↔ am_K d 165 Q (am_ldA 199 L st g 0) := am_E_aload_n (by decide +kernel : am_dc 165 198 = some (.aload_n 0)) rfl rfl
theorem x_165_199   : am_E d 165 Q (199, L, .ref a :: st, g) ↔ am_kv d 165 Q 202 L st g (am_gf g a 11 63) := am_E_getfield (by decide +kernel : am_dc 165 199 = some (.getfield 308)) (by decide +kernel) rfl
theorem x_165_202  : am_E d 165 Q (202, L, st, g) ↔ am_K d 165 Q (am_S 165 (.invokevirtual 356) 202 L st g) := am_E_x (by decide +kernel : am_dc 165 202 = some (.invokevirtual 356))
theorem x_165_205  : am_E d 165 Q (205, L, [], g) ↔ Q (.inl none) g := am_E_return (by decide +kernel : am_dc 165 205 = some (.return_)) (by decide +kernel)
theorem f_165_312 : am_fl 165 312 = some (11, 59) := by decide +kernel
theorem f_165_149 : am_fl 165 149 = some (11, 61) := by decide +kernel
theorem f_165_146 : am_fl 165 146 = some (11, 60) := by decide +kernel
theorem v_165_359 : am_iv 165 359 = some (0, 241, 1) := by decide +kernel
theorem v_165_372 : am_iv 165 372 = some (0, 210, 1) := by decide +kernel
theorem v_165_324 : am_iv 165 324 = some (1, 223, 3) := by decide +kernel
theorem k_165_382 : am_cl8 165 382 = some (1000) := by decide +kernel
theorem v_165_368 : am_iv 165 368 = some (0, 224, 2) := by decide +kernel
theorem f_165_305 : am_fl 165 305 = some (11, 62) := by decide +kernel
theorem f_165_308 : am_fl 165 308 = some (11, 63) := by decide +kernel
theorem v_165_356 : am_iv 165 356 = some (1, 217, 3) := by decide +kernel
theorem t_165 : am_t 165 = none := by decide +kernel
theorem h_165 : am_h 165 = [] := by decide +kernel
theorem m_165 : am_m 165 = 7 := by decide +kernel
theorem x_166_0   : am_E d 166 Q (0, L, st, g) ↔ am_K d 166 Q (am_ldA 1 L st g 0) := am_E_aload_n (by decide +kernel : am_dc 166 0 = some (.aload_n 0)) rfl rfl
theorem x_166_1   : am_E d 166 Q (1, L, st, g) ↔ am_K d 166 Q (am_ldI 2 L st g 1) := am_E_iload_n (by decide +kernel : am_dc 166 1 = some (.iload_n 1)) rfl rfl
theorem x_166_2   : am_E d 166 Q (2, L, .int x :: st, g) ↔ am_E d 166 Q (am_cmp .lt x 0 15 5, L, st, g) := am_E_if (by decide +kernel : am_dc 166 2 = some (.ifCond .lt (13))) rfl rfl
theorem x_166_5   : am_E d 166 Q (5, L, st, g) ↔ am_K d 166 Q (am_ldI 6 L st g 1) := am_E_iload_n (by decide +kernel : am_dc 166 5 = some (.iload_n 1)) rfl rfl
theorem x_166_6   : am_E d 166 Q (6, L, st, g) ↔ am_E d 166 Q (8, L, .int (8) :: st, g) := am_E_bipush (by decide +kernel : am_dc 166 6 = some (.bipush (8))) (by decide) rfl
theorem x_166_8   : am_E d 166 Q (8, L, .int y :: .int x :: st, g) ↔ am_E d 166 Q (am_cmp .gt x y 15 11, L, st, g) := am_E_ic (by decide +kernel : am_dc 166 8 = some (.if_icmp .gt (7))) rfl rfl
theorem x_166_11   : am_E d 166 Q (11, L, st, g) ↔ am_E d 166 Q (12, L, .int (1) :: st, g) := am_E_iconst (by decide +kernel : am_dc 166 11 = some (.iconst (1))) (by decide) rfl
theorem x_166_12   : am_E d 166 Q (12, L, st, g) ↔ am_E d 166 Q (16, L, st, g) := am_E_gt (by decide +kernel : am_dc 166 12 = some (.goto (4))) rfl rfl
theorem x_166_15   : am_E d 166 Q (15, L, st, g) ↔ am_E d 166 Q (16, L, .int (0) :: st, g) := am_E_iconst (by decide +kernel : am_dc 166 15 = some (.iconst (0))) (by decide) rfl
theorem x_166_16   : am_E d 166 Q (16, L, st, g) ↔ am_E d 166 Q (17, L, .int (1) :: st, g) := am_E_iconst (by decide +kernel : am_dc 166 16 = some (.iconst (1))) (by decide) rfl
theorem x_166_17   : am_E d 166 Q (17, L, st, g) ↔ am_E d 166 Q (18, L, .int (1) :: st, g) := am_E_iconst (by decide +kernel : am_dc 166 17 = some (.iconst (1))) (by decide) rfl
theorem x_166_18  : am_E d 166 Q (18, L, st, g) ↔ am_K d 166 Q (am_S 166 (.invokevirtual 196) 18 L st g) := am_E_x (by decide +kernel : am_dc 166 18 = some (.invokevirtual 196))
theorem x_166_21   : am_E d 166 Q (21, L, .int x :: st, g) ↔ am_E d 166 Q (am_cmp .ne x 0 26 24, L, st, g) := am_E_if (by decide +kernel : am_dc 166 21 = some (.ifCond .ne (5))) rfl rfl
theorem x_166_24   : am_E d 166 Q (24, L, st, g) ↔ am_E d 166 Q (25, L, .int (0) :: st, g) := am_E_iconst (by decide +kernel : am_dc 166 24 = some (.iconst (0))) (by decide) rfl
theorem x_166_25  : am_E d 166 Q (25, L, [.int x], g) ↔ if am_ok (FieldType.int) (.int x) = true then Q (.inl (some (.int x))) g else False := am_E_ireturn (by decide +kernel : am_dc 166 25 = some (.ireturn)) (by decide +kernel)
theorem x_166_26   : am_E d 166 Q (26, L, st, g) ↔ am_K d 166 Q (am_ldI 27 L st g 1) := am_E_iload_n (by decide +kernel : am_dc 166 26 = some (.iload_n 1)) rfl rfl
theorem x_166_27  : am_E d 166 Q (27, L, st, g) ↔ am_K d 166 Q (am_S 166 (.tableswitch (72) (3) (8) #[(37), (42), (47), (52), (57), (67)]) 27 L st g) := am_E_x (by decide +kernel : am_dc 166 27 = some (.tableswitch (72) (3) (8) #[(37), (42), (47), (52), (57), (67)]))
theorem x_166_64   : am_E d 166 Q (64, L, st, g) ↔ am_K d 166 Q (am_ldA 65 L st g 0) := am_E_aload_n (by decide +kernel : am_dc 166 64 = some (.aload_n 0)) rfl rfl
theorem x_166_65   : am_E d 166 Q (65, L, .ref a :: st, g) ↔ am_kv d 166 Q 68 L st g (am_gf g a 11 11) := am_E_getfield (by decide +kernel : am_dc 166 65 = some (.getfield 211)) (by decide +kernel) rfl
theorem x_166_68  : am_E d 166 Q (68, L, [.int x], g) ↔ if am_ok (FieldType.int) (.int x) = true then Q (.inl (some (.int x))) g else False := am_E_ireturn (by decide +kernel : am_dc 166 68 = some (.ireturn)) (by decide +kernel)
theorem x_166_69   : am_E d 166 Q (69, L, st, g) ↔ am_K d 166 Q (am_ldA 70 L st g 0) := am_E_aload_n (by decide +kernel : am_dc 166 69 = some (.aload_n 0)) rfl rfl
theorem x_166_70   : am_E d 166 Q (70, L, .ref a :: st, g) ↔ am_kv d 166 Q 73 L st g (am_gf g a 11 8) := am_E_getfield (by decide +kernel : am_dc 166 70 = some (.getfield 32)) (by decide +kernel) rfl
theorem x_166_73  : am_E d 166 Q (73, L, [.int x], g) ↔ if am_ok (FieldType.int) (.int x) = true then Q (.inl (some (.int x))) g else False := am_E_ireturn (by decide +kernel : am_dc 166 73 = some (.ireturn)) (by decide +kernel)
theorem x_166_74   : am_E d 166 Q (74, L, st, g) ↔ am_K d 166 Q (am_ldA 75 L st g 0) := am_E_aload_n (by decide +kernel : am_dc 166 74 = some (.aload_n 0)) rfl rfl
theorem x_166_75  : am_E d 166 Q (75, L, st, g) ↔ am_K d 166 Q (am_S 166 (.invokevirtual 443) 75 L st g) := am_E_x (by decide +kernel : am_dc 166 75 = some (.invokevirtual 443))
theorem x_166_78  : am_E d 166 Q (78, L, [.int x], g) ↔ if am_ok (FieldType.int) (.int x) = true then Q (.inl (some (.int x))) g else False := am_E_ireturn (by decide +kernel : am_dc 166 78 = some (.ireturn)) (by decide +kernel)
theorem x_166_79   : am_E d 166 Q (79, L, st, g) ↔ am_K d 166 Q (am_ldA 80 L st g 0) := am_E_aload_n (by decide +kernel : am_dc 166 79 = some (.aload_n 0)) rfl rfl
theorem x_166_80   : am_E d 166 Q (80, L, .ref a :: st, g) ↔ am_kv d 166 Q 83 L st g (am_gf g a 11 38) := am_E_getfield (by decide +kernel : am_dc 166 80 = some (.getfield 186)) (by decide +kernel) rfl
theorem x_166_83  : am_E d 166 Q (83, L, [.int x], g) ↔ if am_ok (FieldType.int) (.int x) = true then Q (.inl (some (.int x))) g else False := am_E_ireturn (by decide +kernel : am_dc 166 83 = some (.ireturn)) (by decide +kernel)
theorem x_166_84   : am_E d 166 Q (84, L, st, g) ↔ am_K d 166 Q (am_ldA 85 L st g 0) := am_E_aload_n (by decide +kernel : am_dc 166 84 = some (.aload_n 0)) rfl rfl
theorem x_166_85   : am_E d 166 Q (85, L, .ref a :: st, g) ↔ am_kv d 166 Q 88 L st g (am_gf g a 11 37) := am_E_getfield (by decide +kernel : am_dc 166 85 = some (.getfield 183)) (by decide +kernel) rfl
theorem x_166_88   : am_E d 166 Q (88, L, st, g) ↔ am_K d 166 Q (am_ldA 89 L st g 0) := am_E_aload_n (by decide +kernel : am_dc 166 88 = some (.aload_n 0)) rfl rfl
theorem x_166_89   : am_E d 166 Q (89, L, .ref a :: st, g) ↔ am_kv d 166 Q 92 L st g (am_gf g a 11 38) := am_E_getfield (by decide +kernel : am_dc 166 89 = some (.getfield 186)) (by decide +kernel) rfl
theorem x_166_92   : am_E d 166 Q (92, L, .int y :: .int x :: st, g) ↔ am_E d 166 Q (93, L, .int (x - y) :: st, g) := am_E_isub (by decide +kernel : am_dc 166 92 = some (.isub)) rfl
theorem x_166_93  : am_E d 166 Q (93, L, [.int x], g) ↔ if am_ok (FieldType.int) (.int x) = true then Q (.inl (some (.int x))) g else False := am_E_ireturn (by decide +kernel : am_dc 166 93 = some (.ireturn)) (by decide +kernel)
theorem x_166_94   : am_E d 166 Q (94, L, st, g) ↔ am_K d 166 Q (am_ldA 95 L st g 0) := am_E_aload_n (by decide +kernel : am_dc 166 94 = some (.aload_n 0)) rfl rfl
theorem x_166_95   : am_E d 166 Q (95, L, .ref a :: st, g) ↔ am_kv d 166 Q 98 L st g (am_gf g a 11 23) := am_E_getfield (by decide +kernel : am_dc 166 95 = some (.getfield 230)) (by decide +kernel) rfl
theorem x_166_98  : am_E d 166 Q (98, L, [.int x], g) ↔ if am_ok (FieldType.int) (.int x) = true then Q (.inl (some (.int x))) g else False := am_E_ireturn (by decide +kernel : am_dc 166 98 = some (.ireturn)) (by decide +kernel)
theorem x_166_99   : am_E d 166 Q (99, L, st, g) ↔ am_K d 166 Q (am_ldA 100 L st g 0) := am_E_aload_n (by decide +kernel : am_dc 166 99 = some (.aload_n 0)) rfl rfl
theorem x_166_100   : am_E d 166 Q (100, L, st, g) ↔ am_K d 166 Q (am_ldI 101 L st g 1) := am_E_iload_n (by decide +kernel : am_dc 166 100 = some (.iload_n 1)) rfl rfl
theorem x_166_101  : am_E d 166 Q (101, L, st, g) ↔ am_K d 166 Q (am_S 166 (.invokevirtual 192) 101 L st g) := am_E_x (by decide +kernel : am_dc 166 101 = some (.invokevirtual 192))
theorem x_166_104  : am_E d 166 Q (104, L, [.int x], g) ↔ if am_ok (FieldType.int) (.int x) = true then Q (.inl (some (.int x))) g else False := am_E_ireturn (by decide +kernel : am_dc 166 104 = some (.ireturn)) (by decide +kernel)
theorem v_166_196 : am_iv 166 196 = some (1, 185, 4) := by decide +kernel
theorem f_166_211 : am_fl 166 211 = some (11, 11) := by decide +kernel
theorem f_166_32 : am_fl 166 32 = some (11, 8) := by decide +kernel
theorem v_166_443 : am_iv 166 443 = some (1, 190, 1) := by decide +kernel
theorem f_166_186 : am_fl 166 186 = some (11, 38) := by decide +kernel
theorem f_166_183 : am_fl 166 183 = some (11, 37) := by decide +kernel
theorem f_166_230 : am_fl 166 230 = some (11, 23) := by decide +kernel
theorem v_166_192 : am_iv 166 192 = some (1, 204, 2) := by decide +kernel
theorem t_166 : am_t 166 = some (FieldType.int) := by decide +kernel
theorem h_166 : am_h 166 = [] := by decide +kernel
theorem m_166 : am_m 166 = 2 := by decide +kernel
end AMZ
