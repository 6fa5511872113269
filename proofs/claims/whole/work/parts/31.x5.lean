/-! Rules of the machine, an instruction each. Written by program (wip/gen/genx.py). -/
section AMZ
variable {d : Nat} {Q : am_Ou → am_G → Prop} {L : am_Lo} {st : List Value} {g : am_G} {x y : Int32} {u w : Int64} {e1 : UInt32} {a : Nat} {v v1 : Value}
theorem x_190_0   : am_E d 190 Q (0, L, st, g) ↔ am_E d 190 Q (1, L, .int (0) :: st, g) := am_E_iconst (by decide +kernel : am_dc 190 0 = some (.iconst (0))) (by decide) rfl
theorem x_190_1   : am_E d 190 Q (1, L, st, g) ↔ am_K d 190 Q (am_stI 2 L st g 1) := am_E_istore_n (by decide +kernel : am_dc 190 1 = some (.istore_n 1)) rfl rfl
theorem x_190_2   : am_E d 190 Q (2, L, st, g) ↔ am_E d 190 Q (3, L, .int (0) :: st, g) := am_E_iconst (by decide +kernel : am_dc 190 2 = some (.iconst (0))) (by decide) rfl
theorem x_190_3   : am_E d 190 Q (3, L, st, g) ↔ am_K d 190 Q (am_stI 4 L st g 2) := am_E_istore_n (by decide +kernel : am_dc 190 3 = some (.istore_n 2)) rfl rfl
theorem x_190_4   : am_E d 190 Q (4, L, st, g) ↔ am_K d 190 Q (am_ldI 5 L st g 2) := am_E_iload_n (by decide +kernel : am_dc 190 4 = some (.iload_n 2)) rfl rfl
theorem x_190_5   : am_E d 190 Q (5, L, st, g) ↔ am_E d 190 Q (8, L, .int (216) :: st, g) := am_E_sipush (by decide +kernel : am_dc 190 5 = some (.sipush (216))) (by decide) rfl
theorem x_190_8   : am_E d 190 Q (8, L, st, g) ↔ am_K d 190 Q (am_ldA 9 L st g 0) := am_E_aload_n (by decide +kernel : am_dc 190 8 = some (.aload_n 0)) rfl rfl
theorem x_190_9   : am_E d 190 Q (9, L, .ref a :: st, g) ↔ am_kv d 190 Q 12 L st g (am_gf g a 11 8) := am_E_getfield (by decide +kernel : am_dc 190 9 = some (.getfield 32)) (by decide +kernel) rfl
theorem x_190_12   : am_E d 190 Q (12, L, .int y :: .int x :: st, g) ↔ am_E d 190 Q (13, L, .int (x * y) :: st, g) := am_E_imul (by decide +kernel : am_dc 190 12 = some (.imul)) rfl
theorem x_190_13   : am_E d 190 Q (13, L, .int y :: .int x :: st, g) ↔ am_E d 190 Q (am_cmp .ge x y 39 16, L, st, g) := am_E_ic (by decide +kernel : am_dc 190 13 = some (.if_icmp .ge (26))) rfl rfl
theorem x_190_16   : am_E d 190 Q (16, L, st, g) ↔ am_K d 190 Q (am_ldA 17 L st g 0) := am_E_aload_n (by decide +kernel : am_dc 190 16 = some (.aload_n 0)) rfl rfl
theorem x_190_17   : am_E d 190 Q (17, L, .ref a :: st, g) ↔ am_kv d 190 Q 20 L st g (am_gf g a 11 9) := am_E_getfield (by decide +kernel : am_dc 190 17 = some (.getfield 36)) (by decide +kernel) rfl
theorem x_190_20   : am_E d 190 Q (20, L, st, g) ↔ am_K d 190 Q (am_ldI 21 L st g 2) := am_E_iload_n (by decide +kernel : am_dc 190 20 = some (.iload_n 2)) rfl rfl
theorem x_190_21   : am_E d 190 Q (21, L, .int x :: .ref a :: st, g) ↔ am_kv d 190 Q 22 L st g (am_iat .baload g a x) := am_E_baload (by decide +kernel : am_dc 190 21 = some (.baload)) rfl
theorem x_190_22   : am_E d 190 Q (22, L, .int x :: st, g) ↔ am_E d 190 Q (am_cmp .eq x 0 31 25, L, st, g) := am_E_if (by decide +kernel : am_dc 190 22 = some (.ifCond .eq (9))) rfl rfl
theorem x_190_25   : am_E d 190 Q (25, L, st, g) ↔ am_K d 190 Q (am_ldI 26 L st g 1) := am_E_iload_n (by decide +kernel : am_dc 190 25 = some (.iload_n 1)) rfl rfl
theorem x_190_26   : am_E d 190 Q (26, L, st, g) ↔ am_E d 190 Q (27, L, .int (1) :: st, g) := am_E_iconst (by decide +kernel : am_dc 190 26 = some (.iconst (1))) (by decide) rfl
theorem x_190_27   : am_E d 190 Q (27, L, .int y :: .int x :: st, g) ↔ am_E d 190 Q (28, L, .int (x + y) :: st, g) := am_E_iadd (by decide +kernel : am_dc 190 27 = some (.iadd)) rfl
theorem x_190_28   : am_E d 190 Q (28, L, st, g) ↔ am_E d 190 Q (32, L, st, g) := am_E_gt (by decide +kernel : am_dc 190 28 = some (.goto (4))) rfl rfl
theorem x_190_31   : am_E d 190 Q (31, L, st, g) ↔ am_K d 190 Q (am_ldI 32 L st g 1) := am_E_iload_n (by decide +kernel : am_dc 190 31 = some (.iload_n 1)) rfl rfl
theorem x_190_32   : am_E d 190 Q (32, L, st, g) ↔ am_K d 190 Q (am_stI 33 L st g 1) := am_E_istore_n (by decide +kernel : am_dc 190 32 = some (.istore_n 1)) rfl rfl
theorem x_190_33   (hk : L.getD 2 none = some (.int x)) (hl : 2 < L.length) : am_E d 190 Q (33, L, st, g) ↔ am_E d 190 Q (36, am_s1 L 2 (.int (x + (1))), st, g) := am_E_iinc (by decide +kernel : am_dc 190 33 = some (.iinc 2 (1))) (by decide) rfl hk hl
theorem x_190_36   : am_E d 190 Q (36, L, st, g) ↔ am_E d 190 Q (4, L, st, g) := am_E_gt (by decide +kernel : am_dc 190 36 = some (.goto (-32))) rfl rfl
theorem x_190_39   : am_E d 190 Q (39, L, st, g) ↔ am_K d 190 Q (am_ldI 40 L st g 1) := am_E_iload_n (by decide +kernel : am_dc 190 39 = some (.iload_n 1)) rfl rfl
theorem x_190_40  : am_E d 190 Q (40, L, [.int x], g) ↔ if am_ok (FieldType.int) (.int x) = true then Q (.inl (some (.int x))) g else False := am_E_ireturn (by decide +kernel : am_dc 190 40 = some (.ireturn)) (by decide +kernel)
theorem f_190_32 : am_fl 190 32 = some (11, 8) := by decide +kernel
theorem f_190_36 : am_fl 190 36 = some (11, 9) := by decide +kernel
theorem t_190 : am_t 190 = some (FieldType.int) := by decide +kernel
theorem h_190 : am_h 190 = [] := by decide +kernel
theorem m_190 : am_m 190 = 3 := by decide +kernel
theorem x_191_0   : am_E d 191 Q (0, L, st, g) ↔ am_K d 191 Q (am_ldI 1 L st g 0) := am_E_iload_n (by decide +kernel : am_dc 191 0 = some (.iload_n 0)) rfl rfl
theorem x_191_1   : am_E d 191 Q (1, L, st, g) ↔ am_E d 191 Q (3, L, .int (48) :: st, g) := am_E_bipush (by decide +kernel : am_dc 191 1 = some (.bipush (48))) (by decide) rfl
theorem x_191_3   : am_E d 191 Q (3, L, .int y :: .int x :: st, g) ↔ am_E d 191 Q (am_cmp .lt x y 16 6, L, st, g) := am_E_ic (by decide +kernel : am_dc 191 3 = some (.if_icmp .lt (13))) rfl rfl
theorem x_191_6   : am_E d 191 Q (6, L, st, g) ↔ am_K d 191 Q (am_ldI 7 L st g 0) := am_E_iload_n (by decide +kernel : am_dc 191 6 = some (.iload_n 0)) rfl rfl
theorem x_191_7   : am_E d 191 Q (7, L, st, g) ↔ am_E d 191 Q (9, L, .int (57) :: st, g) := am_E_bipush (by decide +kernel : am_dc 191 7 = some (.bipush (57))) (by decide) rfl
theorem x_191_9   : am_E d 191 Q (9, L, .int y :: .int x :: st, g) ↔ am_E d 191 Q (am_cmp .gt x y 16 12, L, st, g) := am_E_ic (by decide +kernel : am_dc 191 9 = some (.if_icmp .gt (7))) rfl rfl
theorem x_191_12   : am_E d 191 Q (12, L, st, g) ↔ am_E d 191 Q (13, L, .int (1) :: st, g) := am_E_iconst (by decide +kernel : am_dc 191 12 = some (.iconst (1))) (by decide) rfl
theorem x_191_13   : am_E d 191 Q (13, L, st, g) ↔ am_E d 191 Q (17, L, st, g) := am_E_gt (by decide +kernel : am_dc 191 13 = some (.goto (4))) rfl rfl
theorem x_191_16   : am_E d 191 Q (16, L, st, g) ↔ am_E d 191 Q (17, L, .int (0) :: st, g) := am_E_iconst (by decide +kernel : am_dc 191 16 = some (.iconst (0))) (by decide) rfl
theorem x_191_17  : am_E d 191 Q (17, L, [.int x], g) ↔ if am_ok (FieldType.boolean) (.int x) = true then Q (.inl (some (.int x))) g else False := am_E_ireturn (by decide +kernel : am_dc 191 17 = some (.ireturn)) (by decide +kernel)
theorem t_191 : am_t 191 = some (FieldType.boolean) := by decide +kernel
theorem h_191 : am_h 191 = [] := by decide +kernel
theorem m_191 : am_m 191 = 1 := by decide +kernel
theorem x_192_0   : am_E d 192 Q (0, L, st, g) ↔ am_K d 192 Q (am_ldI 1 L st g 0) := am_E_iload_n (by decide +kernel : am_dc 192 0 = some (.iload_n 0)) rfl rfl
theorem x_192_1   : am_E d 192 Q (1, L, .int x :: st, g) ↔ am_E d 192 Q (am_cmp .lt x 0 13 4, L, st, g) := am_E_if (by decide +kernel : am_dc 192 1 = some (.ifCond .lt (12))) rfl rfl
theorem x_192_4   : am_E d 192 Q (4, L, st, g) ↔ am_K d 192 Q (am_ldI 5 L st g 0) := am_E_iload_n (by decide +kernel : am_dc 192 4 = some (.iload_n 0)) rfl rfl
theorem x_192_5   : am_E d 192 Q (5, L, st, g) ↔ am_E d 192 Q (6, L, .int (3) :: st, g) := am_E_iconst (by decide +kernel : am_dc 192 5 = some (.iconst (3))) (by decide) rfl
theorem x_192_6   : am_E d 192 Q (6, L, .int y :: .int x :: st, g) ↔ am_E d 192 Q (am_cmp .ge x y 13 9, L, st, g) := am_E_ic (by decide +kernel : am_dc 192 6 = some (.if_icmp .ge (7))) rfl rfl
theorem x_192_9   : am_E d 192 Q (9, L, st, g) ↔ am_E d 192 Q (10, L, .int (1) :: st, g) := am_E_iconst (by decide +kernel : am_dc 192 9 = some (.iconst (1))) (by decide) rfl
theorem x_192_10   : am_E d 192 Q (10, L, st, g) ↔ am_E d 192 Q (14, L, st, g) := am_E_gt (by decide +kernel : am_dc 192 10 = some (.goto (4))) rfl rfl
theorem x_192_13   : am_E d 192 Q (13, L, st, g) ↔ am_E d 192 Q (14, L, .int (0) :: st, g) := am_E_iconst (by decide +kernel : am_dc 192 13 = some (.iconst (0))) (by decide) rfl
theorem x_192_14  : am_E d 192 Q (14, L, [.int x], g) ↔ if am_ok (FieldType.boolean) (.int x) = true then Q (.inl (some (.int x))) g else False := am_E_ireturn (by decide +kernel : am_dc 192 14 = some (.ireturn)) (by decide +kernel)
theorem t_192 : am_t 192 = some (FieldType.boolean) := by decide +kernel
theorem h_192 : am_h 192 = [] := by decide +kernel
theorem m_192 : am_m 192 = 1 := by decide +kernel
theorem x_193_0   : am_E d 193 Q (0, L, st, g) ↔ am_K d 193 Q (am_ldI 1 L st g 1) := am_E_iload_n (by decide +kernel : am_dc 193 0 = some (.iload_n 1)) rfl rfl
theorem x_193_1   : am_E d 193 Q (1, L, .int x :: st, g) ↔ am_E d 193 Q (am_cmp .lt x 0 16 4, L, st, g) := am_E_if (by decide +kernel : am_dc 193 1 = some (.ifCond .lt (15))) rfl rfl
theorem x_193_4   : am_E d 193 Q (4, L, st, g) ↔ am_K d 193 Q (am_ldI 5 L st g 1) := am_E_iload_n (by decide +kernel : am_dc 193 4 = some (.iload_n 1)) rfl rfl
theorem x_193_5   : am_E d 193 Q (5, L, st, g) ↔ am_K d 193 Q (am_ldA 6 L st g 0) := am_E_aload_n (by decide +kernel : am_dc 193 5 = some (.aload_n 0)) rfl rfl
theorem x_193_6   : am_E d 193 Q (6, L, .ref a :: st, g) ↔ am_kv d 193 Q 9 L st g (am_gf g a 11 8) := am_E_getfield (by decide +kernel : am_dc 193 6 = some (.getfield 32)) (by decide +kernel) rfl
theorem x_193_9   : am_E d 193 Q (9, L, .int y :: .int x :: st, g) ↔ am_E d 193 Q (am_cmp .ge x y 16 12, L, st, g) := am_E_ic (by decide +kernel : am_dc 193 9 = some (.if_icmp .ge (7))) rfl rfl
theorem x_193_12   : am_E d 193 Q (12, L, st, g) ↔ am_E d 193 Q (13, L, .int (1) :: st, g) := am_E_iconst (by decide +kernel : am_dc 193 12 = some (.iconst (1))) (by decide) rfl
theorem x_193_13   : am_E d 193 Q (13, L, st, g) ↔ am_E d 193 Q (17, L, st, g) := am_E_gt (by decide +kernel : am_dc 193 13 = some (.goto (4))) rfl rfl
theorem x_193_16   : am_E d 193 Q (16, L, st, g) ↔ am_E d 193 Q (17, L, .int (0) :: st, g) := am_E_iconst (by decide +kernel : am_dc 193 16 = some (.iconst (0))) (by decide) rfl
theorem x_193_17  : am_E d 193 Q (17, L, [.int x], g) ↔ if am_ok (FieldType.boolean) (.int x) = true then Q (.inl (some (.int x))) g else False := am_E_ireturn (by decide +kernel : am_dc 193 17 = some (.ireturn)) (by decide +kernel)
theorem f_193_32 : am_fl 193 32 = some (11, 8) := by decide +kernel
theorem t_193 : am_t 193 = some (FieldType.boolean) := by decide +kernel
theorem h_193 : am_h 193 = [] := by decide +kernel
theorem m_193 : am_m 193 = 2 := by decide +kernel
theorem x_194_0   : am_E d 194 Q (0, L, st, g) ↔ am_K d 194 Q (am_ldA 1 L st g 0) := am_E_aload_n (by decide +kernel : am_dc 194 0 = some (.aload_n 0)) rfl rfl
theorem x_194_1   : am_E d 194 Q (1, L, st, g) ↔ am_K d 194 Q (am_ldI 2 L st g 1) := am_E_iload_n (by decide +kernel : am_dc 194 1 = some (.iload_n 1)) rfl rfl
theorem x_194_2   : am_E d 194 Q (2, L, st, g) ↔ am_K d 194 Q (am_ldI 3 L st g 2) := am_E_iload_n (by decide +kernel : am_dc 194 2 = some (.iload_n 2)) rfl rfl
theorem x_194_3   : am_E d 194 Q (3, L, st, g) ↔ am_E d 194 Q (4, L, .int (0) :: st, g) := am_E_iconst (by decide +kernel : am_dc 194 3 = some (.iconst (0))) (by decide) rfl
theorem x_194_4  : am_E d 194 Q (4, L, st, g) ↔ am_K d 194 Q (am_S 194 (.invokevirtual 175) 4 L st g) := am_E_x (by decide +kernel : am_dc 194 4 = some (.invokevirtual 175))
theorem x_194_7   : am_E d 194 Q (7, L, .int x :: st, g) ↔ am_E d 194 Q (am_cmp .ge x 0 14 10, L, st, g) := am_E_if (by decide +kernel : am_dc 194 7 = some (.ifCond .ge (7))) rfl rfl
theorem x_194_10   : am_E d 194 Q (10, L, st, g) ↔ am_E d 194 Q (11, L, .int (1) :: st, g) := am_E_iconst (by decide +kernel : am_dc 194 10 = some (.iconst (1))) (by decide) rfl
theorem x_194_11   : am_E d 194 Q (11, L, st, g) ↔ am_E d 194 Q (15, L, st, g) := am_E_gt (by decide +kernel : am_dc 194 11 = some (.goto (4))) rfl rfl
theorem x_194_14   : am_E d 194 Q (14, L, st, g) ↔ am_E d 194 Q (15, L, .int (0) :: st, g) := am_E_iconst (by decide +kernel : am_dc 194 14 = some (.iconst (0))) (by decide) rfl
theorem x_194_15  : am_E d 194 Q (15, L, [.int x], g) ↔ if am_ok (FieldType.boolean) (.int x) = true then Q (.inl (some (.int x))) g else False := am_E_ireturn (by decide +kernel : am_dc 194 15 = some (.ireturn)) (by decide +kernel)
theorem v_194_175 : am_iv 194 175 = some (1, 164, 4) := by decide +kernel
theorem t_194 : am_t 194 = some (FieldType.boolean) := by decide +kernel
theorem h_194 : am_h 194 = [] := by decide +kernel
theorem m_194 : am_m 194 = 3 := by decide +kernel
theorem x_195_0   : am_E d 195 Q (0, L, st, g) ↔ am_K d 195 Q (am_ldI 1 L st g 0) := am_E_iload_n (by decide +kernel : am_dc 195 0 = some (.iload_n 0)) rfl rfl
theorem x_195_1   : am_E d 195 Q (1, L, st, g) ↔ am_E d 195 Q (3, L, .int (120) :: st, g) := am_E_bipush (by decide +kernel : am_dc 195 1 = some (.bipush (120))) (by decide) rfl
theorem x_195_3   : am_E d 195 Q (3, L, .int y :: .int x :: st, g) ↔ am_E d 195 Q (am_cmp .eq x y 18 6, L, st, g) := am_E_ic (by decide +kernel : am_dc 195 3 = some (.if_icmp .eq (15))) rfl rfl
theorem x_195_6   : am_E d 195 Q (6, L, st, g) ↔ am_K d 195 Q (am_ldI 7 L st g 0) := am_E_iload_n (by decide +kernel : am_dc 195 6 = some (.iload_n 0)) rfl rfl
theorem x_195_7   : am_E d 195 Q (7, L, st, g) ↔ am_E d 195 Q (9, L, .int (121) :: st, g) := am_E_bipush (by decide +kernel : am_dc 195 7 = some (.bipush (121))) (by decide) rfl
theorem x_195_9   : am_E d 195 Q (9, L, .int y :: .int x :: st, g) ↔ am_E d 195 Q (am_cmp .eq x y 18 12, L, st, g) := am_E_ic (by decide +kernel : am_dc 195 9 = some (.if_icmp .eq (9))) rfl rfl
theorem x_195_12   : am_E d 195 Q (12, L, st, g) ↔ am_K d 195 Q (am_ldI 13 L st g 0) := am_E_iload_n (by decide +kernel : am_dc 195 12 = some (.iload_n 0)) rfl rfl
theorem x_195_13   : am_E d 195 Q (13, L, st, g) ↔ am_E d 195 Q (15, L, .int (122) :: st, g) := am_E_bipush (by decide +kernel : am_dc 195 13 = some (.bipush (122))) (by decide) rfl
theorem x_195_15   : am_E d 195 Q (15, L, .int y :: .int x :: st, g) ↔ am_E d 195 Q (am_cmp .ne x y 22 18, L, st, g) := am_E_ic (by decide +kernel : am_dc 195 15 = some (.if_icmp .ne (7))) rfl rfl
theorem x_195_18   : am_E d 195 Q (18, L, st, g) ↔ am_E d 195 Q (19, L, .int (1) :: st, g) := am_E_iconst (by decide +kernel : am_dc 195 18 = some (.iconst (1))) (by decide) rfl
theorem x_195_19   : am_E d 195 Q (19, L, st, g) ↔ am_E d 195 Q (23, L, st, g) := am_E_gt (by decide +kernel : am_dc 195 19 = some (.goto (4))) rfl rfl
theorem x_195_22   : am_E d 195 Q (22, L, st, g) ↔ am_E d 195 Q (23, L, .int (0) :: st, g) := am_E_iconst (by decide +kernel : am_dc 195 22 = some (.iconst (0))) (by decide) rfl
theorem x_195_23  : am_E d 195 Q (23, L, [.int x], g) ↔ if am_ok (FieldType.boolean) (.int x) = true then Q (.inl (some (.int x))) g else False := am_E_ireturn (by decide +kernel : am_dc 195 23 = some (.ireturn)) (by decide +kernel)
theorem t_195 : am_t 195 = some (FieldType.boolean) := by decide +kernel
theorem h_195 : am_h 195 = [] := by decide +kernel
theorem m_195 : am_m 195 = 1 := by decide +kernel
theorem x_196_0   : am_E d 196 Q (0, L, st, g) ↔ am_K d 196 Q (am_ldI 1 L st g 1) := am_E_iload_n (by decide +kernel : am_dc 196 0 = some (.iload_n 1)) rfl rfl
theorem x_196_1  : am_E d 196 Q (1, L, st, g) ↔ am_K d 196 Q (am_S 196 (.invokestatic 171) 1 L st g) := am_E_x (by decide +kernel : am_dc 196 1 = some (.invokestatic 171))
theorem x_196_4   : am_E d 196 Q (4, L, .int x :: st, g) ↔ am_E d 196 Q (am_cmp .eq x 0 35 7, L, st, g) := am_E_if (by decide +kernel : am_dc 196 4 = some (.ifCond .eq (31))) rfl rfl
theorem x_196_7   : am_E d 196 Q (7, L, st, g) ↔ am_K d 196 Q (am_ldI 8 L st g 2) := am_E_iload_n (by decide +kernel : am_dc 196 7 = some (.iload_n 2)) rfl rfl
theorem x_196_8   : am_E d 196 Q (8, L, .int x :: st, g) ↔ am_E d 196 Q (am_cmp .lt x 0 35 11, L, st, g) := am_E_if (by decide +kernel : am_dc 196 8 = some (.ifCond .lt (27))) rfl rfl
theorem x_196_11   : am_E d 196 Q (11, L, st, g) ↔ am_K d 196 Q (am_ldI 12 L st g 2) := am_E_iload_n (by decide +kernel : am_dc 196 11 = some (.iload_n 2)) rfl rfl
theorem x_196_12   : am_E d 196 Q (12, L, st, g) ↔ am_E d 196 Q (14, L, .int (6) :: st, g) := am_E_bipush (by decide +kernel : am_dc 196 12 = some (.bipush (6))) (by decide) rfl
theorem x_196_14   : am_E d 196 Q (14, L, .int y :: .int x :: st, g) ↔ am_E d 196 Q (am_cmp .ge x y 35 17, L, st, g) := am_E_ic (by decide +kernel : am_dc 196 14 = some (.if_icmp .ge (21))) rfl rfl
theorem x_196_17   : am_E d 196 Q (17, L, st, g) ↔ am_K d 196 Q (am_ldA 18 L st g 0) := am_E_aload_n (by decide +kernel : am_dc 196 17 = some (.aload_n 0)) rfl rfl
theorem x_196_18   : am_E d 196 Q (18, L, .ref a :: st, g) ↔ am_kv d 196 Q 21 L st g (am_gf g a 11 1) := am_E_getfield (by decide +kernel : am_dc 196 18 = some (.getfield 7)) (by decide +kernel) rfl
theorem x_196_21   : am_E d 196 Q (21, L, st, g) ↔ am_E d 196 Q (23, L, .int (6) :: st, g) := am_E_bipush (by decide +kernel : am_dc 196 21 = some (.bipush (6))) (by decide) rfl
theorem x_196_23   : am_E d 196 Q (23, L, st, g) ↔ am_K d 196 Q (am_ldI 24 L st g 1) := am_E_iload_n (by decide +kernel : am_dc 196 23 = some (.iload_n 1)) rfl rfl
theorem x_196_24   : am_E d 196 Q (24, L, .int y :: .int x :: st, g) ↔ am_E d 196 Q (25, L, .int (x * y) :: st, g) := am_E_imul (by decide +kernel : am_dc 196 24 = some (.imul)) rfl
theorem x_196_25   : am_E d 196 Q (25, L, st, g) ↔ am_K d 196 Q (am_ldI 26 L st g 2) := am_E_iload_n (by decide +kernel : am_dc 196 25 = some (.iload_n 2)) rfl rfl
theorem x_196_26   : am_E d 196 Q (26, L, .int y :: .int x :: st, g) ↔ am_E d 196 Q (27, L, .int (x + y) :: st, g) := am_E_iadd (by decide +kernel : am_dc 196 26 = some (.iadd)) rfl
theorem x_196_27   : am_E d 196 Q (27, L, .int x :: .ref a :: st, g) ↔ am_kv d 196 Q 28 L st g (am_iat .baload g a x) := am_E_baload (by decide +kernel : am_dc 196 27 = some (.baload)) rfl
theorem x_196_28   : am_E d 196 Q (28, L, .int x :: st, g) ↔ am_E d 196 Q (am_cmp .eq x 0 35 31, L, st, g) := am_E_if (by decide +kernel : am_dc 196 28 = some (.ifCond .eq (7))) rfl rfl
theorem x_196_31   : am_E d 196 Q (31, L, st, g) ↔ am_E d 196 Q (32, L, .int (1) :: st, g) := am_E_iconst (by decide +kernel : am_dc 196 31 = some (.iconst (1))) (by decide) rfl
theorem x_196_32   : am_E d 196 Q (32, L, st, g) ↔ am_E d 196 Q (36, L, st, g) := am_E_gt (by decide +kernel : am_dc 196 32 = some (.goto (4))) rfl rfl
theorem x_196_35   : am_E d 196 Q (35, L, st, g) ↔ am_E d 196 Q (36, L, .int (0) :: st, g) := am_E_iconst (by decide +kernel : am_dc 196 35 = some (.iconst (0))) (by decide) rfl
theorem x_196_36  : am_E d 196 Q (36, L, [.int x], g) ↔ if am_ok (FieldType.boolean) (.int x) = true then Q (.inl (some (.int x))) g else False := am_E_ireturn (by decide +kernel : am_dc 196 36 = some (.ireturn)) (by decide +kernel)
theorem v_196_171 : am_iv 196 171 = some (0, 192, 1) := by decide +kernel
theorem f_196_7 : am_fl 196 7 = some (11, 1) := by decide +kernel
theorem t_196 : am_t 196 = some (FieldType.boolean) := by decide +kernel
theorem h_196 : am_h 196 = [] := by decide +kernel
theorem m_196 : am_m 196 = 3 := by decide +kernel
theorem x_197_0   : am_E d 197 Q (0, L, st, g) ↔ am_K d 197 Q (am_ldL 1 L st g 0) := am_E_lload_n (by decide +kernel : am_dc 197 0 = some (.lload_n 0)) rfl rfl
theorem x_197_1  : am_E d 197 Q (1, L, st, g) ↔ am_K d 197 Q (am_S 197 (.ldc2_w 295) 1 L st g) := am_E_x (by decide +kernel : am_dc 197 1 = some (.ldc2_w 295))
theorem x_197_4   : am_E d 197 Q (4, L, .long w :: .long u :: st, g) ↔ am_E d 197 Q (5, L, .int (lg_cmp u w) :: st, g) := am_E_lcmp (by decide +kernel : am_dc 197 4 = some (.lcmp)) rfl
theorem x_197_5   : am_E d 197 Q (5, L, .int x :: st, g) ↔ am_E d 197 Q (am_cmp .lt x 0 20 8, L, st, g) := am_E_if (by decide +kernel : am_dc 197 5 = some (.ifCond .lt (15))) rfl rfl
theorem x_197_8   : am_E d 197 Q (8, L, st, g) ↔ am_K d 197 Q (am_ldL 9 L st g 0) := am_E_lload_n (by decide +kernel : am_dc 197 8 = some (.lload_n 0)) rfl rfl
theorem x_197_9  : am_E d 197 Q (9, L, st, g) ↔ am_K d 197 Q (am_S 197 (.ldc2_w 297) 9 L st g) := am_E_x (by decide +kernel : am_dc 197 9 = some (.ldc2_w 297))
theorem x_197_12   : am_E d 197 Q (12, L, .long w :: .long u :: st, g) ↔ am_E d 197 Q (13, L, .int (lg_cmp u w) :: st, g) := am_E_lcmp (by decide +kernel : am_dc 197 12 = some (.lcmp)) rfl
theorem x_197_13   : am_E d 197 Q (13, L, .int x :: st, g) ↔ am_E d 197 Q (am_cmp .gt x 0 20 16, L, st, g) := am_E_if (by decide +kernel : am_dc 197 13 = some (.ifCond .gt (7))) rfl rfl
theorem x_197_16   : am_E d 197 Q (16, L, st, g) ↔ am_E d 197 Q (17, L, .int (1) :: st, g) := am_E_iconst (by decide +kernel : am_dc 197 16 = some (.iconst (1))) (by decide) rfl
theorem x_197_17   : am_E d 197 Q (17, L, st, g) ↔ am_E d 197 Q (21, L, st, g) := am_E_gt (by decide +kernel : am_dc 197 17 = some (.goto (4))) rfl rfl
theorem x_197_20   : am_E d 197 Q (20, L, st, g) ↔ am_E d 197 Q (21, L, .int (0) :: st, g) := am_E_iconst (by decide +kernel : am_dc 197 20 = some (.iconst (0))) (by decide) rfl
theorem x_197_21  : am_E d 197 Q (21, L, [.int x], g) ↔ if am_ok (FieldType.boolean) (.int x) = true then Q (.inl (some (.int x))) g else False := am_E_ireturn (by decide +kernel : am_dc 197 21 = some (.ireturn)) (by decide +kernel)
theorem k_197_295 : am_cl8 197 295 = some (-2000000000) := by decide +kernel
theorem k_197_297 : am_cl8 197 297 = some (2000000000) := by decide +kernel
theorem t_197 : am_t 197 = some (FieldType.boolean) := by decide +kernel
theorem h_197 : am_h 197 = [] := by decide +kernel
theorem m_197 : am_m 197 = 2 := by decide +kernel
theorem x_198_0   : am_E d 198 Q (0, L, st, g) ↔ am_K d 198 Q (am_ldI 1 L st g 0) := am_E_iload_n (by decide +kernel : am_dc 198 0 = some (.iload_n 0)) rfl rfl
theorem x_198_1   : am_E d 198 Q (1, L, st, g) ↔ am_E d 198 Q (3, L, .int (43) :: st, g) := am_E_bipush (by decide +kernel : am_dc 198 1 = some (.bipush (43))) (by decide) rfl
theorem x_198_3   : am_E d 198 Q (3, L, .int y :: .int x :: st, g) ↔ am_E d 198 Q (am_cmp .eq x y 24 6, L, st, g) := am_E_ic (by decide +kernel : am_dc 198 3 = some (.if_icmp .eq (21))) rfl rfl
theorem x_198_6   : am_E d 198 Q (6, L, st, g) ↔ am_K d 198 Q (am_ldI 7 L st g 0) := am_E_iload_n (by decide +kernel : am_dc 198 6 = some (.iload_n 0)) rfl rfl
theorem x_198_7   : am_E d 198 Q (7, L, st, g) ↔ am_E d 198 Q (9, L, .int (45) :: st, g) := am_E_bipush (by decide +kernel : am_dc 198 7 = some (.bipush (45))) (by decide) rfl
theorem x_198_9   : am_E d 198 Q (9, L, .int y :: .int x :: st, g) ↔ am_E d 198 Q (am_cmp .eq x y 24 12, L, st, g) := am_E_ic (by decide +kernel : am_dc 198 9 = some (.if_icmp .eq (15))) rfl rfl
theorem x_198_12   : am_E d 198 Q (12, L, st, g) ↔ am_K d 198 Q (am_ldI 13 L st g 0) := am_E_iload_n (by decide +kernel : am_dc 198 12 = some (.iload_n 0)) rfl rfl
theorem x_198_13   : am_E d 198 Q (13, L, st, g) ↔ am_E d 198 Q (15, L, .int (42) :: st, g) := am_E_bipush (by decide +kernel : am_dc 198 13 = some (.bipush (42))) (by decide) rfl
theorem x_198_15   : am_E d 198 Q (15, L, .int y :: .int x :: st, g) ↔ am_E d 198 Q (am_cmp .eq x y 24 18, L, st, g) := am_E_ic (by decide +kernel : am_dc 198 15 = some (.if_icmp .eq (9))) rfl rfl
theorem x_198_18   : am_E d 198 Q (18, L, st, g) ↔ am_K d 198 Q (am_ldI 19 L st g 0) := am_E_iload_n (by decide +kernel : am_dc 198 18 = some (.iload_n 0)) rfl rfl
theorem x_198_19   : am_E d 198 Q (19, L, st, g) ↔ am_E d 198 Q (21, L, .int (47) :: st, g) := am_E_bipush (by decide +kernel : am_dc 198 19 = some (.bipush (47))) (by decide) rfl
theorem x_198_21   : am_E d 198 Q (21, L, .int y :: .int x :: st, g) ↔ am_E d 198 Q (am_cmp .ne x y 28 24, L, st, g) := am_E_ic (by decide +kernel : am_dc 198 21 = some (.if_icmp .ne (7))) rfl rfl
theorem x_198_24   : am_E d 198 Q (24, L, st, g) ↔ am_E d 198 Q (25, L, .int (1) :: st, g) := am_E_iconst (by decide +kernel : am_dc 198 24 = some (.iconst (1))) (by decide) rfl
theorem x_198_25   : am_E d 198 Q (25, L, st, g) ↔ am_E d 198 Q (29, L, st, g) := am_E_gt (by decide +kernel : am_dc 198 25 = some (.goto (4))) rfl rfl
theorem x_198_28   : am_E d 198 Q (28, L, st, g) ↔ am_E d 198 Q (29, L, .int (0) :: st, g) := am_E_iconst (by decide +kernel : am_dc 198 28 = some (.iconst (0))) (by decide) rfl
theorem x_198_29  : am_E d 198 Q (29, L, [.int x], g) ↔ if am_ok (FieldType.boolean) (.int x) = true then Q (.inl (some (.int x))) g else False := am_E_ireturn (by decide +kernel : am_dc 198 29 = some (.ireturn)) (by decide +kernel)
theorem t_198 : am_t 198 = some (FieldType.boolean) := by decide +kernel
theorem h_198 : am_h 198 = [] := by decide +kernel
theorem m_198 : am_m 198 = 1 := by decide +kernel
theorem x_199_0   : am_E d 199 Q (0, L, st, g) ↔ am_K d 199 Q (am_ldA 1 L st g 0) := am_E_aload_n (by decide +kernel : am_dc 199 0 = some (.aload_n 0)) rfl rfl
theorem x_199_1   : am_E d 199 Q (1, L, st, g) ↔ am_K d 199 Q (am_ldA 2 L st g 0) := am_E_aload_n (by decide +kernel : am_dc 199 1 = some (.aload_n 0)) rfl rfl
theorem x_199_2   : am_E d 199 Q (2, L, .ref a :: st, g) ↔ am_kv d 199 Q 5 L st g (am_gf g a 11 8) := am_E_getfield (by decide +kernel : am_dc 199 2 = some (.getfield 32)) (by decide +kernel) rfl
theorem x_199_5   : am_E d 199 Q (5, L, st, g) ↔ am_E d 199 Q (6, L, .int (3) :: st, g) := am_E_iconst (by decide +kernel : am_dc 199 5 = some (.iconst (3))) (by decide) rfl
theorem x_199_6   : am_E d 199 Q (6, L, .int y :: .int x :: st, g) ↔ am_E d 199 Q (am_cmp .ge x y 13 9, L, st, g) := am_E_ic (by decide +kernel : am_dc 199 6 = some (.if_icmp .ge (7))) rfl rfl
theorem x_199_9   : am_E d 199 Q (9, L, st, g) ↔ am_E d 199 Q (10, L, .int (1) :: st, g) := am_E_iconst (by decide +kernel : am_dc 199 9 = some (.iconst (1))) (by decide) rfl
theorem x_199_10   : am_E d 199 Q (10, L, st, g) ↔ am_E d 199 Q (14, L, st, g) := am_E_gt (by decide +kernel : am_dc 199 10 = some (.goto (4))) rfl rfl
theorem x_199_13   : am_E d 199 Q (13, L, st, g) ↔ am_E d 199 Q (14, L, .int (0) :: st, g) := am_E_iconst (by decide +kernel : am_dc 199 13 = some (.iconst (0))) (by decide) rfl
theorem x_199_14   : am_E d 199 Q (14, L, st, g) ↔ am_E d 199 Q (15, L, .int (1) :: st, g) := am_E_iconst (by decide +kernel : am_dc 199 14 = some (.iconst (1))) (by decide) rfl
theorem x_199_15   : am_E d 199 Q (15, L, st, g) ↔ am_E d 199 Q (16, L, .int (1) :: st, g) := am_E_iconst (by decide +kernel : am_dc 199 15 = some (.iconst (1))) (by decide) rfl
theorem x_199_16  : am_E d 199 Q (16, L, st, g) ↔ am_K d 199 Q (am_S 199 (.invokevirtual 196) 16 L st g) := am_E_x (by decide +kernel : am_dc 199 16 = some (.invokevirtual 196))
theorem x_199_19   : am_E d 199 Q (19, L, .int x :: st, g) ↔ am_E d 199 Q (am_cmp .ne x 0 24 22, L, st, g) := am_E_if (by decide +kernel : am_dc 199 19 = some (.ifCond .ne (5))) rfl rfl
theorem x_199_22   : am_E d 199 Q (22, L, st, g) ↔ am_E d 199 Q (23, L, .int (0) :: st, g) := am_E_iconst (by decide +kernel : am_dc 199 22 = some (.iconst (0))) (by decide) rfl
theorem x_199_23  : am_E d 199 Q (23, L, [.int x], g) ↔ if am_ok (FieldType.int) (.int x) = true then Q (.inl (some (.int x))) g else False := am_E_ireturn (by decide +kernel : am_dc 199 23 = some (.ireturn)) (by decide +kernel)
theorem x_199_24   : am_E d 199 Q (24, L, st, g) ↔ am_E d 199 Q (25, L, .int (0) :: st, g) := am_E_iconst (by decide +kernel : am_dc 199 24 = some (.iconst (0))) (by decide) rfl
theorem x_199_25   : am_E d 199 Q (25, L, st, g) ↔ am_K d 199 Q (am_stI 26 L st g 1) := am_E_istore_n (by decide +kernel : am_dc 199 25 = some (.istore_n 1)) rfl rfl
theorem x_199_26   : am_E d 199 Q (26, L, st, g) ↔ am_K d 199 Q (am_ldI 27 L st g 1) := am_E_iload_n (by decide +kernel : am_dc 199 26 = some (.iload_n 1)) rfl rfl
theorem x_199_27   : am_E d 199 Q (27, L, st, g) ↔ am_E d 199 Q (30, L, .int (216) :: st, g) := am_E_sipush (by decide +kernel : am_dc 199 27 = some (.sipush (216))) (by decide) rfl
theorem x_199_30   : am_E d 199 Q (30, L, .int y :: .int x :: st, g) ↔ am_E d 199 Q (am_cmp .ge x y 55 33, L, st, g) := am_E_ic (by decide +kernel : am_dc 199 30 = some (.if_icmp .ge (25))) rfl rfl
theorem x_199_33   : am_E d 199 Q (33, L, st, g) ↔ am_K d 199 Q (am_ldA 34 L st g 0) := am_E_aload_n (by decide +kernel : am_dc 199 33 = some (.aload_n 0)) rfl rfl
theorem x_199_34   : am_E d 199 Q (34, L, .ref a :: st, g) ↔ am_kv d 199 Q 37 L st g (am_gf g a 11 9) := am_E_getfield (by decide +kernel : am_dc 199 34 = some (.getfield 36)) (by decide +kernel) rfl
theorem x_199_37   : am_E d 199 Q (37, L, st, g) ↔ am_E d 199 Q (40, L, .int (216) :: st, g) := am_E_sipush (by decide +kernel : am_dc 199 37 = some (.sipush (216))) (by decide) rfl
theorem x_199_40   : am_E d 199 Q (40, L, st, g) ↔ am_K d 199 Q (am_ldA 41 L st g 0) := am_E_aload_n (by decide +kernel : am_dc 199 40 = some (.aload_n 0)) rfl rfl
theorem x_199_41   : am_E d 199 Q (41, L, .ref a :: st, g) ↔ am_kv d 199 Q 44 L st g (am_gf g a 11 8) := am_E_getfield (by decide +kernel : am_dc 199 41 = some (.getfield 32)) (by decide +kernel) rfl
theorem x_199_44   : am_E d 199 Q (44, L, .int y :: .int x :: st, g) ↔ am_E d 199 Q (45, L, .int (x * y) :: st, g) := am_E_imul (by decide +kernel : am_dc 199 44 = some (.imul)) rfl
theorem x_199_45   : am_E d 199 Q (45, L, st, g) ↔ am_K d 199 Q (am_ldI 46 L st g 1) := am_E_iload_n (by decide +kernel : am_dc 199 45 = some (.iload_n 1)) rfl rfl
theorem x_199_46   : am_E d 199 Q (46, L, .int y :: .int x :: st, g) ↔ am_E d 199 Q (47, L, .int (x + y) :: st, g) := am_E_iadd (by decide +kernel : am_dc 199 46 = some (.iadd)) rfl
theorem x_199_47   : am_E d 199 Q (47, L, st, g) ↔ am_E d 199 Q (48, L, .int (0) :: st, g) := am_E_iconst (by decide +kernel : am_dc 199 47 = some (.iconst (0))) (by decide) rfl
theorem x_199_48   : am_E d 199 Q (48, L, v :: .int x :: .ref a :: st, g) ↔ am_kg d 199 Q 49 L st (am_sat .bastore g a x v) := am_E_bastore (by decide +kernel : am_dc 199 48 = some (.bastore)) rfl
theorem x_199_49   (hk : L.getD 1 none = some (.int x)) (hl : 1 < L.length) : am_E d 199 Q (49, L, st, g) ↔ am_E d 199 Q (52, am_s1 L 1 (.int (x + (1))), st, g) := am_E_iinc (by decide +kernel : am_dc 199 49 = some (.iinc 1 (1))) (by decide) rfl hk hl
theorem x_199_52   : am_E d 199 Q (52, L, st, g) ↔ am_E d 199 Q (26, L, st, g) := am_E_gt (by decide +kernel : am_dc 199 52 = some (.goto (-26))) rfl rfl
theorem x_199_55   : am_E d 199 Q (55, L, st, g) ↔ am_K d 199 Q (am_ldA 56 L st g 0) := am_E_aload_n (by decide +kernel : am_dc 199 55 = some (.aload_n 0)) rfl rfl
theorem x_199_56   : am_E d 199 Q (56, L, v :: st, g) ↔ if v.category = 1 then am_E d 199 Q (57, L, v :: v :: st, g) else False := am_E_dup (by decide +kernel : am_dc 199 56 = some (.dup)) rfl
theorem x_199_57   : am_E d 199 Q (57, L, .ref a :: st, g) ↔ am_kv d 199 Q 60 L st g (am_gf g a 11 8) := am_E_getfield (by decide +kernel : am_dc 199 57 = some (.getfield 32)) (by decide +kernel) rfl
theorem x_199_60   : am_E d 199 Q (60, L, st, g) ↔ am_E d 199 Q (61, L, .int (1) :: st, g) := am_E_iconst (by decide +kernel : am_dc 199 60 = some (.iconst (1))) (by decide) rfl
theorem x_199_61   : am_E d 199 Q (61, L, .int y :: .int x :: st, g) ↔ am_E d 199 Q (62, L, .int (x + y) :: st, g) := am_E_iadd (by decide +kernel : am_dc 199 61 = some (.iadd)) rfl
theorem x_199_62   (hok : (am_ok (am_ft 11 8).1 v && (!(am_ft 11 8).2 || (am_ini 199 && am_co 11 == am_o 199)) && decide (11 < 13)) = true) : am_E d 199 Q (62, L, v :: .ref a :: st, g) ↔ am_kg d 199 Q 65 L st (am_pf g a 11 8 v) := am_E_putfield (by decide +kernel : am_dc 199 62 = some (.putfield 32)) (by decide +kernel) rfl hok
theorem x_199_65   : am_E d 199 Q (65, L, st, g) ↔ am_K d 199 Q (am_ldA 66 L st g 0) := am_E_aload_n (by decide +kernel : am_dc 199 65 = some (.aload_n 0)) rfl rfl
theorem x_199_66  : am_E d 199 Q (66, L, st, g) ↔ am_K d 199 Q (am_S 199 (.invokevirtual 200) 66 L st g) := am_E_x (by decide +kernel : am_dc 199 66 = some (.invokevirtual 200))
theorem x_199_69   : am_E d 199 Q (69, L, st, g) ↔ am_K d 199 Q (am_ldA 70 L st g 0) := am_E_aload_n (by decide +kernel : am_dc 199 69 = some (.aload_n 0)) rfl rfl
theorem x_199_70   : am_E d 199 Q (70, L, .ref a :: st, g) ↔ am_kv d 199 Q 73 L st g (am_gf g a 11 8) := am_E_getfield (by decide +kernel : am_dc 199 70 = some (.getfield 32)) (by decide +kernel) rfl
theorem x_199_73   : am_E d 199 Q (73, L, st, g) ↔ am_E d 199 Q (74, L, .int (1) :: st, g) := am_E_iconst (by decide +kernel : am_dc 199 73 = some (.iconst (1))) (by decide) rfl
theorem x_199_74   : am_E d 199 Q (74, L, .int y :: .int x :: st, g) ↔ am_E d 199 Q (75, L, .int (x - y) :: st, g) := am_E_isub (by decide +kernel : am_dc 199 74 = some (.isub)) rfl
theorem x_199_75  : am_E d 199 Q (75, L, [.int x], g) ↔ if am_ok (FieldType.int) (.int x) = true then Q (.inl (some (.int x))) g else False := am_E_ireturn (by decide +kernel : am_dc 199 75 = some (.ireturn)) (by decide +kernel)
theorem f_199_32 : am_fl 199 32 = some (11, 8) := by decide +kernel
theorem v_199_196 : am_iv 199 196 = some (1, 185, 4) := by decide +kernel
theorem f_199_36 : am_fl 199 36 = some (11, 9) := by decide +kernel
theorem v_199_200 : am_iv 199 200 = some (1, 182, 1) := by decide +kernel
theorem t_199 : am_t 199 = some (FieldType.int) := by decide +kernel
theorem h_199 : am_h 199 = [] := by decide +kernel
theorem m_199 : am_m 199 = 2 := by decide +kernel
theorem x_200_0   : am_E d 200 Q (0, L, st, g) ↔ am_K d 200 Q (am_ldI 1 L st g 1) := am_E_iload_n (by decide +kernel : am_dc 200 0 = some (.iload_n 1)) rfl rfl
theorem x_200_1   : am_E d 200 Q (1, L, .int x :: st, g) ↔ am_E d 200 Q (am_cmp .lt x 0 47 4, L, st, g) := am_E_if (by decide +kernel : am_dc 200 1 = some (.ifCond .lt (46))) rfl rfl
theorem x_200_4   : am_E d 200 Q (4, L, st, g) ↔ am_K d 200 Q (am_ldA 5 L st g 0) := am_E_aload_n (by decide +kernel : am_dc 200 4 = some (.aload_n 0)) rfl rfl
theorem x_200_5   : am_E d 200 Q (5, L, st, g) ↔ am_E d 200 Q (6, L, .int (0) :: st, g) := am_E_iconst (by decide +kernel : am_dc 200 5 = some (.iconst (0))) (by decide) rfl
theorem x_200_6   : am_E d 200 Q (6, L, st, g) ↔ am_K d 200 Q (am_ldI 7 L st g 1) := am_E_iload_n (by decide +kernel : am_dc 200 6 = some (.iload_n 1)) rfl rfl
theorem x_200_7   : am_E d 200 Q (7, L, st, g) ↔ am_E d 200 Q (8, L, .int (0) :: st, g) := am_E_iconst (by decide +kernel : am_dc 200 7 = some (.iconst (0))) (by decide) rfl
theorem x_200_8  : am_E d 200 Q (8, L, st, g) ↔ am_K d 200 Q (am_S 200 (.invokestatic 217) 8 L st g) := am_E_x (by decide +kernel : am_dc 200 8 = some (.invokestatic 217))
theorem x_200_11  : am_E d 200 Q (11, L, st, g) ↔ am_K d 200 Q (am_S 200 (.invokevirtual 179) 11 L st g) := am_E_x (by decide +kernel : am_dc 200 11 = some (.invokevirtual 179))
theorem x_200_14   : am_E d 200 Q (14, L, .int x :: st, g) ↔ am_E d 200 Q (am_cmp .eq x 0 47 17, L, st, g) := am_E_if (by decide +kernel : am_dc 200 14 = some (.ifCond .eq (33))) rfl rfl
theorem x_200_17   : am_E d 200 Q (17, L, st, g) ↔ am_K d 200 Q (am_ldA 18 L st g 0) := am_E_aload_n (by decide +kernel : am_dc 200 17 = some (.aload_n 0)) rfl rfl
theorem x_200_18   : am_E d 200 Q (18, L, st, g) ↔ am_E d 200 Q (19, L, .int (1) :: st, g) := am_E_iconst (by decide +kernel : am_dc 200 18 = some (.iconst (1))) (by decide) rfl
theorem x_200_19   : am_E d 200 Q (19, L, st, g) ↔ am_K d 200 Q (am_ldI 20 L st g 1) := am_E_iload_n (by decide +kernel : am_dc 200 19 = some (.iload_n 1)) rfl rfl
theorem x_200_20   : am_E d 200 Q (20, L, st, g) ↔ am_E d 200 Q (21, L, .int (1) :: st, g) := am_E_iconst (by decide +kernel : am_dc 200 20 = some (.iconst (1))) (by decide) rfl
theorem x_200_21  : am_E d 200 Q (21, L, st, g) ↔ am_K d 200 Q (am_S 200 (.invokestatic 217) 21 L st g) := am_E_x (by decide +kernel : am_dc 200 21 = some (.invokestatic 217))
theorem x_200_24  : am_E d 200 Q (24, L, st, g) ↔ am_K d 200 Q (am_S 200 (.invokevirtual 179) 24 L st g) := am_E_x (by decide +kernel : am_dc 200 24 = some (.invokevirtual 179))
theorem x_200_27   : am_E d 200 Q (27, L, .int x :: st, g) ↔ am_E d 200 Q (am_cmp .eq x 0 47 30, L, st, g) := am_E_if (by decide +kernel : am_dc 200 27 = some (.ifCond .eq (20))) rfl rfl
theorem x_200_30   : am_E d 200 Q (30, L, st, g) ↔ am_K d 200 Q (am_ldA 31 L st g 0) := am_E_aload_n (by decide +kernel : am_dc 200 30 = some (.aload_n 0)) rfl rfl
theorem x_200_31   : am_E d 200 Q (31, L, st, g) ↔ am_E d 200 Q (32, L, .int (2) :: st, g) := am_E_iconst (by decide +kernel : am_dc 200 31 = some (.iconst (2))) (by decide) rfl
theorem x_200_32   : am_E d 200 Q (32, L, st, g) ↔ am_K d 200 Q (am_ldI 33 L st g 1) := am_E_iload_n (by decide +kernel : am_dc 200 32 = some (.iload_n 1)) rfl rfl
theorem x_200_33   : am_E d 200 Q (33, L, st, g) ↔ am_E d 200 Q (34, L, .int (2) :: st, g) := am_E_iconst (by decide +kernel : am_dc 200 33 = some (.iconst (2))) (by decide) rfl
theorem x_200_34  : am_E d 200 Q (34, L, st, g) ↔ am_K d 200 Q (am_S 200 (.invokestatic 217) 34 L st g) := am_E_x (by decide +kernel : am_dc 200 34 = some (.invokestatic 217))
theorem x_200_37  : am_E d 200 Q (37, L, st, g) ↔ am_K d 200 Q (am_S 200 (.invokevirtual 179) 37 L st g) := am_E_x (by decide +kernel : am_dc 200 37 = some (.invokevirtual 179))
theorem x_200_40   : am_E d 200 Q (40, L, .int x :: st, g) ↔ am_E d 200 Q (am_cmp .eq x 0 47 43, L, st, g) := am_E_if (by decide +kernel : am_dc 200 40 = some (.ifCond .eq (7))) rfl rfl
theorem x_200_43   : am_E d 200 Q (43, L, st, g) ↔ am_E d 200 Q (44, L, .int (1) :: st, g) := am_E_iconst (by decide +kernel : am_dc 200 43 = some (.iconst (1))) (by decide) rfl
theorem x_200_44   : am_E d 200 Q (44, L, st, g) ↔ am_E d 200 Q (48, L, st, g) := am_E_gt (by decide +kernel : am_dc 200 44 = some (.goto (4))) rfl rfl
theorem x_200_47   : am_E d 200 Q (47, L, st, g) ↔ am_E d 200 Q (48, L, .int (0) :: st, g) := am_E_iconst (by decide +kernel : am_dc 200 47 = some (.iconst (0))) (by decide) rfl
theorem x_200_48  : am_E d 200 Q (48, L, [.int x], g) ↔ if am_ok (FieldType.boolean) (.int x) = true then Q (.inl (some (.int x))) g else False := am_E_ireturn (by decide +kernel : am_dc 200 48 = some (.ireturn)) (by decide +kernel)
theorem v_200_217 : am_iv 200 217 = some (0, 213, 2) := by decide +kernel
theorem v_200_179 : am_iv 200 179 = some (1, 194, 3) := by decide +kernel
theorem t_200 : am_t 200 = some (FieldType.boolean) := by decide +kernel
theorem h_200 : am_h 200 = [] := by decide +kernel
theorem m_200 : am_m 200 = 2 := by decide +kernel
theorem x_201_0   : am_E d 201 Q (0, L, st, g) ↔ am_E d 201 Q (1, L, .int (0) :: st, g) := am_E_iconst (by decide +kernel : am_dc 201 0 = some (.iconst (0))) (by decide) rfl
theorem x_201_1   : am_E d 201 Q (1, L, st, g) ↔ am_K d 201 Q (am_stI 2 L st g 3) := am_E_istore_n (by decide +kernel : am_dc 201 1 = some (.istore_n 3)) rfl rfl
theorem x_201_2   : am_E d 201 Q (2, L, st, g) ↔ am_K d 201 Q (am_ldI 3 L st g 3) := am_E_iload_n (by decide +kernel : am_dc 201 2 = some (.iload_n 3)) rfl rfl
theorem x_201_3   : am_E d 201 Q (3, L, st, g) ↔ am_K d 201 Q (am_ldA 4 L st g 0) := am_E_aload_n (by decide +kernel : am_dc 201 3 = some (.aload_n 0)) rfl rfl
theorem x_201_4   : am_E d 201 Q (4, L, .ref a :: st, g) ↔ am_kv d 201 Q 7 L st g (am_gf g a 11 5) := am_E_getfield (by decide +kernel : am_dc 201 4 = some (.getfield 23)) (by decide +kernel) rfl
theorem x_201_7   : am_E d 201 Q (7, L, st, g) ↔ am_K d 201 Q (am_ldI 8 L st g 1) := am_E_iload_n (by decide +kernel : am_dc 201 7 = some (.iload_n 1)) rfl rfl
theorem x_201_8   : am_E d 201 Q (8, L, .int x :: .ref a :: st, g) ↔ am_kv d 201 Q 9 L st g (am_iat .iaload g a x) := am_E_iaload (by decide +kernel : am_dc 201 8 = some (.iaload)) rfl
theorem x_201_9   : am_E d 201 Q (9, L, .int y :: .int x :: st, g) ↔ am_E d 201 Q (am_cmp .ge x y 35 12, L, st, g) := am_E_ic (by decide +kernel : am_dc 201 9 = some (.if_icmp .ge (26))) rfl rfl
theorem x_201_12   : am_E d 201 Q (12, L, st, g) ↔ am_K d 201 Q (am_ldA 13 L st g 0) := am_E_aload_n (by decide +kernel : am_dc 201 12 = some (.aload_n 0)) rfl rfl
theorem x_201_13   : am_E d 201 Q (13, L, .ref a :: st, g) ↔ am_kv d 201 Q 16 L st g (am_gf g a 11 4) := am_E_getfield (by decide +kernel : am_dc 201 13 = some (.getfield 20)) (by decide +kernel) rfl
theorem x_201_16   : am_E d 201 Q (16, L, st, g) ↔ am_E d 201 Q (18, L, .int (6) :: st, g) := am_E_bipush (by decide +kernel : am_dc 201 16 = some (.bipush (6))) (by decide) rfl
theorem x_201_18   : am_E d 201 Q (18, L, st, g) ↔ am_K d 201 Q (am_ldI 19 L st g 1) := am_E_iload_n (by decide +kernel : am_dc 201 18 = some (.iload_n 1)) rfl rfl
theorem x_201_19   : am_E d 201 Q (19, L, .int y :: .int x :: st, g) ↔ am_E d 201 Q (20, L, .int (x * y) :: st, g) := am_E_imul (by decide +kernel : am_dc 201 19 = some (.imul)) rfl
theorem x_201_20   : am_E d 201 Q (20, L, st, g) ↔ am_K d 201 Q (am_ldI 21 L st g 3) := am_E_iload_n (by decide +kernel : am_dc 201 20 = some (.iload_n 3)) rfl rfl
theorem x_201_21   : am_E d 201 Q (21, L, .int y :: .int x :: st, g) ↔ am_E d 201 Q (22, L, .int (x + y) :: st, g) := am_E_iadd (by decide +kernel : am_dc 201 21 = some (.iadd)) rfl
theorem x_201_22   : am_E d 201 Q (22, L, .int x :: .ref a :: st, g) ↔ am_kv d 201 Q 23 L st g (am_iat .iaload g a x) := am_E_iaload (by decide +kernel : am_dc 201 22 = some (.iaload)) rfl
theorem x_201_23   : am_E d 201 Q (23, L, st, g) ↔ am_K d 201 Q (am_ldI 24 L st g 2) := am_E_iload_n (by decide +kernel : am_dc 201 23 = some (.iload_n 2)) rfl rfl
theorem x_201_24   : am_E d 201 Q (24, L, .int y :: .int x :: st, g) ↔ am_E d 201 Q (am_cmp .ne x y 29 27, L, st, g) := am_E_ic (by decide +kernel : am_dc 201 24 = some (.if_icmp .ne (5))) rfl rfl
theorem x_201_27   : am_E d 201 Q (27, L, st, g) ↔ am_K d 201 Q (am_ldI 28 L st g 3) := am_E_iload_n (by decide +kernel : am_dc 201 27 = some (.iload_n 3)) rfl rfl
theorem x_201_28  : am_E d 201 Q (28, L, [.int x], g) ↔ if am_ok (FieldType.int) (.int x) = true then Q (.inl (some (.int x))) g else False := am_E_ireturn (by decide +kernel : am_dc 201 28 = some (.ireturn)) (by decide +kernel)
theorem x_201_29   (hk : L.getD 3 none = some (.int x)) (hl : 3 < L.length) : am_E d 201 Q (29, L, st, g) ↔ am_E d 201 Q (32, am_s1 L 3 (.int (x + (1))), st, g) := am_E_iinc (by decide +kernel : am_dc 201 29 = some (.iinc 3 (1))) (by decide) rfl hk hl
theorem x_201_32   : am_E d 201 Q (32, L, st, g) ↔ am_E d 201 Q (2, L, st, g) := am_E_gt (by decide +kernel : am_dc 201 32 = some (.goto (-30))) rfl rfl
theorem x_201_35   : am_E d 201 Q (35, L, st, g) ↔ am_E d 201 Q (36, L, .int (-1) :: st, g) := am_E_iconst (by decide +kernel : am_dc 201 35 = some (.iconst (-1))) (by decide) rfl
theorem x_201_36  : am_E d 201 Q (36, L, [.int x], g) ↔ if am_ok (FieldType.int) (.int x) = true then Q (.inl (some (.int x))) g else False := am_E_ireturn (by decide +kernel : am_dc 201 36 = some (.ireturn)) (by decide +kernel)
theorem f_201_23 : am_fl 201 23 = some (11, 5) := by decide +kernel
theorem f_201_20 : am_fl 201 20 = some (11, 4) := by decide +kernel
theorem t_201 : am_t 201 = some (FieldType.int) := by decide +kernel
theorem h_201 : am_h 201 = [] := by decide +kernel
theorem m_201 : am_m 201 = 4 := by decide +kernel
theorem x_202_0   : am_E d 202 Q (0, L, st, g) ↔ am_K d 202 Q (am_ldA 1 L st g 0) := am_E_aload_n (by decide +kernel : am_dc 202 0 = some (.aload_n 0)) rfl rfl
theorem x_202_1   : am_E d 202 Q (1, L, st, g) ↔ am_K d 202 Q (am_ldI 2 L st g 1) := am_E_iload_n (by decide +kernel : am_dc 202 1 = some (.iload_n 1)) rfl rfl
theorem x_202_2   : am_E d 202 Q (2, L, st, g) ↔ am_K d 202 Q (am_ldI 3 L st g 2) := am_E_iload_n (by decide +kernel : am_dc 202 2 = some (.iload_n 2)) rfl rfl
theorem x_202_3  : am_E d 202 Q (3, L, st, g) ↔ am_K d 202 Q (am_S 202 (.invokevirtual 344) 3 L st g) := am_E_x (by decide +kernel : am_dc 202 3 = some (.invokevirtual 344))
theorem x_202_6   : am_E d 202 Q (6, L, st, g) ↔ am_K d 202 Q (am_stI 7 L st g 3) := am_E_istore_n (by decide +kernel : am_dc 202 6 = some (.istore_n 3)) rfl rfl
theorem x_202_7   : am_E d 202 Q (7, L, st, g) ↔ am_K d 202 Q (am_ldI 8 L st g 3) := am_E_iload_n (by decide +kernel : am_dc 202 7 = some (.iload_n 3)) rfl rfl
theorem x_202_8   : am_E d 202 Q (8, L, .int x :: st, g) ↔ am_E d 202 Q (am_cmp .ge x 0 15 11, L, st, g) := am_E_if (by decide +kernel : am_dc 202 8 = some (.ifCond .ge (7))) rfl rfl
theorem x_202_11   : am_E d 202 Q (11, L, st, g) ↔ am_E d 202 Q (12, L, .long (0) :: st, g) := am_E_lconst (by decide +kernel : am_dc 202 11 = some (.lconst 0)) (by decide) rfl
theorem x_202_12   : am_E d 202 Q (12, L, st, g) ↔ am_E d 202 Q (28, L, st, g) := am_E_gt (by decide +kernel : am_dc 202 12 = some (.goto (16))) rfl rfl
theorem x_202_15   : am_E d 202 Q (15, L, st, g) ↔ am_K d 202 Q (am_ldA 16 L st g 0) := am_E_aload_n (by decide +kernel : am_dc 202 15 = some (.aload_n 0)) rfl rfl
theorem x_202_16   : am_E d 202 Q (16, L, .ref a :: st, g) ↔ am_kv d 202 Q 19 L st g (am_gf g a 11 10) := am_E_getfield (by decide +kernel : am_dc 202 16 = some (.getfield 39)) (by decide +kernel) rfl
theorem x_202_19   : am_E d 202 Q (19, L, st, g) ↔ am_E d 202 Q (22, L, .int (216) :: st, g) := am_E_sipush (by decide +kernel : am_dc 202 19 = some (.sipush (216))) (by decide) rfl
theorem x_202_22   : am_E d 202 Q (22, L, st, g) ↔ am_K d 202 Q (am_ldI 23 L st g 3) := am_E_iload_n (by decide +kernel : am_dc 202 22 = some (.iload_n 3)) rfl rfl
theorem x_202_23   : am_E d 202 Q (23, L, .int y :: .int x :: st, g) ↔ am_E d 202 Q (24, L, .int (x * y) :: st, g) := am_E_imul (by decide +kernel : am_dc 202 23 = some (.imul)) rfl
theorem x_202_24   : am_E d 202 Q (24, L, st, g) ↔ am_K d 202 Q (am_ldI 25 L st g 1) := am_E_iload_n (by decide +kernel : am_dc 202 24 = some (.iload_n 1)) rfl rfl
theorem x_202_25   : am_E d 202 Q (25, L, .int y :: .int x :: st, g) ↔ am_E d 202 Q (26, L, .int (x + y) :: st, g) := am_E_iadd (by decide +kernel : am_dc 202 25 = some (.iadd)) rfl
theorem x_202_26   : am_E d 202 Q (26, L, .int x :: .ref a :: st, g) ↔ am_kv d 202 Q 27 L st g (am_iat .iaload g a x) := am_E_iaload (by decide +kernel : am_dc 202 26 = some (.iaload)) rfl
theorem x_202_27   : am_E d 202 Q (27, L, .int x :: st, g) ↔ am_E d 202 Q (28, L, .long x.toInt64 :: st, g) := am_E_i2l (by decide +kernel : am_dc 202 27 = some (.i2l)) rfl
theorem x_202_28  : am_E d 202 Q (28, L, [.long u], g) ↔ Q (.inl (some (.long u))) g := am_E_lreturn (by decide +kernel : am_dc 202 28 = some (.lreturn)) (by decide +kernel)
theorem v_202_344 : am_iv 202 344 = some (1, 189, 3) := by decide +kernel
theorem f_202_39 : am_fl 202 39 = some (11, 10) := by decide +kernel
theorem t_202 : am_t 202 = some (FieldType.long) := by decide +kernel
theorem h_202 : am_h 202 = [] := by decide +kernel
theorem m_202 : am_m 202 = 4 := by decide +kernel
theorem x_203_0   : am_E d 203 Q (0, L, st, g) ↔ am_K d 203 Q (am_ldI 1 L st g 1) := am_E_iload_n (by decide +kernel : am_dc 203 0 = some (.iload_n 1)) rfl rfl
theorem x_203_1  : am_E d 203 Q (1, L, st, g) ↔ am_K d 203 Q (am_S 203 (.tableswitch (160) (1) (3) #[(27), (78), (119)]) 1 L st g) := am_E_x (by decide +kernel : am_dc 203 1 = some (.tableswitch (160) (1) (3) #[(27), (78), (119)]))
theorem x_203_28   : am_E d 203 Q (28, L, st, g) ↔ am_K d 203 Q (am_ldI 29 L st g 0) := am_E_iload_n (by decide +kernel : am_dc 203 28 = some (.iload_n 0)) rfl rfl
theorem x_203_29   : am_E d 203 Q (29, L, .int x :: st, g) ↔ am_E d 203 Q (am_cmp .ne x 0 37 32, L, st, g) := am_E_if (by decide +kernel : am_dc 203 29 = some (.ifCond .ne (8))) rfl rfl
theorem x_203_32   : am_E d 203 Q (32, L, st, g) ↔ am_E d 203 Q (34, L, .int (101) :: st, g) := am_E_bipush (by decide +kernel : am_dc 203 32 = some (.bipush (101))) (by decide) rfl
theorem x_203_34   : am_E d 203 Q (34, L, st, g) ↔ am_E d 203 Q (78, L, st, g) := am_E_gt (by decide +kernel : am_dc 203 34 = some (.goto (44))) rfl rfl
theorem x_203_37   : am_E d 203 Q (37, L, st, g) ↔ am_K d 203 Q (am_ldI 38 L st g 0) := am_E_iload_n (by decide +kernel : am_dc 203 37 = some (.iload_n 0)) rfl rfl
theorem x_203_38   : am_E d 203 Q (38, L, st, g) ↔ am_E d 203 Q (39, L, .int (1) :: st, g) := am_E_iconst (by decide +kernel : am_dc 203 38 = some (.iconst (1))) (by decide) rfl
theorem x_203_39   : am_E d 203 Q (39, L, .int y :: .int x :: st, g) ↔ am_E d 203 Q (am_cmp .ne x y 47 42, L, st, g) := am_E_ic (by decide +kernel : am_dc 203 39 = some (.if_icmp .ne (8))) rfl rfl
theorem x_203_42   : am_E d 203 Q (42, L, st, g) ↔ am_E d 203 Q (44, L, .int (109) :: st, g) := am_E_bipush (by decide +kernel : am_dc 203 42 = some (.bipush (109))) (by decide) rfl
theorem x_203_44   : am_E d 203 Q (44, L, st, g) ↔ am_E d 203 Q (78, L, st, g) := am_E_gt (by decide +kernel : am_dc 203 44 = some (.goto (34))) rfl rfl
theorem x_203_47   : am_E d 203 Q (47, L, st, g) ↔ am_K d 203 Q (am_ldI 48 L st g 0) := am_E_iload_n (by decide +kernel : am_dc 203 47 = some (.iload_n 0)) rfl rfl
theorem x_203_48   : am_E d 203 Q (48, L, st, g) ↔ am_E d 203 Q (49, L, .int (2) :: st, g) := am_E_iconst (by decide +kernel : am_dc 203 48 = some (.iconst (2))) (by decide) rfl
theorem x_203_49   : am_E d 203 Q (49, L, .int y :: .int x :: st, g) ↔ am_E d 203 Q (am_cmp .ne x y 57 52, L, st, g) := am_E_ic (by decide +kernel : am_dc 203 49 = some (.if_icmp .ne (8))) rfl rfl
theorem x_203_52   : am_E d 203 Q (52, L, st, g) ↔ am_E d 203 Q (54, L, .int (112) :: st, g) := am_E_bipush (by decide +kernel : am_dc 203 52 = some (.bipush (112))) (by decide) rfl
theorem x_203_54   : am_E d 203 Q (54, L, st, g) ↔ am_E d 203 Q (78, L, st, g) := am_E_gt (by decide +kernel : am_dc 203 54 = some (.goto (24))) rfl rfl
theorem x_203_57   : am_E d 203 Q (57, L, st, g) ↔ am_K d 203 Q (am_ldI 58 L st g 0) := am_E_iload_n (by decide +kernel : am_dc 203 57 = some (.iload_n 0)) rfl rfl
theorem x_203_58   : am_E d 203 Q (58, L, st, g) ↔ am_E d 203 Q (59, L, .int (3) :: st, g) := am_E_iconst (by decide +kernel : am_dc 203 58 = some (.iconst (3))) (by decide) rfl
theorem x_203_59   : am_E d 203 Q (59, L, .int y :: .int x :: st, g) ↔ am_E d 203 Q (am_cmp .ne x y 67 62, L, st, g) := am_E_ic (by decide +kernel : am_dc 203 59 = some (.if_icmp .ne (8))) rfl rfl
theorem x_203_62   : am_E d 203 Q (62, L, st, g) ↔ am_E d 203 Q (64, L, .int (116) :: st, g) := am_E_bipush (by decide +kernel : am_dc 203 62 = some (.bipush (116))) (by decide) rfl
theorem x_203_64   : am_E d 203 Q (64, L, st, g) ↔ am_E d 203 Q (78, L, st, g) := am_E_gt (by decide +kernel : am_dc 203 64 = some (.goto (14))) rfl rfl
theorem x_203_67   : am_E d 203 Q (67, L, st, g) ↔ am_K d 203 Q (am_ldI 68 L st g 0) := am_E_iload_n (by decide +kernel : am_dc 203 67 = some (.iload_n 0)) rfl rfl
theorem x_203_68   : am_E d 203 Q (68, L, st, g) ↔ am_E d 203 Q (69, L, .int (4) :: st, g) := am_E_iconst (by decide +kernel : am_dc 203 68 = some (.iconst (4))) (by decide) rfl
theorem x_203_69   : am_E d 203 Q (69, L, .int y :: .int x :: st, g) ↔ am_E d 203 Q (am_cmp .ne x y 77 72, L, st, g) := am_E_ic (by decide +kernel : am_dc 203 69 = some (.if_icmp .ne (8))) rfl rfl
theorem x_203_72   : am_E d 203 Q (72, L, st, g) ↔ am_E d 203 Q (74, L, .int (121) :: st, g) := am_E_bipush (by decide +kernel : am_dc 203 72 = some (.bipush (121))) (by decide) rfl
theorem x_203_74   : am_E d 203 Q (74, L, st, g) ↔ am_E d 203 Q (78, L, st, g) := am_E_gt (by decide +kernel : am_dc 203 74 = some (.goto (4))) rfl rfl
theorem x_203_77   : am_E d 203 Q (77, L, st, g) ↔ am_E d 203 Q (78, L, .int (-1) :: st, g) := am_E_iconst (by decide +kernel : am_dc 203 77 = some (.iconst (-1))) (by decide) rfl
theorem x_203_78  : am_E d 203 Q (78, L, [.int x], g) ↔ if am_ok (FieldType.int) (.int x) = true then Q (.inl (some (.int x))) g else False := am_E_ireturn (by decide +kernel : am_dc 203 78 = some (.ireturn)) (by decide +kernel)
theorem x_203_79   : am_E d 203 Q (79, L, st, g) ↔ am_K d 203 Q (am_ldI 80 L st g 0) := am_E_iload_n (by decide +kernel : am_dc 203 79 = some (.iload_n 0)) rfl rfl
theorem x_203_80   : am_E d 203 Q (80, L, .int x :: st, g) ↔ am_E d 203 Q (am_cmp .ne x 0 88 83, L, st, g) := am_E_if (by decide +kernel : am_dc 203 80 = some (.ifCond .ne (8))) rfl rfl
theorem x_203_83   : am_E d 203 Q (83, L, st, g) ↔ am_E d 203 Q (85, L, .int (114) :: st, g) := am_E_bipush (by decide +kernel : am_dc 203 83 = some (.bipush (114))) (by decide) rfl
theorem x_203_85   : am_E d 203 Q (85, L, st, g) ↔ am_E d 203 Q (119, L, st, g) := am_E_gt (by decide +kernel : am_dc 203 85 = some (.goto (34))) rfl rfl
theorem x_203_88   : am_E d 203 Q (88, L, st, g) ↔ am_K d 203 Q (am_ldI 89 L st g 0) := am_E_iload_n (by decide +kernel : am_dc 203 88 = some (.iload_n 0)) rfl rfl
theorem x_203_89   : am_E d 203 Q (89, L, st, g) ↔ am_E d 203 Q (90, L, .int (1) :: st, g) := am_E_iconst (by decide +kernel : am_dc 203 89 = some (.iconst (1))) (by decide) rfl
theorem x_203_90   : am_E d 203 Q (90, L, .int y :: .int x :: st, g) ↔ am_E d 203 Q (am_cmp .ne x y 98 93, L, st, g) := am_E_ic (by decide +kernel : am_dc 203 90 = some (.if_icmp .ne (8))) rfl rfl
theorem x_203_93   : am_E d 203 Q (93, L, st, g) ↔ am_E d 203 Q (95, L, .int (105) :: st, g) := am_E_bipush (by decide +kernel : am_dc 203 93 = some (.bipush (105))) (by decide) rfl
theorem x_203_95   : am_E d 203 Q (95, L, st, g) ↔ am_E d 203 Q (119, L, st, g) := am_E_gt (by decide +kernel : am_dc 203 95 = some (.goto (24))) rfl rfl
theorem x_203_98   : am_E d 203 Q (98, L, st, g) ↔ am_K d 203 Q (am_ldI 99 L st g 0) := am_E_iload_n (by decide +kernel : am_dc 203 98 = some (.iload_n 0)) rfl rfl
theorem x_203_99   : am_E d 203 Q (99, L, st, g) ↔ am_E d 203 Q (100, L, .int (2) :: st, g) := am_E_iconst (by decide +kernel : am_dc 203 99 = some (.iconst (2))) (by decide) rfl
theorem x_203_100   : am_E d 203 Q (100, L, .int y :: .int x :: st, g) ↔ am_E d 203 Q (am_cmp .ne x y 108 103, L, st, g) := am_E_ic (by decide +kernel : am_dc 203 100 = some (.if_icmp .ne (8))) rfl rfl
theorem x_203_103   : am_E d 203 Q (103, L, st, g) ↔ am_E d 203 Q (105, L, .int (110) :: st, g) := am_E_bipush (by decide +kernel : am_dc 203 103 = some (.bipush (110))) (by decide) rfl
theorem x_203_105   : am_E d 203 Q (105, L, st, g) ↔ am_E d 203 Q (119, L, st, g) := am_E_gt (by decide +kernel : am_dc 203 105 = some (.goto (14))) rfl rfl
theorem x_203_108   : am_E d 203 Q (108, L, st, g) ↔ am_K d 203 Q (am_ldI 109 L st g 0) := am_E_iload_n (by decide +kernel : am_dc 203 108 = some (.iload_n 0)) rfl rfl
theorem x_203_109   : am_E d 203 Q (109, L, st, g) ↔ am_E d 203 Q (110, L, .int (3) :: st, g) := am_E_iconst (by decide +kernel : am_dc 203 109 = some (.iconst (3))) (by decide) rfl
theorem x_203_110   : am_E d 203 Q (110, L, .int y :: .int x :: st, g) ↔ am_E d 203 Q (am_cmp .ne x y 118 113, L, st, g) := am_E_ic (by decide +kernel : am_dc 203 110 = some (.if_icmp .ne (8))) rfl rfl
theorem x_203_113   : am_E d 203 Q (113, L, st, g) ↔ am_E d 203 Q (115, L, .int (103) :: st, g) := am_E_bipush (by decide +kernel : am_dc 203 113 = some (.bipush (103))) (by decide) rfl
theorem x_203_115   : am_E d 203 Q (115, L, st, g) ↔ am_E d 203 Q (119, L, st, g) := am_E_gt (by decide +kernel : am_dc 203 115 = some (.goto (4))) rfl rfl
theorem x_203_118   : am_E d 203 Q (118, L, st, g) ↔ am_E d 203 Q (119, L, .int (-1) :: st, g) := am_E_iconst (by decide +kernel : am_dc 203 118 = some (.iconst (-1))) (by decide) rfl
theorem x_203_119  : am_E d 203 Q (119, L, [.int x], g) ↔ if am_ok (FieldType.int) (.int x) = true then Q (.inl (some (.int x))) g else False := am_E_ireturn (by decide +kernel : am_dc 203 119 = some (.ireturn)) (by decide +kernel)
theorem x_203_120   : am_E d 203 Q (120, L, st, g) ↔ am_K d 203 Q (am_ldI 121 L st g 0) := am_E_iload_n (by decide +kernel : am_dc 203 120 = some (.iload_n 0)) rfl rfl
theorem x_203_121   : am_E d 203 Q (121, L, .int x :: st, g) ↔ am_E d 203 Q (am_cmp .ne x 0 129 124, L, st, g) := am_E_if (by decide +kernel : am_dc 203 121 = some (.ifCond .ne (8))) rfl rfl
theorem x_203_124   : am_E d 203 Q (124, L, st, g) ↔ am_E d 203 Q (126, L, .int (111) :: st, g) := am_E_bipush (by decide +kernel : am_dc 203 124 = some (.bipush (111))) (by decide) rfl
theorem x_203_126   : am_E d 203 Q (126, L, st, g) ↔ am_E d 203 Q (160, L, st, g) := am_E_gt (by decide +kernel : am_dc 203 126 = some (.goto (34))) rfl rfl
theorem x_203_129   : am_E d 203 Q (129, L, st, g) ↔ am_K d 203 Q (am_ldI 130 L st g 0) := am_E_iload_n (by decide +kernel : am_dc 203 129 = some (.iload_n 0)) rfl rfl
theorem x_203_130   : am_E d 203 Q (130, L, st, g) ↔ am_E d 203 Q (131, L, .int (1) :: st, g) := am_E_iconst (by decide +kernel : am_dc 203 130 = some (.iconst (1))) (by decide) rfl
theorem x_203_131   : am_E d 203 Q (131, L, .int y :: .int x :: st, g) ↔ am_E d 203 Q (am_cmp .ne x y 139 134, L, st, g) := am_E_ic (by decide +kernel : am_dc 203 131 = some (.if_icmp .ne (8))) rfl rfl
theorem x_203_134   : am_E d 203 Q (134, L, st, g) ↔ am_E d 203 Q (136, L, .int (118) :: st, g) := am_E_bipush (by decide +kernel : am_dc 203 134 = some (.bipush (118))) (by decide) rfl
theorem x_203_136   : am_E d 203 Q (136, L, st, g) ↔ am_E d 203 Q (160, L, st, g) := am_E_gt (by decide +kernel : am_dc 203 136 = some (.goto (24))) rfl rfl
theorem x_203_139   : am_E d 203 Q (139, L, st, g) ↔ am_K d 203 Q (am_ldI 140 L st g 0) := am_E_iload_n (by decide +kernel : am_dc 203 139 = some (.iload_n 0)) rfl rfl
theorem x_203_140   : am_E d 203 Q (140, L, st, g) ↔ am_E d 203 Q (141, L, .int (2) :: st, g) := am_E_iconst (by decide +kernel : am_dc 203 140 = some (.iconst (2))) (by decide) rfl
theorem x_203_141   : am_E d 203 Q (141, L, .int y :: .int x :: st, g) ↔ am_E d 203 Q (am_cmp .ne x y 149 144, L, st, g) := am_E_ic (by decide +kernel : am_dc 203 141 = some (.if_icmp .ne (8))) rfl rfl
theorem x_203_144   : am_E d 203 Q (144, L, st, g) ↔ am_E d 203 Q (146, L, .int (101) :: st, g) := am_E_bipush (by decide +kernel : am_dc 203 144 = some (.bipush (101))) (by decide) rfl
theorem x_203_146   : am_E d 203 Q (146, L, st, g) ↔ am_E d 203 Q (160, L, st, g) := am_E_gt (by decide +kernel : am_dc 203 146 = some (.goto (14))) rfl rfl
theorem x_203_149   : am_E d 203 Q (149, L, st, g) ↔ am_K d 203 Q (am_ldI 150 L st g 0) := am_E_iload_n (by decide +kernel : am_dc 203 149 = some (.iload_n 0)) rfl rfl
theorem x_203_150   : am_E d 203 Q (150, L, st, g) ↔ am_E d 203 Q (151, L, .int (3) :: st, g) := am_E_iconst (by decide +kernel : am_dc 203 150 = some (.iconst (3))) (by decide) rfl
theorem x_203_151   : am_E d 203 Q (151, L, .int y :: .int x :: st, g) ↔ am_E d 203 Q (am_cmp .ne x y 159 154, L, st, g) := am_E_ic (by decide +kernel : am_dc 203 151 = some (.if_icmp .ne (8))) rfl rfl
theorem x_203_154   : am_E d 203 Q (154, L, st, g) ↔ am_E d 203 Q (156, L, .int (114) :: st, g) := am_E_bipush (by decide +kernel : am_dc 203 154 = some (.bipush (114))) (by decide) rfl
theorem x_203_156   : am_E d 203 Q (156, L, st, g) ↔ am_E d 203 Q (160, L, st, g) := am_E_gt (by decide +kernel : am_dc 203 156 = some (.goto (4))) rfl rfl
theorem x_203_159   : am_E d 203 Q (159, L, st, g) ↔ am_E d 203 Q (160, L, .int (-1) :: st, g) := am_E_iconst (by decide +kernel : am_dc 203 159 = some (.iconst (-1))) (by decide) rfl
theorem x_203_160  : am_E d 203 Q (160, L, [.int x], g) ↔ if am_ok (FieldType.int) (.int x) = true then Q (.inl (some (.int x))) g else False := am_E_ireturn (by decide +kernel : am_dc 203 160 = some (.ireturn)) (by decide +kernel)
theorem x_203_161   : am_E d 203 Q (161, L, st, g) ↔ am_K d 203 Q (am_ldI 162 L st g 0) := am_E_iload_n (by decide +kernel : am_dc 203 161 = some (.iload_n 0)) rfl rfl
theorem x_203_162   : am_E d 203 Q (162, L, .int x :: st, g) ↔ am_E d 203 Q (am_cmp .ne x 0 170 165, L, st, g) := am_E_if (by decide +kernel : am_dc 203 162 = some (.ifCond .ne (8))) rfl rfl
theorem x_203_165   : am_E d 203 Q (165, L, st, g) ↔ am_E d 203 Q (167, L, .int (100) :: st, g) := am_E_bipush (by decide +kernel : am_dc 203 165 = some (.bipush (100))) (by decide) rfl
theorem x_203_167   : am_E d 203 Q (167, L, st, g) ↔ am_E d 203 Q (191, L, st, g) := am_E_gt (by decide +kernel : am_dc 203 167 = some (.goto (24))) rfl rfl
theorem x_203_170   : am_E d 203 Q (170, L, st, g) ↔ am_K d 203 Q (am_ldI 171 L st g 0) := am_E_iload_n (by decide +kernel : am_dc 203 170 = some (.iload_n 0)) rfl rfl
theorem x_203_171   : am_E d 203 Q (171, L, st, g) ↔ am_E d 203 Q (172, L, .int (1) :: st, g) := am_E_iconst (by decide +kernel : am_dc 203 171 = some (.iconst (1))) (by decide) rfl
theorem x_203_172   : am_E d 203 Q (172, L, .int y :: .int x :: st, g) ↔ am_E d 203 Q (am_cmp .ne x y 180 175, L, st, g) := am_E_ic (by decide +kernel : am_dc 203 172 = some (.if_icmp .ne (8))) rfl rfl
theorem x_203_175   : am_E d 203 Q (175, L, st, g) ↔ am_E d 203 Q (177, L, .int (105) :: st, g) := am_E_bipush (by decide +kernel : am_dc 203 175 = some (.bipush (105))) (by decide) rfl
theorem x_203_177   : am_E d 203 Q (177, L, st, g) ↔ am_E d 203 Q (191, L, st, g) := am_E_gt (by decide +kernel : am_dc 203 177 = some (.goto (14))) rfl rfl
theorem x_203_180   : am_E d 203 Q (180, L, st, g) ↔ am_K d 203 Q (am_ldI 181 L st g 0) := am_E_iload_n (by decide +kernel : am_dc 203 180 = some (.iload_n 0)) rfl rfl
theorem x_203_181   : am_E d 203 Q (181, L, st, g) ↔ am_E d 203 Q (182, L, .int (2) :: st, g) := am_E_iconst (by decide +kernel : am_dc 203 181 = some (.iconst (2))) (by decide) rfl
theorem x_203_182   : am_E d 203 Q (182, L, .int y :: .int x :: st, g) ↔ am_E d 203 Q (am_cmp .ne x y 190 185, L, st, g) := am_E_ic (by decide +kernel : am_dc 203 182 = some (.if_icmp .ne (8))) rfl rfl
theorem x_203_185   : am_E d 203 Q (185, L, st, g) ↔ am_E d 203 Q (187, L, .int (118) :: st, g) := am_E_bipush (by decide +kernel : am_dc 203 185 = some (.bipush (118))) (by decide) rfl
theorem x_203_187   : am_E d 203 Q (187, L, st, g) ↔ am_E d 203 Q (191, L, st, g) := am_E_gt (by decide +kernel : am_dc 203 187 = some (.goto (4))) rfl rfl
theorem x_203_190   : am_E d 203 Q (190, L, st, g) ↔ am_E d 203 Q (191, L, .int (-1) :: st, g) := am_E_iconst (by decide +kernel : am_dc 203 190 = some (.iconst (-1))) (by decide) rfl
theorem x_203_191  : am_E d 203 Q (191, L, [.int x], g) ↔ if am_ok (FieldType.int) (.int x) = true then Q (.inl (some (.int x))) g else False := am_E_ireturn (by decide +kernel : am_dc 203 191 = some (.ireturn)) (by decide +kernel)
theorem t_203 : am_t 203 = some (FieldType.int) := by decide +kernel
theorem h_203 : am_h 203 = [] := by decide +kernel
theorem m_203 : am_m 203 = 2 := by decide +kernel
theorem x_204_0   : am_E d 204 Q (0, L, st, g) ↔ am_E d 204 Q (1, L, .int (0) :: st, g) := am_E_iconst (by decide +kernel : am_dc 204 0 = some (.iconst (0))) (by decide) rfl
theorem x_204_1   : am_E d 204 Q (1, L, st, g) ↔ am_K d 204 Q (am_stI 2 L st g 2) := am_E_istore_n (by decide +kernel : am_dc 204 1 = some (.istore_n 2)) rfl rfl
theorem x_204_2   : am_E d 204 Q (2, L, st, g) ↔ am_E d 204 Q (3, L, .int (0) :: st, g) := am_E_iconst (by decide +kernel : am_dc 204 2 = some (.iconst (0))) (by decide) rfl
theorem x_204_3   : am_E d 204 Q (3, L, st, g) ↔ am_K d 204 Q (am_stI 4 L st g 3) := am_E_istore_n (by decide +kernel : am_dc 204 3 = some (.istore_n 3)) rfl rfl
theorem x_204_4   : am_E d 204 Q (4, L, st, g) ↔ am_K d 204 Q (am_ldI 5 L st g 3) := am_E_iload_n (by decide +kernel : am_dc 204 4 = some (.iload_n 3)) rfl rfl
theorem x_204_5   : am_E d 204 Q (5, L, st, g) ↔ am_E d 204 Q (7, L, .int (6) :: st, g) := am_E_bipush (by decide +kernel : am_dc 204 5 = some (.bipush (6))) (by decide) rfl
theorem x_204_7   : am_E d 204 Q (7, L, .int y :: .int x :: st, g) ↔ am_E d 204 Q (am_cmp .ge x y 38 10, L, st, g) := am_E_ic (by decide +kernel : am_dc 204 7 = some (.if_icmp .ge (31))) rfl rfl
theorem x_204_10   : am_E d 204 Q (10, L, st, g) ↔ am_K d 204 Q (am_ldA 11 L st g 0) := am_E_aload_n (by decide +kernel : am_dc 204 10 = some (.aload_n 0)) rfl rfl
theorem x_204_11   : am_E d 204 Q (11, L, .ref a :: st, g) ↔ am_kv d 204 Q 14 L st g (am_gf g a 11 1) := am_E_getfield (by decide +kernel : am_dc 204 11 = some (.getfield 7)) (by decide +kernel) rfl
theorem x_204_14   : am_E d 204 Q (14, L, st, g) ↔ am_E d 204 Q (16, L, .int (6) :: st, g) := am_E_bipush (by decide +kernel : am_dc 204 14 = some (.bipush (6))) (by decide) rfl
theorem x_204_16   : am_E d 204 Q (16, L, st, g) ↔ am_K d 204 Q (am_ldI 17 L st g 1) := am_E_iload_n (by decide +kernel : am_dc 204 16 = some (.iload_n 1)) rfl rfl
theorem x_204_17   : am_E d 204 Q (17, L, .int y :: .int x :: st, g) ↔ am_E d 204 Q (18, L, .int (x * y) :: st, g) := am_E_imul (by decide +kernel : am_dc 204 17 = some (.imul)) rfl
theorem x_204_18   : am_E d 204 Q (18, L, st, g) ↔ am_K d 204 Q (am_ldI 19 L st g 3) := am_E_iload_n (by decide +kernel : am_dc 204 18 = some (.iload_n 3)) rfl rfl
theorem x_204_19   : am_E d 204 Q (19, L, .int y :: .int x :: st, g) ↔ am_E d 204 Q (20, L, .int (x + y) :: st, g) := am_E_iadd (by decide +kernel : am_dc 204 19 = some (.iadd)) rfl
theorem x_204_20   : am_E d 204 Q (20, L, .int x :: .ref a :: st, g) ↔ am_kv d 204 Q 21 L st g (am_iat .baload g a x) := am_E_baload (by decide +kernel : am_dc 204 20 = some (.baload)) rfl
theorem x_204_21   : am_E d 204 Q (21, L, .int x :: st, g) ↔ am_E d 204 Q (am_cmp .eq x 0 30 24, L, st, g) := am_E_if (by decide +kernel : am_dc 204 21 = some (.ifCond .eq (9))) rfl rfl
theorem x_204_24   : am_E d 204 Q (24, L, st, g) ↔ am_K d 204 Q (am_ldI 25 L st g 2) := am_E_iload_n (by decide +kernel : am_dc 204 24 = some (.iload_n 2)) rfl rfl
theorem x_204_25   : am_E d 204 Q (25, L, st, g) ↔ am_E d 204 Q (26, L, .int (1) :: st, g) := am_E_iconst (by decide +kernel : am_dc 204 25 = some (.iconst (1))) (by decide) rfl
theorem x_204_26   : am_E d 204 Q (26, L, .int y :: .int x :: st, g) ↔ am_E d 204 Q (27, L, .int (x + y) :: st, g) := am_E_iadd (by decide +kernel : am_dc 204 26 = some (.iadd)) rfl
theorem x_204_27   : am_E d 204 Q (27, L, st, g) ↔ am_E d 204 Q (31, L, st, g) := am_E_gt (by decide +kernel : am_dc 204 27 = some (.goto (4))) rfl rfl
theorem x_204_30   : am_E d 204 Q (30, L, st, g) ↔ am_K d 204 Q (am_ldI 31 L st g 2) := am_E_iload_n (by decide +kernel : am_dc 204 30 = some (.iload_n 2)) rfl rfl
theorem x_204_31   : am_E d 204 Q (31, L, st, g) ↔ am_K d 204 Q (am_stI 32 L st g 2) := am_E_istore_n (by decide +kernel : am_dc 204 31 = some (.istore_n 2)) rfl rfl
theorem x_204_32   (hk : L.getD 3 none = some (.int x)) (hl : 3 < L.length) : am_E d 204 Q (32, L, st, g) ↔ am_E d 204 Q (35, am_s1 L 3 (.int (x + (1))), st, g) := am_E_iinc (by decide +kernel : am_dc 204 32 = some (.iinc 3 (1))) (by decide) rfl hk hl
theorem x_204_35   : am_E d 204 Q (35, L, st, g) ↔ am_E d 204 Q (4, L, st, g) := am_E_gt (by decide +kernel : am_dc 204 35 = some (.goto (-31))) rfl rfl
theorem x_204_38   : am_E d 204 Q (38, L, st, g) ↔ am_K d 204 Q (am_ldI 39 L st g 2) := am_E_iload_n (by decide +kernel : am_dc 204 38 = some (.iload_n 2)) rfl rfl
theorem x_204_39  : am_E d 204 Q (39, L, [.int x], g) ↔ if am_ok (FieldType.int) (.int x) = true then Q (.inl (some (.int x))) g else False := am_E_ireturn (by decide +kernel : am_dc 204 39 = some (.ireturn)) (by decide +kernel)
theorem f_204_7 : am_fl 204 7 = some (11, 1) := by decide +kernel
theorem t_204 : am_t 204 = some (FieldType.int) := by decide +kernel
theorem h_204 : am_h 204 = [] := by decide +kernel
theorem m_204 : am_m 204 = 4 := by decide +kernel
theorem x_205_0   : am_E d 205 Q (0, L, st, g) ↔ am_K d 205 Q (am_ldI 1 L st g 1) := am_E_iload_n (by decide +kernel : am_dc 205 0 = some (.iload_n 1)) rfl rfl
theorem x_205_1  : am_E d 205 Q (1, L, st, g) ↔ am_K d 205 Q (am_S 205 (.invokestatic 171) 1 L st g) := am_E_x (by decide +kernel : am_dc 205 1 = some (.invokestatic 171))
theorem x_205_4   : am_E d 205 Q (4, L, .int x :: st, g) ↔ am_E d 205 Q (am_cmp .eq x 0 25 7, L, st, g) := am_E_if (by decide +kernel : am_dc 205 4 = some (.ifCond .eq (21))) rfl rfl
theorem x_205_7   : am_E d 205 Q (7, L, st, g) ↔ am_K d 205 Q (am_ldI 8 L st g 2) := am_E_iload_n (by decide +kernel : am_dc 205 7 = some (.iload_n 2)) rfl rfl
theorem x_205_8   : am_E d 205 Q (8, L, st, g) ↔ am_E d 205 Q (9, L, .int (-1) :: st, g) := am_E_iconst (by decide +kernel : am_dc 205 8 = some (.iconst (-1))) (by decide) rfl
theorem x_205_9   : am_E d 205 Q (9, L, .int y :: .int x :: st, g) ↔ am_E d 205 Q (am_cmp .eq x y 21 12, L, st, g) := am_E_ic (by decide +kernel : am_dc 205 9 = some (.if_icmp .eq (12))) rfl rfl
theorem x_205_12   : am_E d 205 Q (12, L, st, g) ↔ am_K d 205 Q (am_ldA 13 L st g 0) := am_E_aload_n (by decide +kernel : am_dc 205 12 = some (.aload_n 0)) rfl rfl
theorem x_205_13   : am_E d 205 Q (13, L, st, g) ↔ am_K d 205 Q (am_ldI 14 L st g 1) := am_E_iload_n (by decide +kernel : am_dc 205 13 = some (.iload_n 1)) rfl rfl
theorem x_205_14   : am_E d 205 Q (14, L, st, g) ↔ am_K d 205 Q (am_ldI 15 L st g 2) := am_E_iload_n (by decide +kernel : am_dc 205 14 = some (.iload_n 2)) rfl rfl
theorem x_205_15  : am_E d 205 Q (15, L, st, g) ↔ am_K d 205 Q (am_S 205 (.invokevirtual 189) 15 L st g) := am_E_x (by decide +kernel : am_dc 205 15 = some (.invokevirtual 189))
theorem x_205_18   : am_E d 205 Q (18, L, .int x :: st, g) ↔ am_E d 205 Q (am_cmp .eq x 0 25 21, L, st, g) := am_E_if (by decide +kernel : am_dc 205 18 = some (.ifCond .eq (7))) rfl rfl
theorem x_205_21   : am_E d 205 Q (21, L, st, g) ↔ am_E d 205 Q (22, L, .int (1) :: st, g) := am_E_iconst (by decide +kernel : am_dc 205 21 = some (.iconst (1))) (by decide) rfl
theorem x_205_22   : am_E d 205 Q (22, L, st, g) ↔ am_E d 205 Q (26, L, st, g) := am_E_gt (by decide +kernel : am_dc 205 22 = some (.goto (4))) rfl rfl
theorem x_205_25   : am_E d 205 Q (25, L, st, g) ↔ am_E d 205 Q (26, L, .int (0) :: st, g) := am_E_iconst (by decide +kernel : am_dc 205 25 = some (.iconst (0))) (by decide) rfl
theorem x_205_26   : am_E d 205 Q (26, L, st, g) ↔ am_K d 205 Q (am_stI 28 L st g 4) := am_E_istore (by decide +kernel : am_dc 205 26 = some (.istore 4)) rfl
theorem x_205_28   : am_E d 205 Q (28, L, st, g) ↔ am_K d 205 Q (am_ldA 29 L st g 0) := am_E_aload_n (by decide +kernel : am_dc 205 28 = some (.aload_n 0)) rfl rfl
theorem x_205_29   : am_E d 205 Q (29, L, st, g) ↔ am_K d 205 Q (am_ldI 31 L st g 4) := am_E_iload (by decide +kernel : am_dc 205 29 = some (.iload 4)) rfl
theorem x_205_31   : am_E d 205 Q (31, L, st, g) ↔ am_K d 205 Q (am_ldI 32 L st g 3) := am_E_iload_n (by decide +kernel : am_dc 205 31 = some (.iload_n 3)) rfl rfl
theorem x_205_32   : am_E d 205 Q (32, L, .int x :: st, g) ↔ am_E d 205 Q (am_cmp .lt x 0 44 35, L, st, g) := am_E_if (by decide +kernel : am_dc 205 32 = some (.ifCond .lt (12))) rfl rfl
theorem x_205_35   : am_E d 205 Q (35, L, st, g) ↔ am_K d 205 Q (am_ldI 36 L st g 3) := am_E_iload_n (by decide +kernel : am_dc 205 35 = some (.iload_n 3)) rfl rfl
theorem x_205_36   : am_E d 205 Q (36, L, st, g) ↔ am_E d 205 Q (37, L, .int (4) :: st, g) := am_E_iconst (by decide +kernel : am_dc 205 36 = some (.iconst (4))) (by decide) rfl
theorem x_205_37   : am_E d 205 Q (37, L, .int y :: .int x :: st, g) ↔ am_E d 205 Q (am_cmp .gt x y 44 40, L, st, g) := am_E_ic (by decide +kernel : am_dc 205 37 = some (.if_icmp .gt (7))) rfl rfl
theorem x_205_40   : am_E d 205 Q (40, L, st, g) ↔ am_E d 205 Q (41, L, .int (1) :: st, g) := am_E_iconst (by decide +kernel : am_dc 205 40 = some (.iconst (1))) (by decide) rfl
theorem x_205_41   : am_E d 205 Q (41, L, st, g) ↔ am_E d 205 Q (45, L, st, g) := am_E_gt (by decide +kernel : am_dc 205 41 = some (.goto (4))) rfl rfl
theorem x_205_44   : am_E d 205 Q (44, L, st, g) ↔ am_E d 205 Q (45, L, .int (0) :: st, g) := am_E_iconst (by decide +kernel : am_dc 205 44 = some (.iconst (0))) (by decide) rfl
theorem x_205_45   : am_E d 205 Q (45, L, st, g) ↔ am_K d 205 Q (am_ldI 47 L st g 4) := am_E_iload (by decide +kernel : am_dc 205 45 = some (.iload 4)) rfl
theorem x_205_47   : am_E d 205 Q (47, L, .int x :: st, g) ↔ am_E d 205 Q (am_cmp .eq x 0 60 50, L, st, g) := am_E_if (by decide +kernel : am_dc 205 47 = some (.ifCond .eq (13))) rfl rfl
theorem x_205_50   : am_E d 205 Q (50, L, st, g) ↔ am_K d 205 Q (am_ldA 51 L st g 0) := am_E_aload_n (by decide +kernel : am_dc 205 50 = some (.aload_n 0)) rfl rfl
theorem x_205_51   : am_E d 205 Q (51, L, st, g) ↔ am_K d 205 Q (am_ldI 52 L st g 1) := am_E_iload_n (by decide +kernel : am_dc 205 51 = some (.iload_n 1)) rfl rfl
theorem x_205_52  : am_E d 205 Q (52, L, st, g) ↔ am_K d 205 Q (am_S 205 (.invokevirtual 192) 52 L st g) := am_E_x (by decide +kernel : am_dc 205 52 = some (.invokevirtual 192))
theorem x_205_55   : am_E d 205 Q (55, L, st, g) ↔ am_E d 205 Q (57, L, .int (6) :: st, g) := am_E_bipush (by decide +kernel : am_dc 205 55 = some (.bipush (6))) (by decide) rfl
theorem x_205_57   : am_E d 205 Q (57, L, .int y :: .int x :: st, g) ↔ am_E d 205 Q (am_cmp .ge x y 64 60, L, st, g) := am_E_ic (by decide +kernel : am_dc 205 57 = some (.if_icmp .ge (7))) rfl rfl
theorem x_205_60   : am_E d 205 Q (60, L, st, g) ↔ am_E d 205 Q (61, L, .int (1) :: st, g) := am_E_iconst (by decide +kernel : am_dc 205 60 = some (.iconst (1))) (by decide) rfl
theorem x_205_61   : am_E d 205 Q (61, L, st, g) ↔ am_E d 205 Q (65, L, st, g) := am_E_gt (by decide +kernel : am_dc 205 61 = some (.goto (4))) rfl rfl
theorem x_205_64   : am_E d 205 Q (64, L, st, g) ↔ am_E d 205 Q (65, L, .int (0) :: st, g) := am_E_iconst (by decide +kernel : am_dc 205 64 = some (.iconst (0))) (by decide) rfl
theorem x_205_65  : am_E d 205 Q (65, L, st, g) ↔ am_K d 205 Q (am_S 205 (.invokevirtual 196) 65 L st g) := am_E_x (by decide +kernel : am_dc 205 65 = some (.invokevirtual 196))
theorem x_205_68   : am_E d 205 Q (68, L, .int x :: st, g) ↔ am_E d 205 Q (am_cmp .ne x 0 73 71, L, st, g) := am_E_if (by decide +kernel : am_dc 205 68 = some (.ifCond .ne (5))) rfl rfl
theorem x_205_71   : am_E d 205 Q (71, L, st, g) ↔ am_E d 205 Q (72, L, .int (0) :: st, g) := am_E_iconst (by decide +kernel : am_dc 205 71 = some (.iconst (0))) (by decide) rfl
theorem x_205_72  : am_E d 205 Q (72, L, [.int x], g) ↔ if am_ok (FieldType.int) (.int x) = true then Q (.inl (some (.int x))) g else False := am_E_ireturn (by decide +kernel : am_dc 205 72 = some (.ireturn)) (by decide +kernel)
theorem x_205_73   : am_E d 205 Q (73, L, st, g) ↔ am_E d 205 Q (74, L, .int (0) :: st, g) := am_E_iconst (by decide +kernel : am_dc 205 73 = some (.iconst (0))) (by decide) rfl
theorem x_205_74   : am_E d 205 Q (74, L, st, g) ↔ am_K d 205 Q (am_stI 76 L st g 5) := am_E_istore (by decide +kernel : am_dc 205 74 = some (.istore 5)) rfl
theorem x_205_76   : am_E d 205 Q (76, L, st, g) ↔ am_K d 205 Q (am_ldA 77 L st g 0) := am_E_aload_n (by decide +kernel : am_dc 205 76 = some (.aload_n 0)) rfl rfl
theorem x_205_77   : am_E d 205 Q (77, L, .ref a :: st, g) ↔ am_kv d 205 Q 80 L st g (am_gf g a 11 1) := am_E_getfield (by decide +kernel : am_dc 205 77 = some (.getfield 7)) (by decide +kernel) rfl
theorem x_205_80   : am_E d 205 Q (80, L, st, g) ↔ am_E d 205 Q (82, L, .int (6) :: st, g) := am_E_bipush (by decide +kernel : am_dc 205 80 = some (.bipush (6))) (by decide) rfl
theorem x_205_82   : am_E d 205 Q (82, L, st, g) ↔ am_K d 205 Q (am_ldI 83 L st g 1) := am_E_iload_n (by decide +kernel : am_dc 205 82 = some (.iload_n 1)) rfl rfl
theorem x_205_83   : am_E d 205 Q (83, L, .int y :: .int x :: st, g) ↔ am_E d 205 Q (84, L, .int (x * y) :: st, g) := am_E_imul (by decide +kernel : am_dc 205 83 = some (.imul)) rfl
theorem x_205_84   : am_E d 205 Q (84, L, st, g) ↔ am_K d 205 Q (am_ldI 86 L st g 5) := am_E_iload (by decide +kernel : am_dc 205 84 = some (.iload 5)) rfl
theorem x_205_86   : am_E d 205 Q (86, L, .int y :: .int x :: st, g) ↔ am_E d 205 Q (87, L, .int (x + y) :: st, g) := am_E_iadd (by decide +kernel : am_dc 205 86 = some (.iadd)) rfl
theorem x_205_87   : am_E d 205 Q (87, L, .int x :: .ref a :: st, g) ↔ am_kv d 205 Q 88 L st g (am_iat .baload g a x) := am_E_baload (by decide +kernel : am_dc 205 87 = some (.baload)) rfl
theorem x_205_88   : am_E d 205 Q (88, L, .int x :: st, g) ↔ am_E d 205 Q (am_cmp .eq x 0 97 91, L, st, g) := am_E_if (by decide +kernel : am_dc 205 88 = some (.ifCond .eq (9))) rfl rfl
theorem x_205_91   (hk : L.getD 5 none = some (.int x)) (hl : 5 < L.length) : am_E d 205 Q (91, L, st, g) ↔ am_E d 205 Q (94, am_s1 L 5 (.int (x + (1))), st, g) := am_E_iinc (by decide +kernel : am_dc 205 91 = some (.iinc 5 (1))) (by decide) rfl hk hl
theorem x_205_94   : am_E d 205 Q (94, L, st, g) ↔ am_E d 205 Q (76, L, st, g) := am_E_gt (by decide +kernel : am_dc 205 94 = some (.goto (-18))) rfl rfl
theorem x_205_97   : am_E d 205 Q (97, L, st, g) ↔ am_K d 205 Q (am_ldA 98 L st g 0) := am_E_aload_n (by decide +kernel : am_dc 205 97 = some (.aload_n 0)) rfl rfl
theorem x_205_98   : am_E d 205 Q (98, L, .ref a :: st, g) ↔ am_kv d 205 Q 101 L st g (am_gf g a 11 1) := am_E_getfield (by decide +kernel : am_dc 205 98 = some (.getfield 7)) (by decide +kernel) rfl
theorem x_205_101   : am_E d 205 Q (101, L, st, g) ↔ am_E d 205 Q (103, L, .int (6) :: st, g) := am_E_bipush (by decide +kernel : am_dc 205 101 = some (.bipush (6))) (by decide) rfl
theorem x_205_103   : am_E d 205 Q (103, L, st, g) ↔ am_K d 205 Q (am_ldI 104 L st g 1) := am_E_iload_n (by decide +kernel : am_dc 205 103 = some (.iload_n 1)) rfl rfl
theorem x_205_104   : am_E d 205 Q (104, L, .int y :: .int x :: st, g) ↔ am_E d 205 Q (105, L, .int (x * y) :: st, g) := am_E_imul (by decide +kernel : am_dc 205 104 = some (.imul)) rfl
theorem x_205_105   : am_E d 205 Q (105, L, st, g) ↔ am_K d 205 Q (am_ldI 107 L st g 5) := am_E_iload (by decide +kernel : am_dc 205 105 = some (.iload 5)) rfl
theorem x_205_107   : am_E d 205 Q (107, L, .int y :: .int x :: st, g) ↔ am_E d 205 Q (108, L, .int (x + y) :: st, g) := am_E_iadd (by decide +kernel : am_dc 205 107 = some (.iadd)) rfl
theorem x_205_108   : am_E d 205 Q (108, L, st, g) ↔ am_E d 205 Q (109, L, .int (1) :: st, g) := am_E_iconst (by decide +kernel : am_dc 205 108 = some (.iconst (1))) (by decide) rfl
theorem x_205_109   : am_E d 205 Q (109, L, v :: .int x :: .ref a :: st, g) ↔ am_kg d 205 Q 110 L st (am_sat .bastore g a x v) := am_E_bastore (by decide +kernel : am_dc 205 109 = some (.bastore)) rfl
theorem x_205_110   : am_E d 205 Q (110, L, st, g) ↔ am_K d 205 Q (am_ldA 111 L st g 0) := am_E_aload_n (by decide +kernel : am_dc 205 110 = some (.aload_n 0)) rfl rfl
theorem x_205_111   : am_E d 205 Q (111, L, .ref a :: st, g) ↔ am_kv d 205 Q 114 L st g (am_gf g a 11 2) := am_E_getfield (by decide +kernel : am_dc 205 111 = some (.getfield 13)) (by decide +kernel) rfl
theorem x_205_114   : am_E d 205 Q (114, L, st, g) ↔ am_E d 205 Q (116, L, .int (6) :: st, g) := am_E_bipush (by decide +kernel : am_dc 205 114 = some (.bipush (6))) (by decide) rfl
theorem x_205_116   : am_E d 205 Q (116, L, st, g) ↔ am_K d 205 Q (am_ldI 117 L st g 1) := am_E_iload_n (by decide +kernel : am_dc 205 116 = some (.iload_n 1)) rfl rfl
theorem x_205_117   : am_E d 205 Q (117, L, .int y :: .int x :: st, g) ↔ am_E d 205 Q (118, L, .int (x * y) :: st, g) := am_E_imul (by decide +kernel : am_dc 205 117 = some (.imul)) rfl
theorem x_205_118   : am_E d 205 Q (118, L, st, g) ↔ am_K d 205 Q (am_ldI 120 L st g 5) := am_E_iload (by decide +kernel : am_dc 205 118 = some (.iload 5)) rfl
theorem x_205_120   : am_E d 205 Q (120, L, .int y :: .int x :: st, g) ↔ am_E d 205 Q (121, L, .int (x + y) :: st, g) := am_E_iadd (by decide +kernel : am_dc 205 120 = some (.iadd)) rfl
theorem x_205_121   : am_E d 205 Q (121, L, st, g) ↔ am_K d 205 Q (am_ldI 122 L st g 2) := am_E_iload_n (by decide +kernel : am_dc 205 121 = some (.iload_n 2)) rfl rfl
theorem x_205_122   : am_E d 205 Q (122, L, v :: .int x :: .ref a :: st, g) ↔ am_kg d 205 Q 123 L st (am_sat .iastore g a x v) := am_E_iastore (by decide +kernel : am_dc 205 122 = some (.iastore)) rfl
theorem x_205_123   : am_E d 205 Q (123, L, st, g) ↔ am_K d 205 Q (am_ldA 124 L st g 0) := am_E_aload_n (by decide +kernel : am_dc 205 123 = some (.aload_n 0)) rfl rfl
theorem x_205_124   : am_E d 205 Q (124, L, .ref a :: st, g) ↔ am_kv d 205 Q 127 L st g (am_gf g a 11 3) := am_E_getfield (by decide +kernel : am_dc 205 124 = some (.getfield 17)) (by decide +kernel) rfl
theorem x_205_127   : am_E d 205 Q (127, L, st, g) ↔ am_E d 205 Q (129, L, .int (6) :: st, g) := am_E_bipush (by decide +kernel : am_dc 205 127 = some (.bipush (6))) (by decide) rfl
theorem x_205_129   : am_E d 205 Q (129, L, st, g) ↔ am_K d 205 Q (am_ldI 130 L st g 1) := am_E_iload_n (by decide +kernel : am_dc 205 129 = some (.iload_n 1)) rfl rfl
theorem x_205_130   : am_E d 205 Q (130, L, .int y :: .int x :: st, g) ↔ am_E d 205 Q (131, L, .int (x * y) :: st, g) := am_E_imul (by decide +kernel : am_dc 205 130 = some (.imul)) rfl
theorem x_205_131   : am_E d 205 Q (131, L, st, g) ↔ am_K d 205 Q (am_ldI 133 L st g 5) := am_E_iload (by decide +kernel : am_dc 205 131 = some (.iload 5)) rfl
theorem x_205_133   : am_E d 205 Q (133, L, .int y :: .int x :: st, g) ↔ am_E d 205 Q (134, L, .int (x + y) :: st, g) := am_E_iadd (by decide +kernel : am_dc 205 133 = some (.iadd)) rfl
theorem x_205_134   : am_E d 205 Q (134, L, st, g) ↔ am_K d 205 Q (am_ldI 135 L st g 3) := am_E_iload_n (by decide +kernel : am_dc 205 134 = some (.iload_n 3)) rfl rfl
theorem x_205_135   : am_E d 205 Q (135, L, v :: .int x :: .ref a :: st, g) ↔ am_kg d 205 Q 136 L st (am_sat .iastore g a x v) := am_E_iastore (by decide +kernel : am_dc 205 135 = some (.iastore)) rfl
theorem x_205_136   : am_E d 205 Q (136, L, st, g) ↔ am_K d 205 Q (am_ldA 137 L st g 0) := am_E_aload_n (by decide +kernel : am_dc 205 136 = some (.aload_n 0)) rfl rfl
theorem x_205_137   : am_E d 205 Q (137, L, st, g) ↔ am_K d 205 Q (am_ldI 138 L st g 1) := am_E_iload_n (by decide +kernel : am_dc 205 137 = some (.iload_n 1)) rfl rfl
theorem x_205_138  : am_E d 205 Q (138, L, st, g) ↔ am_K d 205 Q (am_S 205 (.invokevirtual 164) 138 L st g) := am_E_x (by decide +kernel : am_dc 205 138 = some (.invokevirtual 164))
theorem x_205_141   : am_E d 205 Q (141, L, st, g) ↔ am_K d 205 Q (am_ldA 142 L st g 0) := am_E_aload_n (by decide +kernel : am_dc 205 141 = some (.aload_n 0)) rfl rfl
theorem x_205_142  : am_E d 205 Q (142, L, st, g) ↔ am_K d 205 Q (am_S 205 (.invokevirtual 200) 142 L st g) := am_E_x (by decide +kernel : am_dc 205 142 = some (.invokevirtual 200))
theorem x_205_145   : am_E d 205 Q (145, L, st, g) ↔ am_K d 205 Q (am_ldI 147 L st g 5) := am_E_iload (by decide +kernel : am_dc 205 145 = some (.iload 5)) rfl
theorem x_205_147  : am_E d 205 Q (147, L, [.int x], g) ↔ if am_ok (FieldType.int) (.int x) = true then Q (.inl (some (.int x))) g else False := am_E_ireturn (by decide +kernel : am_dc 205 147 = some (.ireturn)) (by decide +kernel)
theorem v_205_171 : am_iv 205 171 = some (0, 192, 1) := by decide +kernel
theorem v_205_189 : am_iv 205 189 = some (1, 196, 3) := by decide +kernel
theorem v_205_192 : am_iv 205 192 = some (1, 204, 2) := by decide +kernel
theorem v_205_196 : am_iv 205 196 = some (1, 185, 4) := by decide +kernel
theorem f_205_7 : am_fl 205 7 = some (11, 1) := by decide +kernel
theorem f_205_13 : am_fl 205 13 = some (11, 2) := by decide +kernel
theorem f_205_17 : am_fl 205 17 = some (11, 3) := by decide +kernel
theorem v_205_164 : am_iv 205 164 = some (1, 179, 2) := by decide +kernel
theorem v_205_200 : am_iv 205 200 = some (1, 182, 1) := by decide +kernel
theorem t_205 : am_t 205 = some (FieldType.int) := by decide +kernel
theorem h_205 : am_h 205 = [] := by decide +kernel
theorem m_205 : am_m 205 = 6 := by decide +kernel
theorem x_206_0   : am_E d 206 Q (0, L, st, g) ↔ am_K d 206 Q (am_ldA 1 L st g 0) := am_E_aload_n (by decide +kernel : am_dc 206 0 = some (.aload_n 0)) rfl rfl
theorem x_206_1   : am_E d 206 Q (1, L, st, g) ↔ am_K d 206 Q (am_ldI 2 L st g 1) := am_E_iload_n (by decide +kernel : am_dc 206 1 = some (.iload_n 1)) rfl rfl
theorem x_206_2   : am_E d 206 Q (2, L, st, g) ↔ am_K d 206 Q (am_ldI 3 L st g 2) := am_E_iload_n (by decide +kernel : am_dc 206 2 = some (.iload_n 2)) rfl rfl
theorem x_206_3  : am_E d 206 Q (3, L, st, g) ↔ am_K d 206 Q (am_S 206 (.invokevirtual 189) 3 L st g) := am_E_x (by decide +kernel : am_dc 206 3 = some (.invokevirtual 189))
theorem x_206_6   : am_E d 206 Q (6, L, .int x :: st, g) ↔ am_E d 206 Q (am_cmp .eq x 0 27 9, L, st, g) := am_E_if (by decide +kernel : am_dc 206 6 = some (.ifCond .eq (21))) rfl rfl
theorem x_206_9   : am_E d 206 Q (9, L, st, g) ↔ am_K d 206 Q (am_ldI 10 L st g 3) := am_E_iload_n (by decide +kernel : am_dc 206 9 = some (.iload_n 3)) rfl rfl
theorem x_206_10   : am_E d 206 Q (10, L, st, g) ↔ am_E d 206 Q (11, L, .int (-1) :: st, g) := am_E_iconst (by decide +kernel : am_dc 206 10 = some (.iconst (-1))) (by decide) rfl
theorem x_206_11   : am_E d 206 Q (11, L, .int y :: .int x :: st, g) ↔ am_E d 206 Q (am_cmp .eq x y 23 14, L, st, g) := am_E_ic (by decide +kernel : am_dc 206 11 = some (.if_icmp .eq (12))) rfl rfl
theorem x_206_14   : am_E d 206 Q (14, L, st, g) ↔ am_K d 206 Q (am_ldA 15 L st g 0) := am_E_aload_n (by decide +kernel : am_dc 206 14 = some (.aload_n 0)) rfl rfl
theorem x_206_15   : am_E d 206 Q (15, L, st, g) ↔ am_K d 206 Q (am_ldI 16 L st g 1) := am_E_iload_n (by decide +kernel : am_dc 206 15 = some (.iload_n 1)) rfl rfl
theorem x_206_16   : am_E d 206 Q (16, L, st, g) ↔ am_K d 206 Q (am_ldI 17 L st g 3) := am_E_iload_n (by decide +kernel : am_dc 206 16 = some (.iload_n 3)) rfl rfl
theorem x_206_17  : am_E d 206 Q (17, L, st, g) ↔ am_K d 206 Q (am_S 206 (.invokevirtual 189) 17 L st g) := am_E_x (by decide +kernel : am_dc 206 17 = some (.invokevirtual 189))
theorem x_206_20   : am_E d 206 Q (20, L, .int x :: st, g) ↔ am_E d 206 Q (am_cmp .eq x 0 27 23, L, st, g) := am_E_if (by decide +kernel : am_dc 206 20 = some (.ifCond .eq (7))) rfl rfl
theorem x_206_23   : am_E d 206 Q (23, L, st, g) ↔ am_E d 206 Q (24, L, .int (1) :: st, g) := am_E_iconst (by decide +kernel : am_dc 206 23 = some (.iconst (1))) (by decide) rfl
theorem x_206_24   : am_E d 206 Q (24, L, st, g) ↔ am_E d 206 Q (28, L, st, g) := am_E_gt (by decide +kernel : am_dc 206 24 = some (.goto (4))) rfl rfl
theorem x_206_27   : am_E d 206 Q (27, L, st, g) ↔ am_E d 206 Q (28, L, .int (0) :: st, g) := am_E_iconst (by decide +kernel : am_dc 206 27 = some (.iconst (0))) (by decide) rfl
theorem x_206_28   : am_E d 206 Q (28, L, st, g) ↔ am_K d 206 Q (am_stI 30 L st g 4) := am_E_istore (by decide +kernel : am_dc 206 28 = some (.istore 4)) rfl
theorem x_206_30   : am_E d 206 Q (30, L, st, g) ↔ am_K d 206 Q (am_ldA 31 L st g 0) := am_E_aload_n (by decide +kernel : am_dc 206 30 = some (.aload_n 0)) rfl rfl
theorem x_206_31   : am_E d 206 Q (31, L, st, g) ↔ am_K d 206 Q (am_ldI 33 L st g 4) := am_E_iload (by decide +kernel : am_dc 206 31 = some (.iload 4)) rfl
theorem x_206_33   : am_E d 206 Q (33, L, st, g) ↔ am_K d 206 Q (am_ldI 35 L st g 4) := am_E_iload (by decide +kernel : am_dc 206 33 = some (.iload 4)) rfl
theorem x_206_35   : am_E d 206 Q (35, L, .int x :: st, g) ↔ am_E d 206 Q (am_cmp .eq x 0 53 38, L, st, g) := am_E_if (by decide +kernel : am_dc 206 35 = some (.ifCond .eq (18))) rfl rfl
theorem x_206_38   : am_E d 206 Q (38, L, st, g) ↔ am_K d 206 Q (am_ldI 39 L st g 3) := am_E_iload_n (by decide +kernel : am_dc 206 38 = some (.iload_n 3)) rfl rfl
theorem x_206_39   : am_E d 206 Q (39, L, st, g) ↔ am_E d 206 Q (40, L, .int (-1) :: st, g) := am_E_iconst (by decide +kernel : am_dc 206 39 = some (.iconst (-1))) (by decide) rfl
theorem x_206_40   : am_E d 206 Q (40, L, .int y :: .int x :: st, g) ↔ am_E d 206 Q (am_cmp .eq x y 53 43, L, st, g) := am_E_ic (by decide +kernel : am_dc 206 40 = some (.if_icmp .eq (13))) rfl rfl
theorem x_206_43   : am_E d 206 Q (43, L, st, g) ↔ am_K d 206 Q (am_ldA 44 L st g 0) := am_E_aload_n (by decide +kernel : am_dc 206 43 = some (.aload_n 0)) rfl rfl
theorem x_206_44   : am_E d 206 Q (44, L, st, g) ↔ am_K d 206 Q (am_ldI 45 L st g 1) := am_E_iload_n (by decide +kernel : am_dc 206 44 = some (.iload_n 1)) rfl rfl
theorem x_206_45   : am_E d 206 Q (45, L, st, g) ↔ am_K d 206 Q (am_ldI 46 L st g 3) := am_E_iload_n (by decide +kernel : am_dc 206 45 = some (.iload_n 3)) rfl rfl
theorem x_206_46   : am_E d 206 Q (46, L, st, g) ↔ am_K d 206 Q (am_ldI 47 L st g 2) := am_E_iload_n (by decide +kernel : am_dc 206 46 = some (.iload_n 2)) rfl rfl
theorem x_206_47  : am_E d 206 Q (47, L, st, g) ↔ am_K d 206 Q (am_S 206 (.invokevirtual 203) 47 L st g) := am_E_x (by decide +kernel : am_dc 206 47 = some (.invokevirtual 203))
theorem x_206_50   : am_E d 206 Q (50, L, .int x :: st, g) ↔ am_E d 206 Q (am_cmp .ne x 0 57 53, L, st, g) := am_E_if (by decide +kernel : am_dc 206 50 = some (.ifCond .ne (7))) rfl rfl
theorem x_206_53   : am_E d 206 Q (53, L, st, g) ↔ am_E d 206 Q (54, L, .int (1) :: st, g) := am_E_iconst (by decide +kernel : am_dc 206 53 = some (.iconst (1))) (by decide) rfl
theorem x_206_54   : am_E d 206 Q (54, L, st, g) ↔ am_E d 206 Q (58, L, st, g) := am_E_gt (by decide +kernel : am_dc 206 54 = some (.goto (4))) rfl rfl
theorem x_206_57   : am_E d 206 Q (57, L, st, g) ↔ am_E d 206 Q (58, L, .int (0) :: st, g) := am_E_iconst (by decide +kernel : am_dc 206 57 = some (.iconst (0))) (by decide) rfl
theorem x_206_58   : am_E d 206 Q (58, L, st, g) ↔ am_E d 206 Q (59, L, .int (1) :: st, g) := am_E_iconst (by decide +kernel : am_dc 206 58 = some (.iconst (1))) (by decide) rfl
theorem x_206_59  : am_E d 206 Q (59, L, st, g) ↔ am_K d 206 Q (am_S 206 (.invokevirtual 196) 59 L st g) := am_E_x (by decide +kernel : am_dc 206 59 = some (.invokevirtual 196))
theorem x_206_62   : am_E d 206 Q (62, L, .int x :: st, g) ↔ am_E d 206 Q (am_cmp .ne x 0 67 65, L, st, g) := am_E_if (by decide +kernel : am_dc 206 62 = some (.ifCond .ne (5))) rfl rfl
theorem x_206_65   : am_E d 206 Q (65, L, st, g) ↔ am_E d 206 Q (66, L, .int (0) :: st, g) := am_E_iconst (by decide +kernel : am_dc 206 65 = some (.iconst (0))) (by decide) rfl
theorem x_206_66  : am_E d 206 Q (66, L, [.int x], g) ↔ if am_ok (FieldType.int) (.int x) = true then Q (.inl (some (.int x))) g else False := am_E_ireturn (by decide +kernel : am_dc 206 66 = some (.ireturn)) (by decide +kernel)
theorem x_206_67   : am_E d 206 Q (67, L, st, g) ↔ am_K d 206 Q (am_ldA 68 L st g 0) := am_E_aload_n (by decide +kernel : am_dc 206 67 = some (.aload_n 0)) rfl rfl
theorem x_206_68   : am_E d 206 Q (68, L, .ref a :: st, g) ↔ am_kv d 206 Q 71 L st g (am_gf g a 11 2) := am_E_getfield (by decide +kernel : am_dc 206 68 = some (.getfield 13)) (by decide +kernel) rfl
theorem x_206_71   : am_E d 206 Q (71, L, st, g) ↔ am_E d 206 Q (73, L, .int (6) :: st, g) := am_E_bipush (by decide +kernel : am_dc 206 71 = some (.bipush (6))) (by decide) rfl
theorem x_206_73   : am_E d 206 Q (73, L, st, g) ↔ am_K d 206 Q (am_ldI 74 L st g 1) := am_E_iload_n (by decide +kernel : am_dc 206 73 = some (.iload_n 1)) rfl rfl
theorem x_206_74   : am_E d 206 Q (74, L, .int y :: .int x :: st, g) ↔ am_E d 206 Q (75, L, .int (x * y) :: st, g) := am_E_imul (by decide +kernel : am_dc 206 74 = some (.imul)) rfl
theorem x_206_75   : am_E d 206 Q (75, L, st, g) ↔ am_K d 206 Q (am_ldI 76 L st g 2) := am_E_iload_n (by decide +kernel : am_dc 206 75 = some (.iload_n 2)) rfl rfl
theorem x_206_76   : am_E d 206 Q (76, L, .int y :: .int x :: st, g) ↔ am_E d 206 Q (77, L, .int (x + y) :: st, g) := am_E_iadd (by decide +kernel : am_dc 206 76 = some (.iadd)) rfl
theorem x_206_77   : am_E d 206 Q (77, L, st, g) ↔ am_K d 206 Q (am_ldI 78 L st g 3) := am_E_iload_n (by decide +kernel : am_dc 206 77 = some (.iload_n 3)) rfl rfl
theorem x_206_78   : am_E d 206 Q (78, L, v :: .int x :: .ref a :: st, g) ↔ am_kg d 206 Q 79 L st (am_sat .iastore g a x v) := am_E_iastore (by decide +kernel : am_dc 206 78 = some (.iastore)) rfl
theorem x_206_79   : am_E d 206 Q (79, L, st, g) ↔ am_K d 206 Q (am_ldA 80 L st g 0) := am_E_aload_n (by decide +kernel : am_dc 206 79 = some (.aload_n 0)) rfl rfl
theorem x_206_80   : am_E d 206 Q (80, L, st, g) ↔ am_K d 206 Q (am_ldI 81 L st g 1) := am_E_iload_n (by decide +kernel : am_dc 206 80 = some (.iload_n 1)) rfl rfl
theorem x_206_81  : am_E d 206 Q (81, L, st, g) ↔ am_K d 206 Q (am_S 206 (.invokevirtual 164) 81 L st g) := am_E_x (by decide +kernel : am_dc 206 81 = some (.invokevirtual 164))
theorem x_206_84   : am_E d 206 Q (84, L, st, g) ↔ am_K d 206 Q (am_ldA 85 L st g 0) := am_E_aload_n (by decide +kernel : am_dc 206 84 = some (.aload_n 0)) rfl rfl
theorem x_206_85  : am_E d 206 Q (85, L, st, g) ↔ am_K d 206 Q (am_S 206 (.invokevirtual 200) 85 L st g) := am_E_x (by decide +kernel : am_dc 206 85 = some (.invokevirtual 200))
theorem x_206_88   : am_E d 206 Q (88, L, st, g) ↔ am_K d 206 Q (am_ldA 89 L st g 0) := am_E_aload_n (by decide +kernel : am_dc 206 88 = some (.aload_n 0)) rfl rfl
theorem x_206_89   : am_E d 206 Q (89, L, st, g) ↔ am_K d 206 Q (am_ldI 90 L st g 1) := am_E_iload_n (by decide +kernel : am_dc 206 89 = some (.iload_n 1)) rfl rfl
theorem x_206_90   : am_E d 206 Q (90, L, st, g) ↔ am_K d 206 Q (am_ldI 91 L st g 2) := am_E_iload_n (by decide +kernel : am_dc 206 90 = some (.iload_n 2)) rfl rfl
theorem x_206_91  : am_E d 206 Q (91, L, st, g) ↔ am_K d 206 Q (am_S 206 (.invokevirtual 207) 91 L st g) := am_E_x (by decide +kernel : am_dc 206 91 = some (.invokevirtual 207))
theorem x_206_94  : am_E d 206 Q (94, L, [.int x], g) ↔ if am_ok (FieldType.int) (.int x) = true then Q (.inl (some (.int x))) g else False := am_E_ireturn (by decide +kernel : am_dc 206 94 = some (.ireturn)) (by decide +kernel)
theorem v_206_189 : am_iv 206 189 = some (1, 196, 3) := by decide +kernel
theorem v_206_203 : am_iv 206 203 = some (1, 238, 4) := by decide +kernel
theorem v_206_196 : am_iv 206 196 = some (1, 185, 4) := by decide +kernel
theorem f_206_13 : am_fl 206 13 = some (11, 2) := by decide +kernel
theorem v_206_164 : am_iv 206 164 = some (1, 179, 2) := by decide +kernel
theorem v_206_200 : am_iv 206 200 = some (1, 182, 1) := by decide +kernel
theorem v_206_207 : am_iv 206 207 = some (1, 168, 3) := by decide +kernel
theorem t_206 : am_t 206 = some (FieldType.int) := by decide +kernel
theorem h_206 : am_h 206 = [] := by decide +kernel
theorem m_206 : am_m 206 = 5 := by decide +kernel
theorem x_207_0   : am_E d 207 Q (0, L, st, g) ↔ am_K d 207 Q (am_ldI 1 L st g 1) := am_E_iload_n (by decide +kernel : am_dc 207 0 = some (.iload_n 1)) rfl rfl
theorem x_207_1   : am_E d 207 Q (1, L, st, g) ↔ am_K d 207 Q (am_ldI 2 L st g 3) := am_E_iload_n (by decide +kernel : am_dc 207 1 = some (.iload_n 3)) rfl rfl
theorem x_207_2   : am_E d 207 Q (2, L, st, g) ↔ am_K d 207 Q (am_ldI 3 L st g 1) := am_E_iload_n (by decide +kernel : am_dc 207 2 = some (.iload_n 1)) rfl rfl
theorem x_207_3   : am_E d 207 Q (3, L, st, g) ↔ am_K d 207 Q (am_ldI 4 L st g 2) := am_E_iload_n (by decide +kernel : am_dc 207 3 = some (.iload_n 2)) rfl rfl
theorem x_207_4  : am_E d 207 Q (4, L, st, g) ↔ am_K d 207 Q (am_S 207 (.invokestatic 217) 4 L st g) := am_E_x (by decide +kernel : am_dc 207 4 = some (.invokestatic 217))
theorem x_207_7   : am_E d 207 Q (7, L, .int y :: .int x :: st, g) ↔ am_E d 207 Q (8, L, .int (x - y) :: st, g) := am_E_isub (by decide +kernel : am_dc 207 7 = some (.isub)) rfl
theorem x_207_8   : am_E d 207 Q (8, L, st, g) ↔ am_K d 207 Q (am_ldI 9 L st g 2) := am_E_iload_n (by decide +kernel : am_dc 207 8 = some (.iload_n 2)) rfl rfl
theorem x_207_9   : am_E d 207 Q (9, L, .int x :: st, g) ↔ am_E d 207 Q (am_cmp .ne x 0 16 12, L, st, g) := am_E_if (by decide +kernel : am_dc 207 9 = some (.ifCond .ne (7))) rfl rfl
theorem x_207_12   : am_E d 207 Q (12, L, st, g) ↔ am_E d 207 Q (13, L, .int (1) :: st, g) := am_E_iconst (by decide +kernel : am_dc 207 12 = some (.iconst (1))) (by decide) rfl
theorem x_207_13   : am_E d 207 Q (13, L, st, g) ↔ am_E d 207 Q (28, L, st, g) := am_E_gt (by decide +kernel : am_dc 207 13 = some (.goto (15))) rfl rfl
theorem x_207_16   : am_E d 207 Q (16, L, st, g) ↔ am_K d 207 Q (am_ldI 17 L st g 2) := am_E_iload_n (by decide +kernel : am_dc 207 16 = some (.iload_n 2)) rfl rfl
theorem x_207_17   : am_E d 207 Q (17, L, st, g) ↔ am_E d 207 Q (18, L, .int (1) :: st, g) := am_E_iconst (by decide +kernel : am_dc 207 17 = some (.iconst (1))) (by decide) rfl
theorem x_207_18   : am_E d 207 Q (18, L, .int y :: .int x :: st, g) ↔ am_E d 207 Q (am_cmp .ne x y 26 21, L, st, g) := am_E_ic (by decide +kernel : am_dc 207 18 = some (.if_icmp .ne (8))) rfl rfl
theorem x_207_21   : am_E d 207 Q (21, L, st, g) ↔ am_E d 207 Q (23, L, .int (6) :: st, g) := am_E_bipush (by decide +kernel : am_dc 207 21 = some (.bipush (6))) (by decide) rfl
theorem x_207_23   : am_E d 207 Q (23, L, st, g) ↔ am_E d 207 Q (28, L, st, g) := am_E_gt (by decide +kernel : am_dc 207 23 = some (.goto (5))) rfl rfl
theorem x_207_26   : am_E d 207 Q (26, L, st, g) ↔ am_E d 207 Q (28, L, .int (36) :: st, g) := am_E_bipush (by decide +kernel : am_dc 207 26 = some (.bipush (36))) (by decide) rfl
theorem x_207_28   : am_E d 207 Q (28, L, .int y :: .int x :: st, g) ↔ am_E d 207 Q (29, L, .int (x * y) :: st, g) := am_E_imul (by decide +kernel : am_dc 207 28 = some (.imul)) rfl
theorem x_207_29   : am_E d 207 Q (29, L, .int y :: .int x :: st, g) ↔ am_E d 207 Q (30, L, .int (x + y) :: st, g) := am_E_iadd (by decide +kernel : am_dc 207 29 = some (.iadd)) rfl
theorem x_207_30  : am_E d 207 Q (30, L, [.int x], g) ↔ if am_ok (FieldType.int) (.int x) = true then Q (.inl (some (.int x))) g else False := am_E_ireturn (by decide +kernel : am_dc 207 30 = some (.ireturn)) (by decide +kernel)
theorem v_207_217 : am_iv 207 217 = some (0, 213, 2) := by decide +kernel
theorem t_207 : am_t 207 = some (FieldType.int) := by decide +kernel
theorem h_207 : am_h 207 = [] := by decide +kernel
theorem m_207 : am_m 207 = 4 := by decide +kernel
theorem x_208_0   : am_E d 208 Q (0, L, st, g) ↔ am_K d 208 Q (am_ldA 1 L st g 0) := am_E_aload_n (by decide +kernel : am_dc 208 0 = some (.aload_n 0)) rfl rfl
theorem x_208_1   : am_E d 208 Q (1, L, st, g) ↔ am_K d 208 Q (am_ldI 2 L st g 1) := am_E_iload_n (by decide +kernel : am_dc 208 1 = some (.iload_n 1)) rfl rfl
theorem x_208_2  : am_E d 208 Q (2, L, st, g) ↔ am_K d 208 Q (am_S 208 (.invokevirtual 321) 2 L st g) := am_E_x (by decide +kernel : am_dc 208 2 = some (.invokevirtual 321))
theorem x_208_5   : am_E d 208 Q (5, L, .int x :: st, g) ↔ am_E d 208 Q (am_cmp .eq x 0 19 8, L, st, g) := am_E_if (by decide +kernel : am_dc 208 5 = some (.ifCond .eq (14))) rfl rfl
theorem x_208_8   : am_E d 208 Q (8, L, st, g) ↔ am_K d 208 Q (am_ldA 9 L st g 0) := am_E_aload_n (by decide +kernel : am_dc 208 8 = some (.aload_n 0)) rfl rfl
theorem x_208_9   : am_E d 208 Q (9, L, st, g) ↔ am_E d 208 Q (10, L, .int (2) :: st, g) := am_E_iconst (by decide +kernel : am_dc 208 9 = some (.iconst (2))) (by decide) rfl
theorem x_208_10   : am_E d 208 Q (10, L, st, g) ↔ am_E d 208 Q (11, L, .long (0) :: st, g) := am_E_lconst (by decide +kernel : am_dc 208 10 = some (.lconst 0)) (by decide) rfl
theorem x_208_11  : am_E d 208 Q (11, L, st, g) ↔ am_K d 208 Q (am_S 208 (.invokevirtual 324) 11 L st g) := am_E_x (by decide +kernel : am_dc 208 11 = some (.invokevirtual 324))
theorem x_208_14   : am_E d 208 Q (14, L, st, g) ↔ am_K d 208 Q (am_ldA 15 L st g 0) := am_E_aload_n (by decide +kernel : am_dc 208 14 = some (.aload_n 0)) rfl rfl
theorem x_208_15  : am_E d 208 Q (15, L, st, g) ↔ am_K d 208 Q (am_S 208 (.invokevirtual 328) 15 L st g) := am_E_x (by decide +kernel : am_dc 208 15 = some (.invokevirtual 328))
theorem x_208_18  : am_E d 208 Q (18, L, [], g) ↔ Q (.inl none) g := am_E_return (by decide +kernel : am_dc 208 18 = some (.return_)) (by decide +kernel)
theorem x_208_19   : am_E d 208 Q (19, L, st, g) ↔ am_K d 208 Q (am_ldA 20 L st g 0) := am_E_aload_n (by decide +kernel : am_dc 208 19 = some (.aload_n 0)) rfl rfl
theorem x_208_20   : am_E d 208 Q (20, L, v :: st, g) ↔ if v.category = 1 then am_E d 208 Q (21, L, v :: v :: st, g) else False := am_E_dup (by decide +kernel : am_dc 208 20 = some (.dup)) rfl
theorem x_208_21   : am_E d 208 Q (21, L, .ref a :: st, g) ↔ am_kv d 208 Q 24 L st g (am_gf g a 11 49) := am_E_getfield (by decide +kernel : am_dc 208 21 = some (.getfield 331)) (by decide +kernel) rfl
theorem x_208_24   : am_E d 208 Q (24, L, st, g) ↔ am_E d 208 Q (25, L, .int (1) :: st, g) := am_E_iconst (by decide +kernel : am_dc 208 24 = some (.iconst (1))) (by decide) rfl
theorem x_208_25   : am_E d 208 Q (25, L, .int y :: .int x :: st, g) ↔ am_E d 208 Q (26, L, .int (x + y) :: st, g) := am_E_iadd (by decide +kernel : am_dc 208 25 = some (.iadd)) rfl
theorem x_208_26   (hok : (am_ok (am_ft 11 49).1 v && (!(am_ft 11 49).2 || (am_ini 208 && am_co 11 == am_o 208)) && decide (11 < 13)) = true) : am_E d 208 Q (26, L, v :: .ref a :: st, g) ↔ am_kg d 208 Q 29 L st (am_pf g a 11 49 v) := am_E_putfield (by decide +kernel : am_dc 208 26 = some (.putfield 331)) (by decide +kernel) rfl hok
theorem x_208_29   : am_E d 208 Q (29, L, st, g) ↔ am_K d 208 Q (am_ldA 30 L st g 0) := am_E_aload_n (by decide +kernel : am_dc 208 29 = some (.aload_n 0)) rfl rfl
theorem x_208_30   : am_E d 208 Q (30, L, .ref a :: st, g) ↔ am_kv d 208 Q 33 L st g (am_gf g a 11 49) := am_E_getfield (by decide +kernel : am_dc 208 30 = some (.getfield 331)) (by decide +kernel) rfl
theorem x_208_33   : am_E d 208 Q (33, L, st, g) ↔ am_K d 208 Q (am_ldA 34 L st g 0) := am_E_aload_n (by decide +kernel : am_dc 208 33 = some (.aload_n 0)) rfl rfl
theorem x_208_34   : am_E d 208 Q (34, L, .ref a :: st, g) ↔ am_kv d 208 Q 37 L st g (am_gf g a 11 65) := am_E_getfield (by decide +kernel : am_dc 208 34 = some (.getfield 152)) (by decide +kernel) rfl
theorem x_208_37   : am_E d 208 Q (37, L, .int y :: .int x :: st, g) ↔ am_E d 208 Q (am_cmp .gt x y 49 40, L, st, g) := am_E_ic (by decide +kernel : am_dc 208 37 = some (.if_icmp .gt (12))) rfl rfl
theorem x_208_40   : am_E d 208 Q (40, L, st, g) ↔ am_K d 208 Q (am_ldA 41 L st g 0) := am_E_aload_n (by decide +kernel : am_dc 208 40 = some (.aload_n 0)) rfl rfl
theorem x_208_41   : am_E d 208 Q (41, L, .ref a :: st, g) ↔ am_kv d 208 Q 44 L st g (am_gf g a 11 47) := am_E_getfield (by decide +kernel : am_dc 208 41 = some (.getfield 315)) (by decide +kernel) rfl
theorem x_208_44   : am_E d 208 Q (44, L, st, g) ↔ am_E d 208 Q (46, L, .int (20) :: st, g) := am_E_bipush (by decide +kernel : am_dc 208 44 = some (.bipush (20))) (by decide) rfl
theorem x_208_46   : am_E d 208 Q (46, L, .int y :: .int x :: st, g) ↔ am_E d 208 Q (am_cmp .ne x y 55 49, L, st, g) := am_E_ic (by decide +kernel : am_dc 208 46 = some (.if_icmp .ne (9))) rfl rfl
theorem x_208_49   : am_E d 208 Q (49, L, st, g) ↔ am_K d 208 Q (am_ldA 50 L st g 0) := am_E_aload_n (by decide +kernel : am_dc 208 49 = some (.aload_n 0)) rfl rfl
theorem x_208_50   : am_E d 208 Q (50, L, st, g) ↔ am_E d 208 Q (51, L, .int (1) :: st, g) := am_E_iconst (by decide +kernel : am_dc 208 50 = some (.iconst (1))) (by decide) rfl
theorem x_208_51   (hok : (am_ok (am_ft 11 48).1 v && (!(am_ft 11 48).2 || (am_ini 208 && am_co 11 == am_o 208)) && decide (11 < 13)) = true) : am_E d 208 Q (51, L, v :: .ref a :: st, g) ↔ am_kg d 208 Q 54 L st (am_pf g a 11 48 v) := am_E_putfield (by decide +kernel : am_dc 208 51 = some (.putfield 334)) (by decide +kernel) rfl hok
theorem x_208_54  : am_E d 208 Q (54, L, [], g) ↔ Q (.inl none) g := am_E_return (by decide +kernel : am_dc 208 54 = some (.return_)) (by decide +kernel)
theorem x_208_55   : am_E d 208 Q (55, L, st, g) ↔ am_K d 208 Q (am_ldA 56 L st g 0) := am_E_aload_n (by decide +kernel : am_dc 208 55 = some (.aload_n 0)) rfl rfl
theorem x_208_56   : am_E d 208 Q (56, L, st, g) ↔ am_K d 208 Q (am_ldI 57 L st g 1) := am_E_iload_n (by decide +kernel : am_dc 208 56 = some (.iload_n 1)) rfl rfl
theorem x_208_57  : am_E d 208 Q (57, L, st, g) ↔ am_K d 208 Q (am_S 208 (.invokevirtual 338) 57 L st g) := am_E_x (by decide +kernel : am_dc 208 57 = some (.invokevirtual 338))
theorem x_208_60   : am_E d 208 Q (60, L, .int x :: st, g) ↔ am_E d 208 Q (am_cmp .eq x 0 75 63, L, st, g) := am_E_if (by decide +kernel : am_dc 208 60 = some (.ifCond .eq (15))) rfl rfl
theorem x_208_63   : am_E d 208 Q (63, L, st, g) ↔ am_K d 208 Q (am_ldA 64 L st g 0) := am_E_aload_n (by decide +kernel : am_dc 208 63 = some (.aload_n 0)) rfl rfl
theorem x_208_64   : am_E d 208 Q (64, L, st, g) ↔ am_K d 208 Q (am_ldI 65 L st g 1) := am_E_iload_n (by decide +kernel : am_dc 208 64 = some (.iload_n 1)) rfl rfl
theorem x_208_65   : am_E d 208 Q (65, L, st, g) ↔ am_K d 208 Q (am_ldA 66 L st g 0) := am_E_aload_n (by decide +kernel : am_dc 208 65 = some (.aload_n 0)) rfl rfl
theorem x_208_66   : am_E d 208 Q (66, L, .ref a :: st, g) ↔ am_kv d 208 Q 69 L st g (am_gf g a 11 46) := am_E_getfield (by decide +kernel : am_dc 208 66 = some (.getfield 341)) (by decide +kernel) rfl
theorem x_208_69  : am_E d 208 Q (69, L, st, g) ↔ am_K d 208 Q (am_S 208 (.invokevirtual 344) 69 L st g) := am_E_x (by decide +kernel : am_dc 208 69 = some (.invokevirtual 344))
theorem x_208_72   : am_E d 208 Q (72, L, st, g) ↔ am_E d 208 Q (76, L, st, g) := am_E_gt (by decide +kernel : am_dc 208 72 = some (.goto (4))) rfl rfl
theorem x_208_75   : am_E d 208 Q (75, L, st, g) ↔ am_E d 208 Q (76, L, .int (-1) :: st, g) := am_E_iconst (by decide +kernel : am_dc 208 75 = some (.iconst (-1))) (by decide) rfl
theorem x_208_76   : am_E d 208 Q (76, L, st, g) ↔ am_K d 208 Q (am_stI 77 L st g 2) := am_E_istore_n (by decide +kernel : am_dc 208 76 = some (.istore_n 2)) rfl rfl
theorem x_208_77   : am_E d 208 Q (77, L, st, g) ↔ am_K d 208 Q (am_ldI 78 L st g 2) := am_E_iload_n (by decide +kernel : am_dc 208 77 = some (.iload_n 2)) rfl rfl
theorem x_208_78   : am_E d 208 Q (78, L, .int x :: st, g) ↔ am_E d 208 Q (am_cmp .lt x 0 85 81, L, st, g) := am_E_if (by decide +kernel : am_dc 208 78 = some (.ifCond .lt (7))) rfl rfl
theorem x_208_81   : am_E d 208 Q (81, L, st, g) ↔ am_E d 208 Q (82, L, .int (-1) :: st, g) := am_E_iconst (by decide +kernel : am_dc 208 81 = some (.iconst (-1))) (by decide) rfl
theorem x_208_82   : am_E d 208 Q (82, L, st, g) ↔ am_E d 208 Q (90, L, st, g) := am_E_gt (by decide +kernel : am_dc 208 82 = some (.goto (8))) rfl rfl
theorem x_208_85   : am_E d 208 Q (85, L, st, g) ↔ am_K d 208 Q (am_ldA 86 L st g 0) := am_E_aload_n (by decide +kernel : am_dc 208 85 = some (.aload_n 0)) rfl rfl
theorem x_208_86   : am_E d 208 Q (86, L, st, g) ↔ am_K d 208 Q (am_ldI 87 L st g 1) := am_E_iload_n (by decide +kernel : am_dc 208 86 = some (.iload_n 1)) rfl rfl
theorem x_208_87  : am_E d 208 Q (87, L, st, g) ↔ am_K d 208 Q (am_S 208 (.invokevirtual 347) 87 L st g) := am_E_x (by decide +kernel : am_dc 208 87 = some (.invokevirtual 347))
theorem x_208_90   : am_E d 208 Q (90, L, st, g) ↔ am_K d 208 Q (am_stI 91 L st g 3) := am_E_istore_n (by decide +kernel : am_dc 208 90 = some (.istore_n 3)) rfl rfl
theorem x_208_91   : am_E d 208 Q (91, L, st, g) ↔ am_K d 208 Q (am_ldA 92 L st g 0) := am_E_aload_n (by decide +kernel : am_dc 208 91 = some (.aload_n 0)) rfl rfl
theorem x_208_92   : am_E d 208 Q (92, L, st, g) ↔ am_K d 208 Q (am_ldI 93 L st g 1) := am_E_iload_n (by decide +kernel : am_dc 208 92 = some (.iload_n 1)) rfl rfl
theorem x_208_93  : am_E d 208 Q (93, L, st, g) ↔ am_K d 208 Q (am_S 208 (.invokevirtual 350) 93 L st g) := am_E_x (by decide +kernel : am_dc 208 93 = some (.invokevirtual 350))
theorem x_208_96   : am_E d 208 Q (96, L, st, g) ↔ am_K d 208 Q (am_stI 98 L st g 4) := am_E_istore (by decide +kernel : am_dc 208 96 = some (.istore 4)) rfl
theorem x_208_98   : am_E d 208 Q (98, L, st, g) ↔ am_K d 208 Q (am_ldI 99 L st g 2) := am_E_iload_n (by decide +kernel : am_dc 208 98 = some (.iload_n 2)) rfl rfl
theorem x_208_99   : am_E d 208 Q (99, L, .int x :: st, g) ↔ am_E d 208 Q (am_cmp .lt x 0 127 102, L, st, g) := am_E_if (by decide +kernel : am_dc 208 99 = some (.ifCond .lt (28))) rfl rfl
theorem x_208_102   : am_E d 208 Q (102, L, st, g) ↔ am_K d 208 Q (am_ldA 103 L st g 0) := am_E_aload_n (by decide +kernel : am_dc 208 102 = some (.aload_n 0)) rfl rfl
theorem x_208_103   : am_E d 208 Q (103, L, st, g) ↔ am_E d 208 Q (104, L, .int (0) :: st, g) := am_E_iconst (by decide +kernel : am_dc 208 103 = some (.iconst (0))) (by decide) rfl
theorem x_208_104   : am_E d 208 Q (104, L, st, g) ↔ am_K d 208 Q (am_ldA 105 L st g 0) := am_E_aload_n (by decide +kernel : am_dc 208 104 = some (.aload_n 0)) rfl rfl
theorem x_208_105   : am_E d 208 Q (105, L, .ref a :: st, g) ↔ am_kv d 208 Q 108 L st g (am_gf g a 11 10) := am_E_getfield (by decide +kernel : am_dc 208 105 = some (.getfield 39)) (by decide +kernel) rfl
theorem x_208_108   : am_E d 208 Q (108, L, st, g) ↔ am_E d 208 Q (111, L, .int (216) :: st, g) := am_E_sipush (by decide +kernel : am_dc 208 108 = some (.sipush (216))) (by decide) rfl
theorem x_208_111   : am_E d 208 Q (111, L, st, g) ↔ am_K d 208 Q (am_ldI 112 L st g 2) := am_E_iload_n (by decide +kernel : am_dc 208 111 = some (.iload_n 2)) rfl rfl
theorem x_208_112   : am_E d 208 Q (112, L, .int y :: .int x :: st, g) ↔ am_E d 208 Q (113, L, .int (x * y) :: st, g) := am_E_imul (by decide +kernel : am_dc 208 112 = some (.imul)) rfl
theorem x_208_113   : am_E d 208 Q (113, L, st, g) ↔ am_K d 208 Q (am_ldI 114 L st g 1) := am_E_iload_n (by decide +kernel : am_dc 208 113 = some (.iload_n 1)) rfl rfl
theorem x_208_114   : am_E d 208 Q (114, L, .int y :: .int x :: st, g) ↔ am_E d 208 Q (115, L, .int (x + y) :: st, g) := am_E_iadd (by decide +kernel : am_dc 208 114 = some (.iadd)) rfl
theorem x_208_115   : am_E d 208 Q (115, L, .int x :: .ref a :: st, g) ↔ am_kv d 208 Q 116 L st g (am_iat .iaload g a x) := am_E_iaload (by decide +kernel : am_dc 208 115 = some (.iaload)) rfl
theorem x_208_116   : am_E d 208 Q (116, L, .int x :: st, g) ↔ am_E d 208 Q (117, L, .long x.toInt64 :: st, g) := am_E_i2l (by decide +kernel : am_dc 208 116 = some (.i2l)) rfl
theorem x_208_117  : am_E d 208 Q (117, L, st, g) ↔ am_K d 208 Q (am_S 208 (.invokevirtual 324) 117 L st g) := am_E_x (by decide +kernel : am_dc 208 117 = some (.invokevirtual 324))
theorem x_208_120   : am_E d 208 Q (120, L, st, g) ↔ am_K d 208 Q (am_ldA 121 L st g 0) := am_E_aload_n (by decide +kernel : am_dc 208 120 = some (.aload_n 0)) rfl rfl
theorem x_208_121  : am_E d 208 Q (121, L, st, g) ↔ am_K d 208 Q (am_S 208 (.invokevirtual 328) 121 L st g) := am_E_x (by decide +kernel : am_dc 208 121 = some (.invokevirtual 328))
theorem x_208_124   : am_E d 208 Q (124, L, st, g) ↔ am_E d 208 Q (187, L, st, g) := am_E_gt (by decide +kernel : am_dc 208 124 = some (.goto (63))) rfl rfl
theorem x_208_127   : am_E d 208 Q (127, L, st, g) ↔ am_K d 208 Q (am_ldI 128 L st g 3) := am_E_iload_n (by decide +kernel : am_dc 208 127 = some (.iload_n 3)) rfl rfl
theorem x_208_128   : am_E d 208 Q (128, L, .int x :: st, g) ↔ am_E d 208 Q (am_cmp .lt x 0 141 131, L, st, g) := am_E_if (by decide +kernel : am_dc 208 128 = some (.ifCond .lt (13))) rfl rfl
theorem x_208_131   : am_E d 208 Q (131, L, st, g) ↔ am_K d 208 Q (am_ldA 132 L st g 0) := am_E_aload_n (by decide +kernel : am_dc 208 131 = some (.aload_n 0)) rfl rfl
theorem x_208_132   : am_E d 208 Q (132, L, st, g) ↔ am_K d 208 Q (am_ldI 133 L st g 1) := am_E_iload_n (by decide +kernel : am_dc 208 132 = some (.iload_n 1)) rfl rfl
theorem x_208_133   : am_E d 208 Q (133, L, st, g) ↔ am_K d 208 Q (am_ldI 134 L st g 3) := am_E_iload_n (by decide +kernel : am_dc 208 133 = some (.iload_n 3)) rfl rfl
theorem x_208_134   : am_E d 208 Q (134, L, st, g) ↔ am_E d 208 Q (135, L, .int (-1) :: st, g) := am_E_iconst (by decide +kernel : am_dc 208 134 = some (.iconst (-1))) (by decide) rfl
theorem x_208_135  : am_E d 208 Q (135, L, st, g) ↔ am_K d 208 Q (am_S 208 (.invokevirtual 353) 135 L st g) := am_E_x (by decide +kernel : am_dc 208 135 = some (.invokevirtual 353))
theorem x_208_138   : am_E d 208 Q (138, L, st, g) ↔ am_E d 208 Q (187, L, st, g) := am_E_gt (by decide +kernel : am_dc 208 138 = some (.goto (49))) rfl rfl
theorem x_208_141   : am_E d 208 Q (141, L, st, g) ↔ am_K d 208 Q (am_ldI 143 L st g 4) := am_E_iload (by decide +kernel : am_dc 208 141 = some (.iload 4)) rfl
theorem x_208_143   : am_E d 208 Q (143, L, .int x :: st, g) ↔ am_E d 208 Q (am_cmp .lt x 0 166 146, L, st, g) := am_E_if (by decide +kernel : am_dc 208 143 = some (.ifCond .lt (23))) rfl rfl
theorem x_208_146   : am_E d 208 Q (146, L, st, g) ↔ am_K d 208 Q (am_ldA 147 L st g 0) := am_E_aload_n (by decide +kernel : am_dc 208 146 = some (.aload_n 0)) rfl rfl
theorem x_208_147   : am_E d 208 Q (147, L, .ref a :: st, g) ↔ am_kv d 208 Q 150 L st g (am_gf g a 11 3) := am_E_getfield (by decide +kernel : am_dc 208 147 = some (.getfield 17)) (by decide +kernel) rfl
theorem x_208_150   : am_E d 208 Q (150, L, st, g) ↔ am_E d 208 Q (152, L, .int (6) :: st, g) := am_E_bipush (by decide +kernel : am_dc 208 150 = some (.bipush (6))) (by decide) rfl
theorem x_208_152   : am_E d 208 Q (152, L, st, g) ↔ am_K d 208 Q (am_ldI 154 L st g 4) := am_E_iload (by decide +kernel : am_dc 208 152 = some (.iload 4)) rfl
theorem x_208_154   : am_E d 208 Q (154, L, .int y :: .int x :: st, g) ↔ am_E d 208 Q (155, L, .int (x * y) :: st, g) := am_E_imul (by decide +kernel : am_dc 208 154 = some (.imul)) rfl
theorem x_208_155   : am_E d 208 Q (155, L, st, g) ↔ am_K d 208 Q (am_ldI 156 L st g 1) := am_E_iload_n (by decide +kernel : am_dc 208 155 = some (.iload_n 1)) rfl rfl
theorem x_208_156   : am_E d 208 Q (156, L, st, g) ↔ am_K d 208 Q (am_ldI 158 L st g 4) := am_E_iload (by decide +kernel : am_dc 208 156 = some (.iload 4)) rfl
theorem x_208_158  : am_E d 208 Q (158, L, st, g) ↔ am_K d 208 Q (am_S 208 (.invokestatic 217) 158 L st g) := am_E_x (by decide +kernel : am_dc 208 158 = some (.invokestatic 217))
theorem x_208_161   : am_E d 208 Q (161, L, .int y :: .int x :: st, g) ↔ am_E d 208 Q (162, L, .int (x + y) :: st, g) := am_E_iadd (by decide +kernel : am_dc 208 161 = some (.iadd)) rfl
theorem x_208_162   : am_E d 208 Q (162, L, .int x :: .ref a :: st, g) ↔ am_kv d 208 Q 163 L st g (am_iat .iaload g a x) := am_E_iaload (by decide +kernel : am_dc 208 162 = some (.iaload)) rfl
theorem x_208_163   : am_E d 208 Q (163, L, .int x :: st, g) ↔ am_E d 208 Q (am_cmp .ne x 0 179 166, L, st, g) := am_E_if (by decide +kernel : am_dc 208 163 = some (.ifCond .ne (16))) rfl rfl
theorem x_208_166   : am_E d 208 Q (166, L, st, g) ↔ am_K d 208 Q (am_ldA 167 L st g 0) := am_E_aload_n (by decide +kernel : am_dc 208 166 = some (.aload_n 0)) rfl rfl
theorem x_208_167   : am_E d 208 Q (167, L, st, g) ↔ am_E d 208 Q (168, L, .int (1) :: st, g) := am_E_iconst (by decide +kernel : am_dc 208 167 = some (.iconst (1))) (by decide) rfl
theorem x_208_168   : am_E d 208 Q (168, L, st, g) ↔ am_E d 208 Q (169, L, .long (0) :: st, g) := am_E_lconst (by decide +kernel : am_dc 208 168 = some (.lconst 0)) (by decide) rfl
theorem x_208_169  : am_E d 208 Q (169, L, st, g) ↔ am_K d 208 Q (am_S 208 (.invokevirtual 324) 169 L st g) := am_E_x (by decide +kernel : am_dc 208 169 = some (.invokevirtual 324))
theorem x_208_172   : am_E d 208 Q (172, L, st, g) ↔ am_K d 208 Q (am_ldA 173 L st g 0) := am_E_aload_n (by decide +kernel : am_dc 208 172 = some (.aload_n 0)) rfl rfl
theorem x_208_173  : am_E d 208 Q (173, L, st, g) ↔ am_K d 208 Q (am_S 208 (.invokevirtual 328) 173 L st g) := am_E_x (by decide +kernel : am_dc 208 173 = some (.invokevirtual 328))
theorem x_208_176   : am_E d 208 Q (176, L, st, g) ↔ am_E d 208 Q (187, L, st, g) := am_E_gt (by decide +kernel : am_dc 208 176 = some (.goto (11))) rfl rfl
theorem x_208_179   : am_E d 208 Q (179, L, st, g) ↔ am_K d 208 Q (am_ldA 180 L st g 0) := am_E_aload_n (by decide +kernel : am_dc 208 179 = some (.aload_n 0)) rfl rfl
theorem x_208_180   : am_E d 208 Q (180, L, st, g) ↔ am_K d 208 Q (am_ldI 181 L st g 1) := am_E_iload_n (by decide +kernel : am_dc 208 180 = some (.iload_n 1)) rfl rfl
theorem x_208_181   : am_E d 208 Q (181, L, st, g) ↔ am_E d 208 Q (182, L, .int (-1) :: st, g) := am_E_iconst (by decide +kernel : am_dc 208 181 = some (.iconst (-1))) (by decide) rfl
theorem x_208_182   : am_E d 208 Q (182, L, st, g) ↔ am_K d 208 Q (am_ldI 184 L st g 4) := am_E_iload (by decide +kernel : am_dc 208 182 = some (.iload 4)) rfl
theorem x_208_184  : am_E d 208 Q (184, L, st, g) ↔ am_K d 208 Q (am_S 208 (.invokevirtual 353) 184 L st g) := am_E_x (by decide +kernel : am_dc 208 184 = some (.invokevirtual 353))
theorem x_208_187  : am_E d 208 Q (187, L, [], g) ↔ Q (.inl none) g := am_E_return (by decide +kernel : am_dc 208 187 = some (.return_)) (by decide +kernel)
theorem v_208_321 : am_iv 208 321 = some (1, 245, 2) := by decide +kernel
theorem v_208_324 : am_iv 208 324 = some (1, 223, 3) := by decide +kernel
theorem v_208_328 : am_iv 208 328 = some (1, 167, 1) := by decide +kernel
theorem f_208_331 : am_fl 208 331 = some (11, 49) := by decide +kernel
theorem f_208_152 : am_fl 208 152 = some (11, 65) := by decide +kernel
theorem f_208_315 : am_fl 208 315 = some (11, 47) := by decide +kernel
theorem f_208_334 : am_fl 208 334 = some (11, 48) := by decide +kernel
theorem v_208_338 : am_iv 208 338 = some (1, 200, 2) := by decide +kernel
theorem f_208_341 : am_fl 208 341 = some (11, 46) := by decide +kernel
theorem v_208_344 : am_iv 208 344 = some (1, 189, 3) := by decide +kernel
theorem v_208_347 : am_iv 208 347 = some (1, 243, 2) := by decide +kernel
theorem v_208_350 : am_iv 208 350 = some (1, 188, 2) := by decide +kernel
theorem f_208_39 : am_fl 208 39 = some (11, 10) := by decide +kernel
theorem v_208_353 : am_iv 208 353 = some (1, 183, 4) := by decide +kernel
theorem f_208_17 : am_fl 208 17 = some (11, 3) := by decide +kernel
theorem v_208_217 : am_iv 208 217 = some (0, 213, 2) := by decide +kernel
theorem t_208 : am_t 208 = none := by decide +kernel
theorem h_208 : am_h 208 = [] := by decide +kernel
theorem m_208 : am_m 208 = 5 := by decide +kernel
theorem x_209_0   : am_E d 209 Q (0, L, st, g) ↔ am_K d 209 Q (am_ldA 1 L st g 0) := am_E_aload_n (by decide +kernel : am_dc 209 0 = some (.aload_n 0)) rfl rfl
theorem x_209_1   : am_E d 209 Q (1, L, .ref a :: st, g) ↔ am_kv d 209 Q 4 L st g (am_gf g a 11 38) := am_E_getfield (by decide +kernel : am_dc 209 1 = some (.getfield 186)) (by decide +kernel) rfl
theorem x_209_4   : am_E d 209 Q (4, L, st, g) ↔ am_E d 209 Q (6, L, .int (12) :: st, g) := am_E_bipush (by decide +kernel : am_dc 209 4 = some (.bipush (12))) (by decide) rfl
theorem x_209_6   : am_E d 209 Q (6, L, .int y :: .int x :: st, g) ↔ am_E d 209 Q (am_cmp .ne x y 162 9, L, st, g) := am_E_ic (by decide +kernel : am_dc 209 6 = some (.if_icmp .ne (156))) rfl rfl
theorem x_209_9   : am_E d 209 Q (9, L, st, g) ↔ am_E d 209 Q (10, L, .int (0) :: st, g) := am_E_iconst (by decide +kernel : am_dc 209 9 = some (.iconst (0))) (by decide) rfl
theorem x_209_10   : am_E d 209 Q (10, L, st, g) ↔ am_K d 209 Q (am_stI 11 L st g 2) := am_E_istore_n (by decide +kernel : am_dc 209 10 = some (.istore_n 2)) rfl rfl
theorem x_209_11   : am_E d 209 Q (11, L, st, g) ↔ am_K d 209 Q (am_ldI 12 L st g 2) := am_E_iload_n (by decide +kernel : am_dc 209 11 = some (.iload_n 2)) rfl rfl
theorem x_209_12   : am_E d 209 Q (12, L, st, g) ↔ am_E d 209 Q (14, L, .int (11) :: st, g) := am_E_bipush (by decide +kernel : am_dc 209 12 = some (.bipush (11))) (by decide) rfl
theorem x_209_14   : am_E d 209 Q (14, L, .int y :: .int x :: st, g) ↔ am_E d 209 Q (am_cmp .ge x y 156 17, L, st, g) := am_E_ic (by decide +kernel : am_dc 209 14 = some (.if_icmp .ge (142))) rfl rfl
theorem x_209_17   : am_E d 209 Q (17, L, st, g) ↔ am_K d 209 Q (am_ldA 18 L st g 0) := am_E_aload_n (by decide +kernel : am_dc 209 17 = some (.aload_n 0)) rfl rfl
theorem x_209_18   : am_E d 209 Q (18, L, .ref a :: st, g) ↔ am_kv d 209 Q 21 L st g (am_gf g a 11 39) := am_E_getfield (by decide +kernel : am_dc 209 18 = some (.getfield 97)) (by decide +kernel) rfl
theorem x_209_21   : am_E d 209 Q (21, L, st, g) ↔ am_K d 209 Q (am_ldI 22 L st g 2) := am_E_iload_n (by decide +kernel : am_dc 209 21 = some (.iload_n 2)) rfl rfl
theorem x_209_22   : am_E d 209 Q (22, L, st, g) ↔ am_K d 209 Q (am_ldA 23 L st g 0) := am_E_aload_n (by decide +kernel : am_dc 209 22 = some (.aload_n 0)) rfl rfl
theorem x_209_23   : am_E d 209 Q (23, L, .ref a :: st, g) ↔ am_kv d 209 Q 26 L st g (am_gf g a 11 39) := am_E_getfield (by decide +kernel : am_dc 209 23 = some (.getfield 97)) (by decide +kernel) rfl
theorem x_209_26   : am_E d 209 Q (26, L, st, g) ↔ am_K d 209 Q (am_ldI 27 L st g 2) := am_E_iload_n (by decide +kernel : am_dc 209 26 = some (.iload_n 2)) rfl rfl
theorem x_209_27   : am_E d 209 Q (27, L, st, g) ↔ am_E d 209 Q (28, L, .int (1) :: st, g) := am_E_iconst (by decide +kernel : am_dc 209 27 = some (.iconst (1))) (by decide) rfl
theorem x_209_28   : am_E d 209 Q (28, L, .int y :: .int x :: st, g) ↔ am_E d 209 Q (29, L, .int (x + y) :: st, g) := am_E_iadd (by decide +kernel : am_dc 209 28 = some (.iadd)) rfl
theorem x_209_29   : am_E d 209 Q (29, L, .int x :: .ref a :: st, g) ↔ am_kv d 209 Q 30 L st g (am_iat .iaload g a x) := am_E_iaload (by decide +kernel : am_dc 209 29 = some (.iaload)) rfl
theorem x_209_30   : am_E d 209 Q (30, L, v :: .int x :: .ref a :: st, g) ↔ am_kg d 209 Q 31 L st (am_sat .iastore g a x v) := am_E_iastore (by decide +kernel : am_dc 209 30 = some (.iastore)) rfl
theorem x_209_31   : am_E d 209 Q (31, L, st, g) ↔ am_K d 209 Q (am_ldA 32 L st g 0) := am_E_aload_n (by decide +kernel : am_dc 209 31 = some (.aload_n 0)) rfl rfl
theorem x_209_32   : am_E d 209 Q (32, L, .ref a :: st, g) ↔ am_kv d 209 Q 35 L st g (am_gf g a 11 40) := am_E_getfield (by decide +kernel : am_dc 209 32 = some (.getfield 100)) (by decide +kernel) rfl
theorem x_209_35   : am_E d 209 Q (35, L, st, g) ↔ am_K d 209 Q (am_ldI 36 L st g 2) := am_E_iload_n (by decide +kernel : am_dc 209 35 = some (.iload_n 2)) rfl rfl
theorem x_209_36   : am_E d 209 Q (36, L, st, g) ↔ am_K d 209 Q (am_ldA 37 L st g 0) := am_E_aload_n (by decide +kernel : am_dc 209 36 = some (.aload_n 0)) rfl rfl
theorem x_209_37   : am_E d 209 Q (37, L, .ref a :: st, g) ↔ am_kv d 209 Q 40 L st g (am_gf g a 11 40) := am_E_getfield (by decide +kernel : am_dc 209 37 = some (.getfield 100)) (by decide +kernel) rfl
theorem x_209_40   : am_E d 209 Q (40, L, st, g) ↔ am_K d 209 Q (am_ldI 41 L st g 2) := am_E_iload_n (by decide +kernel : am_dc 209 40 = some (.iload_n 2)) rfl rfl
theorem x_209_41   : am_E d 209 Q (41, L, st, g) ↔ am_E d 209 Q (42, L, .int (1) :: st, g) := am_E_iconst (by decide +kernel : am_dc 209 41 = some (.iconst (1))) (by decide) rfl
theorem x_209_42   : am_E d 209 Q (42, L, .int y :: .int x :: st, g) ↔ am_E d 209 Q (43, L, .int (x + y) :: st, g) := am_E_iadd (by decide +kernel : am_dc 209 42 = some (.iadd)) rfl
theorem x_209_43   : am_E d 209 Q (43, L, .int x :: .ref a :: st, g) ↔ am_kv d 209 Q 44 L st g (am_iat .iaload g a x) := am_E_iaload (by decide +kernel : am_dc 209 43 = some (.iaload)) rfl
theorem x_209_44   : am_E d 209 Q (44, L, v :: .int x :: .ref a :: st, g) ↔ am_kg d 209 Q 45 L st (am_sat .iastore g a x v) := am_E_iastore (by decide +kernel : am_dc 209 44 = some (.iastore)) rfl
theorem x_209_45   : am_E d 209 Q (45, L, st, g) ↔ am_E d 209 Q (48, L, .int (216) :: st, g) := am_E_sipush (by decide +kernel : am_dc 209 45 = some (.sipush (216))) (by decide) rfl
theorem x_209_48   : am_E d 209 Q (48, L, st, g) ↔ am_K d 209 Q (am_ldI 49 L st g 2) := am_E_iload_n (by decide +kernel : am_dc 209 48 = some (.iload_n 2)) rfl rfl
theorem x_209_49   : am_E d 209 Q (49, L, .int y :: .int x :: st, g) ↔ am_E d 209 Q (50, L, .int (x * y) :: st, g) := am_E_imul (by decide +kernel : am_dc 209 49 = some (.imul)) rfl
theorem x_209_50   : am_E d 209 Q (50, L, st, g) ↔ am_K d 209 Q (am_stI 51 L st g 3) := am_E_istore_n (by decide +kernel : am_dc 209 50 = some (.istore_n 3)) rfl rfl
theorem x_209_51   : am_E d 209 Q (51, L, st, g) ↔ am_K d 209 Q (am_ldI 52 L st g 3) := am_E_iload_n (by decide +kernel : am_dc 209 51 = some (.iload_n 3)) rfl rfl
theorem x_209_52   : am_E d 209 Q (52, L, st, g) ↔ am_E d 209 Q (55, L, .int (216) :: st, g) := am_E_sipush (by decide +kernel : am_dc 209 52 = some (.sipush (216))) (by decide) rfl
theorem x_209_55   : am_E d 209 Q (55, L, st, g) ↔ am_K d 209 Q (am_ldI 56 L st g 2) := am_E_iload_n (by decide +kernel : am_dc 209 55 = some (.iload_n 2)) rfl rfl
theorem x_209_56   : am_E d 209 Q (56, L, .int y :: .int x :: st, g) ↔ am_E d 209 Q (57, L, .int (x * y) :: st, g) := am_E_imul (by decide +kernel : am_dc 209 56 = some (.imul)) rfl
theorem x_209_57   : am_E d 209 Q (57, L, st, g) ↔ am_E d 209 Q (60, L, .int (216) :: st, g) := am_E_sipush (by decide +kernel : am_dc 209 57 = some (.sipush (216))) (by decide) rfl
theorem x_209_60   : am_E d 209 Q (60, L, .int y :: .int x :: st, g) ↔ am_E d 209 Q (61, L, .int (x + y) :: st, g) := am_E_iadd (by decide +kernel : am_dc 209 60 = some (.iadd)) rfl
theorem x_209_61   : am_E d 209 Q (61, L, .int y :: .int x :: st, g) ↔ am_E d 209 Q (am_cmp .ge x y 150 64, L, st, g) := am_E_ic (by decide +kernel : am_dc 209 61 = some (.if_icmp .ge (89))) rfl rfl
theorem x_209_64   : am_E d 209 Q (64, L, st, g) ↔ am_K d 209 Q (am_ldA 65 L st g 0) := am_E_aload_n (by decide +kernel : am_dc 209 64 = some (.aload_n 0)) rfl rfl
theorem x_209_65   : am_E d 209 Q (65, L, .ref a :: st, g) ↔ am_kv d 209 Q 68 L st g (am_gf g a 11 41) := am_E_getfield (by decide +kernel : am_dc 209 65 = some (.getfield 103)) (by decide +kernel) rfl
theorem x_209_68   : am_E d 209 Q (68, L, st, g) ↔ am_K d 209 Q (am_ldI 69 L st g 3) := am_E_iload_n (by decide +kernel : am_dc 209 68 = some (.iload_n 3)) rfl rfl
theorem x_209_69   : am_E d 209 Q (69, L, st, g) ↔ am_K d 209 Q (am_ldA 70 L st g 0) := am_E_aload_n (by decide +kernel : am_dc 209 69 = some (.aload_n 0)) rfl rfl
theorem x_209_70   : am_E d 209 Q (70, L, .ref a :: st, g) ↔ am_kv d 209 Q 73 L st g (am_gf g a 11 41) := am_E_getfield (by decide +kernel : am_dc 209 70 = some (.getfield 103)) (by decide +kernel) rfl
theorem x_209_73   : am_E d 209 Q (73, L, st, g) ↔ am_K d 209 Q (am_ldI 74 L st g 3) := am_E_iload_n (by decide +kernel : am_dc 209 73 = some (.iload_n 3)) rfl rfl
theorem x_209_74   : am_E d 209 Q (74, L, st, g) ↔ am_E d 209 Q (77, L, .int (216) :: st, g) := am_E_sipush (by decide +kernel : am_dc 209 74 = some (.sipush (216))) (by decide) rfl
theorem x_209_77   : am_E d 209 Q (77, L, .int y :: .int x :: st, g) ↔ am_E d 209 Q (78, L, .int (x + y) :: st, g) := am_E_iadd (by decide +kernel : am_dc 209 77 = some (.iadd)) rfl
theorem x_209_78   : am_E d 209 Q (78, L, .int x :: .ref a :: st, g) ↔ am_kv d 209 Q 79 L st g (am_iat .iaload g a x) := am_E_iaload (by decide +kernel : am_dc 209 78 = some (.iaload)) rfl
theorem x_209_79   : am_E d 209 Q (79, L, v :: .int x :: .ref a :: st, g) ↔ am_kg d 209 Q 80 L st (am_sat .iastore g a x v) := am_E_iastore (by decide +kernel : am_dc 209 79 = some (.iastore)) rfl
theorem x_209_80   : am_E d 209 Q (80, L, st, g) ↔ am_K d 209 Q (am_ldA 81 L st g 0) := am_E_aload_n (by decide +kernel : am_dc 209 80 = some (.aload_n 0)) rfl rfl
theorem x_209_81   : am_E d 209 Q (81, L, .ref a :: st, g) ↔ am_kv d 209 Q 84 L st g (am_gf g a 11 42) := am_E_getfield (by decide +kernel : am_dc 209 81 = some (.getfield 106)) (by decide +kernel) rfl
theorem x_209_84   : am_E d 209 Q (84, L, st, g) ↔ am_K d 209 Q (am_ldI 85 L st g 3) := am_E_iload_n (by decide +kernel : am_dc 209 84 = some (.iload_n 3)) rfl rfl
theorem x_209_85   : am_E d 209 Q (85, L, st, g) ↔ am_K d 209 Q (am_ldA 86 L st g 0) := am_E_aload_n (by decide +kernel : am_dc 209 85 = some (.aload_n 0)) rfl rfl
theorem x_209_86   : am_E d 209 Q (86, L, .ref a :: st, g) ↔ am_kv d 209 Q 89 L st g (am_gf g a 11 42) := am_E_getfield (by decide +kernel : am_dc 209 86 = some (.getfield 106)) (by decide +kernel) rfl
theorem x_209_89   : am_E d 209 Q (89, L, st, g) ↔ am_K d 209 Q (am_ldI 90 L st g 3) := am_E_iload_n (by decide +kernel : am_dc 209 89 = some (.iload_n 3)) rfl rfl
theorem x_209_90   : am_E d 209 Q (90, L, st, g) ↔ am_E d 209 Q (93, L, .int (216) :: st, g) := am_E_sipush (by decide +kernel : am_dc 209 90 = some (.sipush (216))) (by decide) rfl
theorem x_209_93   : am_E d 209 Q (93, L, .int y :: .int x :: st, g) ↔ am_E d 209 Q (94, L, .int (x + y) :: st, g) := am_E_iadd (by decide +kernel : am_dc 209 93 = some (.iadd)) rfl
theorem x_209_94   : am_E d 209 Q (94, L, .int x :: .ref a :: st, g) ↔ am_kv d 209 Q 95 L st g (am_iat .baload g a x) := am_E_baload (by decide +kernel : am_dc 209 94 = some (.baload)) rfl
theorem x_209_95   : am_E d 209 Q (95, L, v :: .int x :: .ref a :: st, g) ↔ am_kg d 209 Q 96 L st (am_sat .bastore g a x v) := am_E_bastore (by decide +kernel : am_dc 209 95 = some (.bastore)) rfl
theorem x_209_96   : am_E d 209 Q (96, L, st, g) ↔ am_K d 209 Q (am_ldA 97 L st g 0) := am_E_aload_n (by decide +kernel : am_dc 209 96 = some (.aload_n 0)) rfl rfl
theorem x_209_97   : am_E d 209 Q (97, L, .ref a :: st, g) ↔ am_kv d 209 Q 100 L st g (am_gf g a 11 43) := am_E_getfield (by decide +kernel : am_dc 209 97 = some (.getfield 109)) (by decide +kernel) rfl
theorem x_209_100   : am_E d 209 Q (100, L, st, g) ↔ am_K d 209 Q (am_ldI 101 L st g 3) := am_E_iload_n (by decide +kernel : am_dc 209 100 = some (.iload_n 3)) rfl rfl
theorem x_209_101   : am_E d 209 Q (101, L, st, g) ↔ am_K d 209 Q (am_ldA 102 L st g 0) := am_E_aload_n (by decide +kernel : am_dc 209 101 = some (.aload_n 0)) rfl rfl
theorem x_209_102   : am_E d 209 Q (102, L, .ref a :: st, g) ↔ am_kv d 209 Q 105 L st g (am_gf g a 11 43) := am_E_getfield (by decide +kernel : am_dc 209 102 = some (.getfield 109)) (by decide +kernel) rfl
theorem x_209_105   : am_E d 209 Q (105, L, st, g) ↔ am_K d 209 Q (am_ldI 106 L st g 3) := am_E_iload_n (by decide +kernel : am_dc 209 105 = some (.iload_n 3)) rfl rfl
theorem x_209_106   : am_E d 209 Q (106, L, st, g) ↔ am_E d 209 Q (109, L, .int (216) :: st, g) := am_E_sipush (by decide +kernel : am_dc 209 106 = some (.sipush (216))) (by decide) rfl
theorem x_209_109   : am_E d 209 Q (109, L, .int y :: .int x :: st, g) ↔ am_E d 209 Q (110, L, .int (x + y) :: st, g) := am_E_iadd (by decide +kernel : am_dc 209 109 = some (.iadd)) rfl
theorem x_209_110   : am_E d 209 Q (110, L, .int x :: .ref a :: st, g) ↔ am_kv d 209 Q 111 L st g (am_iat .iaload g a x) := am_E_iaload (by decide +kernel : am_dc 209 110 = some (.iaload)) rfl
theorem x_209_111   : am_E d 209 Q (111, L, v :: .int x :: .ref a :: st, g) ↔ am_kg d 209 Q 112 L st (am_sat .iastore g a x v) := am_E_iastore (by decide +kernel : am_dc 209 111 = some (.iastore)) rfl
theorem x_209_112   : am_E d 209 Q (112, L, st, g) ↔ am_K d 209 Q (am_ldA 113 L st g 0) := am_E_aload_n (by decide +kernel : am_dc 209 112 = some (.aload_n 0)) rfl rfl
theorem x_209_113   : am_E d 209 Q (113, L, .ref a :: st, g) ↔ am_kv d 209 Q 116 L st g (am_gf g a 11 44) := am_E_getfield (by decide +kernel : am_dc 209 113 = some (.getfield 112)) (by decide +kernel) rfl
theorem x_209_116   : am_E d 209 Q (116, L, st, g) ↔ am_K d 209 Q (am_ldI 117 L st g 3) := am_E_iload_n (by decide +kernel : am_dc 209 116 = some (.iload_n 3)) rfl rfl
theorem x_209_117   : am_E d 209 Q (117, L, st, g) ↔ am_K d 209 Q (am_ldA 118 L st g 0) := am_E_aload_n (by decide +kernel : am_dc 209 117 = some (.aload_n 0)) rfl rfl
theorem x_209_118   : am_E d 209 Q (118, L, .ref a :: st, g) ↔ am_kv d 209 Q 121 L st g (am_gf g a 11 44) := am_E_getfield (by decide +kernel : am_dc 209 118 = some (.getfield 112)) (by decide +kernel) rfl
theorem x_209_121   : am_E d 209 Q (121, L, st, g) ↔ am_K d 209 Q (am_ldI 122 L st g 3) := am_E_iload_n (by decide +kernel : am_dc 209 121 = some (.iload_n 3)) rfl rfl
theorem x_209_122   : am_E d 209 Q (122, L, st, g) ↔ am_E d 209 Q (125, L, .int (216) :: st, g) := am_E_sipush (by decide +kernel : am_dc 209 122 = some (.sipush (216))) (by decide) rfl
theorem x_209_125   : am_E d 209 Q (125, L, .int y :: .int x :: st, g) ↔ am_E d 209 Q (126, L, .int (x + y) :: st, g) := am_E_iadd (by decide +kernel : am_dc 209 125 = some (.iadd)) rfl
theorem x_209_126   : am_E d 209 Q (126, L, .int x :: .ref a :: st, g) ↔ am_kv d 209 Q 127 L st g (am_iat .baload g a x) := am_E_baload (by decide +kernel : am_dc 209 126 = some (.baload)) rfl
theorem x_209_127   : am_E d 209 Q (127, L, v :: .int x :: .ref a :: st, g) ↔ am_kg d 209 Q 128 L st (am_sat .bastore g a x v) := am_E_bastore (by decide +kernel : am_dc 209 127 = some (.bastore)) rfl
theorem x_209_128   : am_E d 209 Q (128, L, st, g) ↔ am_K d 209 Q (am_ldA 129 L st g 0) := am_E_aload_n (by decide +kernel : am_dc 209 128 = some (.aload_n 0)) rfl rfl
theorem x_209_129   : am_E d 209 Q (129, L, .ref a :: st, g) ↔ am_kv d 209 Q 132 L st g (am_gf g a 11 45) := am_E_getfield (by decide +kernel : am_dc 209 129 = some (.getfield 115)) (by decide +kernel) rfl
theorem x_209_132   : am_E d 209 Q (132, L, st, g) ↔ am_K d 209 Q (am_ldI 133 L st g 3) := am_E_iload_n (by decide +kernel : am_dc 209 132 = some (.iload_n 3)) rfl rfl
theorem x_209_133   : am_E d 209 Q (133, L, st, g) ↔ am_K d 209 Q (am_ldA 134 L st g 0) := am_E_aload_n (by decide +kernel : am_dc 209 133 = some (.aload_n 0)) rfl rfl
theorem x_209_134   : am_E d 209 Q (134, L, .ref a :: st, g) ↔ am_kv d 209 Q 137 L st g (am_gf g a 11 45) := am_E_getfield (by decide +kernel : am_dc 209 134 = some (.getfield 115)) (by decide +kernel) rfl
theorem x_209_137   : am_E d 209 Q (137, L, st, g) ↔ am_K d 209 Q (am_ldI 138 L st g 3) := am_E_iload_n (by decide +kernel : am_dc 209 137 = some (.iload_n 3)) rfl rfl
theorem x_209_138   : am_E d 209 Q (138, L, st, g) ↔ am_E d 209 Q (141, L, .int (216) :: st, g) := am_E_sipush (by decide +kernel : am_dc 209 138 = some (.sipush (216))) (by decide) rfl
theorem x_209_141   : am_E d 209 Q (141, L, .int y :: .int x :: st, g) ↔ am_E d 209 Q (142, L, .int (x + y) :: st, g) := am_E_iadd (by decide +kernel : am_dc 209 141 = some (.iadd)) rfl
theorem x_209_142   : am_E d 209 Q (142, L, .int x :: .ref a :: st, g) ↔ am_kv d 209 Q 143 L st g (am_iat .iaload g a x) := am_E_iaload (by decide +kernel : am_dc 209 142 = some (.iaload)) rfl
theorem x_209_143   : am_E d 209 Q (143, L, v :: .int x :: .ref a :: st, g) ↔ am_kg d 209 Q 144 L st (am_sat .iastore g a x v) := am_E_iastore (by decide +kernel : am_dc 209 143 = some (.iastore)) rfl
theorem x_209_144   (hk : L.getD 3 none = some (.int x)) (hl : 3 < L.length) : am_E d 209 Q (144, L, st, g) ↔ am_E d 209 Q (147, am_s1 L 3 (.int (x + (1))), st, g) := am_E_iinc (by decide +kernel : am_dc 209 144 = some (.iinc 3 (1))) (by decide) rfl hk hl
theorem x_209_147   : am_E d 209 Q (147, L, st, g) ↔ am_E d 209 Q (51, L, st, g) := am_E_gt (by decide +kernel : am_dc 209 147 = some (.goto (-96))) rfl rfl
theorem x_209_150   (hk : L.getD 2 none = some (.int x)) (hl : 2 < L.length) : am_E d 209 Q (150, L, st, g) ↔ am_E d 209 Q (153, am_s1 L 2 (.int (x + (1))), st, g) := am_E_iinc (by decide +kernel : am_dc 209 150 = some (.iinc 2 (1))) (by decide) rfl hk hl
theorem x_209_153   : am_E d 209 Q (153, L, st, g) ↔ am_E d 209 Q (11, L, st, g) := am_E_gt (by decide +kernel : am_dc 209 153 = some (.goto (-142))) rfl rfl
theorem x_209_156   : am_E d 209 Q (156, L, st, g) ↔ am_K d 209 Q (am_ldA 157 L st g 0) := am_E_aload_n (by decide +kernel : am_dc 209 156 = some (.aload_n 0)) rfl rfl
theorem x_209_157   : am_E d 209 Q (157, L, st, g) ↔ am_E d 209 Q (159, L, .int (11) :: st, g) := am_E_bipush (by decide +kernel : am_dc 209 157 = some (.bipush (11))) (by decide) rfl
theorem x_209_159   (hok : (am_ok (am_ft 11 38).1 v && (!(am_ft 11 38).2 || (am_ini 209 && am_co 11 == am_o 209)) && decide (11 < 13)) = true) : am_E d 209 Q (159, L, v :: .ref a :: st, g) ↔ am_kg d 209 Q 162 L st (am_pf g a 11 38 v) := am_E_putfield (by decide +kernel : am_dc 209 159 = some (.putfield 186)) (by decide +kernel) rfl hok
theorem x_209_162   : am_E d 209 Q (162, L, st, g) ↔ am_K d 209 Q (am_ldA 163 L st g 0) := am_E_aload_n (by decide +kernel : am_dc 209 162 = some (.aload_n 0)) rfl rfl
theorem x_209_163   : am_E d 209 Q (163, L, .ref a :: st, g) ↔ am_kv d 209 Q 166 L st g (am_gf g a 11 39) := am_E_getfield (by decide +kernel : am_dc 209 163 = some (.getfield 97)) (by decide +kernel) rfl
theorem x_209_166   : am_E d 209 Q (166, L, st, g) ↔ am_K d 209 Q (am_ldA 167 L st g 0) := am_E_aload_n (by decide +kernel : am_dc 209 166 = some (.aload_n 0)) rfl rfl
theorem x_209_167   : am_E d 209 Q (167, L, .ref a :: st, g) ↔ am_kv d 209 Q 170 L st g (am_gf g a 11 38) := am_E_getfield (by decide +kernel : am_dc 209 167 = some (.getfield 186)) (by decide +kernel) rfl
theorem x_209_170   : am_E d 209 Q (170, L, st, g) ↔ am_K d 209 Q (am_ldI 171 L st g 1) := am_E_iload_n (by decide +kernel : am_dc 209 170 = some (.iload_n 1)) rfl rfl
theorem x_209_171   : am_E d 209 Q (171, L, v :: .int x :: .ref a :: st, g) ↔ am_kg d 209 Q 172 L st (am_sat .iastore g a x v) := am_E_iastore (by decide +kernel : am_dc 209 171 = some (.iastore)) rfl
theorem x_209_172   : am_E d 209 Q (172, L, st, g) ↔ am_K d 209 Q (am_ldA 173 L st g 0) := am_E_aload_n (by decide +kernel : am_dc 209 172 = some (.aload_n 0)) rfl rfl
theorem x_209_173   : am_E d 209 Q (173, L, .ref a :: st, g) ↔ am_kv d 209 Q 176 L st g (am_gf g a 11 40) := am_E_getfield (by decide +kernel : am_dc 209 173 = some (.getfield 100)) (by decide +kernel) rfl
theorem x_209_176   : am_E d 209 Q (176, L, st, g) ↔ am_K d 209 Q (am_ldA 177 L st g 0) := am_E_aload_n (by decide +kernel : am_dc 209 176 = some (.aload_n 0)) rfl rfl
theorem x_209_177   : am_E d 209 Q (177, L, .ref a :: st, g) ↔ am_kv d 209 Q 180 L st g (am_gf g a 11 38) := am_E_getfield (by decide +kernel : am_dc 209 177 = some (.getfield 186)) (by decide +kernel) rfl
theorem x_209_180   : am_E d 209 Q (180, L, st, g) ↔ am_E d 209 Q (181, L, .int (0) :: st, g) := am_E_iconst (by decide +kernel : am_dc 209 180 = some (.iconst (0))) (by decide) rfl
theorem x_209_181   : am_E d 209 Q (181, L, v :: .int x :: .ref a :: st, g) ↔ am_kg d 209 Q 182 L st (am_sat .iastore g a x v) := am_E_iastore (by decide +kernel : am_dc 209 181 = some (.iastore)) rfl
theorem x_209_182   : am_E d 209 Q (182, L, st, g) ↔ am_K d 209 Q (am_ldA 183 L st g 0) := am_E_aload_n (by decide +kernel : am_dc 209 182 = some (.aload_n 0)) rfl rfl
theorem x_209_183   : am_E d 209 Q (183, L, v :: st, g) ↔ if v.category = 1 then am_E d 209 Q (184, L, v :: v :: st, g) else False := am_E_dup (by decide +kernel : am_dc 209 183 = some (.dup)) rfl
theorem x_209_184   : am_E d 209 Q (184, L, .ref a :: st, g) ↔ am_kv d 209 Q 187 L st g (am_gf g a 11 38) := am_E_getfield (by decide +kernel : am_dc 209 184 = some (.getfield 186)) (by decide +kernel) rfl
theorem x_209_187   : am_E d 209 Q (187, L, st, g) ↔ am_E d 209 Q (188, L, .int (1) :: st, g) := am_E_iconst (by decide +kernel : am_dc 209 187 = some (.iconst (1))) (by decide) rfl
theorem x_209_188   : am_E d 209 Q (188, L, .int y :: .int x :: st, g) ↔ am_E d 209 Q (189, L, .int (x + y) :: st, g) := am_E_iadd (by decide +kernel : am_dc 209 188 = some (.iadd)) rfl
theorem x_209_189   (hok : (am_ok (am_ft 11 38).1 v && (!(am_ft 11 38).2 || (am_ini 209 && am_co 11 == am_o 209)) && decide (11 < 13)) = true) : am_E d 209 Q (189, L, v :: .ref a :: st, g) ↔ am_kg d 209 Q 192 L st (am_pf g a 11 38 v) := am_E_putfield (by decide +kernel : am_dc 209 189 = some (.putfield 186)) (by decide +kernel) rfl hok
theorem x_209_192   : am_E d 209 Q (192, L, st, g) ↔ am_K d 209 Q (am_ldA 193 L st g 0) := am_E_aload_n (by decide +kernel : am_dc 209 192 = some (.aload_n 0)) rfl rfl
theorem x_209_193   : am_E d 209 Q (193, L, st, g) ↔ am_K d 209 Q (am_ldA 194 L st g 0) := am_E_aload_n (by decide +kernel : am_dc 209 193 = some (.aload_n 0)) rfl rfl
theorem x_209_194   : am_E d 209 Q (194, L, .ref a :: st, g) ↔ am_kv d 209 Q 197 L st g (am_gf g a 11 38) := am_E_getfield (by decide +kernel : am_dc 209 194 = some (.getfield 186)) (by decide +kernel) rfl
theorem x_209_197   (hok : (am_ok (am_ft 11 37).1 v && (!(am_ft 11 37).2 || (am_ini 209 && am_co 11 == am_o 209)) && decide (11 < 13)) = true) : am_E d 209 Q (197, L, v :: .ref a :: st, g) ↔ am_kg d 209 Q 200 L st (am_pf g a 11 37 v) := am_E_putfield (by decide +kernel : am_dc 209 197 = some (.putfield 183)) (by decide +kernel) rfl hok
theorem x_209_200  : am_E d 209 Q (200, L, [], g) ↔ Q (.inl none) g := am_E_return (by decide +kernel : am_dc 209 200 = some (.return_)) (by decide +kernel)
theorem f_209_186 : am_fl 209 186 = some (11, 38) := by decide +kernel
theorem f_209_97 : am_fl 209 97 = some (11, 39) := by decide +kernel
theorem f_209_100 : am_fl 209 100 = some (11, 40) := by decide +kernel
theorem f_209_103 : am_fl 209 103 = some (11, 41) := by decide +kernel
theorem f_209_106 : am_fl 209 106 = some (11, 42) := by decide +kernel
theorem f_209_109 : am_fl 209 109 = some (11, 43) := by decide +kernel
theorem f_209_112 : am_fl 209 112 = some (11, 44) := by decide +kernel
theorem f_209_115 : am_fl 209 115 = some (11, 45) := by decide +kernel
theorem f_209_183 : am_fl 209 183 = some (11, 37) := by decide +kernel
theorem t_209 : am_t 209 = none := by decide +kernel
theorem h_209 : am_h 209 = [] := by decide +kernel
theorem m_209 : am_m 209 = 4 := by decide +kernel
theorem x_210_0   : am_E d 210 Q (0, L, st, g) ↔ am_K d 210 Q (am_ldI 1 L st g 0) := am_E_iload_n (by decide +kernel : am_dc 210 0 = some (.iload_n 0)) rfl rfl
theorem x_210_1   : am_E d 210 Q (1, L, st, g) ↔ am_E d 210 Q (2, L, .int (3) :: st, g) := am_E_iconst (by decide +kernel : am_dc 210 1 = some (.iconst (3))) (by decide) rfl
theorem x_210_2   : am_E d 210 Q (2, L, .int y :: .int x :: st, g) ↔ am_E d 210 Q (am_cmp .ne x y 9 5, L, st, g) := am_E_ic (by decide +kernel : am_dc 210 2 = some (.if_icmp .ne (7))) rfl rfl
theorem x_210_5   : am_E d 210 Q (5, L, st, g) ↔ am_E d 210 Q (6, L, .int (2) :: st, g) := am_E_iconst (by decide +kernel : am_dc 210 5 = some (.iconst (2))) (by decide) rfl
theorem x_210_6   : am_E d 210 Q (6, L, st, g) ↔ am_E d 210 Q (19, L, st, g) := am_E_gt (by decide +kernel : am_dc 210 6 = some (.goto (13))) rfl rfl
theorem x_210_9   : am_E d 210 Q (9, L, st, g) ↔ am_K d 210 Q (am_ldI 10 L st g 0) := am_E_iload_n (by decide +kernel : am_dc 210 9 = some (.iload_n 0)) rfl rfl
theorem x_210_10   : am_E d 210 Q (10, L, st, g) ↔ am_E d 210 Q (11, L, .int (2) :: st, g) := am_E_iconst (by decide +kernel : am_dc 210 10 = some (.iconst (2))) (by decide) rfl
theorem x_210_11   : am_E d 210 Q (11, L, .int y :: .int x :: st, g) ↔ am_E d 210 Q (am_cmp .ne x y 18 14, L, st, g) := am_E_ic (by decide +kernel : am_dc 210 11 = some (.if_icmp .ne (7))) rfl rfl
theorem x_210_14   : am_E d 210 Q (14, L, st, g) ↔ am_E d 210 Q (15, L, .int (3) :: st, g) := am_E_iconst (by decide +kernel : am_dc 210 14 = some (.iconst (3))) (by decide) rfl
theorem x_210_15   : am_E d 210 Q (15, L, st, g) ↔ am_E d 210 Q (19, L, st, g) := am_E_gt (by decide +kernel : am_dc 210 15 = some (.goto (4))) rfl rfl
theorem x_210_18   : am_E d 210 Q (18, L, st, g) ↔ am_E d 210 Q (19, L, .int (4) :: st, g) := am_E_iconst (by decide +kernel : am_dc 210 18 = some (.iconst (4))) (by decide) rfl
theorem x_210_19  : am_E d 210 Q (19, L, [.int x], g) ↔ if am_ok (FieldType.int) (.int x) = true then Q (.inl (some (.int x))) g else False := am_E_ireturn (by decide +kernel : am_dc 210 19 = some (.ireturn)) (by decide +kernel)
theorem t_210 : am_t 210 = some (FieldType.int) := by decide +kernel
theorem h_210 : am_h 210 = [] := by decide +kernel
theorem m_210 : am_m 210 = 1 := by decide +kernel
theorem x_211_0   : am_E d 211 Q (0, L, st, g) ↔ am_K d 211 Q (am_ldA 1 L st g 0) := am_E_aload_n (by decide +kernel : am_dc 211 0 = some (.aload_n 0)) rfl rfl
theorem x_211_1   : am_E d 211 Q (1, L, .ref a :: st, g) ↔ am_kv d 211 Q 4 L st g (am_gf g a 11 26) := am_E_getfield (by decide +kernel : am_dc 211 1 = some (.getfield 79)) (by decide +kernel) rfl
theorem x_211_4   : am_E d 211 Q (4, L, st, g) ↔ am_K d 211 Q (am_ldA 5 L st g 0) := am_E_aload_n (by decide +kernel : am_dc 211 4 = some (.aload_n 0)) rfl rfl
theorem x_211_5   : am_E d 211 Q (5, L, .ref a :: st, g) ↔ am_kv d 211 Q 8 L st g (am_gf g a 11 25) := am_E_getfield (by decide +kernel : am_dc 211 5 = some (.getfield 233)) (by decide +kernel) rfl
theorem x_211_8   : am_E d 211 Q (8, L, st, g) ↔ am_K d 211 Q (am_ldI 9 L st g 1) := am_E_iload_n (by decide +kernel : am_dc 211 8 = some (.iload_n 1)) rfl rfl
theorem x_211_9   : am_E d 211 Q (9, L, v :: .int x :: .ref a :: st, g) ↔ am_kg d 211 Q 10 L st (am_sat .iastore g a x v) := am_E_iastore (by decide +kernel : am_dc 211 9 = some (.iastore)) rfl
theorem x_211_10   : am_E d 211 Q (10, L, st, g) ↔ am_K d 211 Q (am_ldA 11 L st g 0) := am_E_aload_n (by decide +kernel : am_dc 211 10 = some (.aload_n 0)) rfl rfl
theorem x_211_11   : am_E d 211 Q (11, L, .ref a :: st, g) ↔ am_kv d 211 Q 14 L st g (am_gf g a 11 27) := am_E_getfield (by decide +kernel : am_dc 211 11 = some (.getfield 82)) (by decide +kernel) rfl
theorem x_211_14   : am_E d 211 Q (14, L, st, g) ↔ am_K d 211 Q (am_ldA 15 L st g 0) := am_E_aload_n (by decide +kernel : am_dc 211 14 = some (.aload_n 0)) rfl rfl
theorem x_211_15   : am_E d 211 Q (15, L, .ref a :: st, g) ↔ am_kv d 211 Q 18 L st g (am_gf g a 11 25) := am_E_getfield (by decide +kernel : am_dc 211 15 = some (.getfield 233)) (by decide +kernel) rfl
theorem x_211_18   : am_E d 211 Q (18, L, st, g) ↔ am_K d 211 Q (am_ldI 19 L st g 2) := am_E_iload_n (by decide +kernel : am_dc 211 18 = some (.iload_n 2)) rfl rfl
theorem x_211_19   : am_E d 211 Q (19, L, v :: .int x :: .ref a :: st, g) ↔ am_kg d 211 Q 20 L st (am_sat .iastore g a x v) := am_E_iastore (by decide +kernel : am_dc 211 19 = some (.iastore)) rfl
theorem x_211_20   : am_E d 211 Q (20, L, st, g) ↔ am_K d 211 Q (am_ldA 21 L st g 0) := am_E_aload_n (by decide +kernel : am_dc 211 20 = some (.aload_n 0)) rfl rfl
theorem x_211_21   : am_E d 211 Q (21, L, .ref a :: st, g) ↔ am_kv d 211 Q 24 L st g (am_gf g a 11 28) := am_E_getfield (by decide +kernel : am_dc 211 21 = some (.getfield 85)) (by decide +kernel) rfl
theorem x_211_24   : am_E d 211 Q (24, L, st, g) ↔ am_K d 211 Q (am_ldA 25 L st g 0) := am_E_aload_n (by decide +kernel : am_dc 211 24 = some (.aload_n 0)) rfl rfl
theorem x_211_25   : am_E d 211 Q (25, L, .ref a :: st, g) ↔ am_kv d 211 Q 28 L st g (am_gf g a 11 25) := am_E_getfield (by decide +kernel : am_dc 211 25 = some (.getfield 233)) (by decide +kernel) rfl
theorem x_211_28   : am_E d 211 Q (28, L, st, g) ↔ am_K d 211 Q (am_ldA 29 L st g 0) := am_E_aload_n (by decide +kernel : am_dc 211 28 = some (.aload_n 0)) rfl rfl
theorem x_211_29   : am_E d 211 Q (29, L, .ref a :: st, g) ↔ am_kv d 211 Q 32 L st g (am_gf g a 11 31) := am_E_getfield (by decide +kernel : am_dc 211 29 = some (.getfield 236)) (by decide +kernel) rfl
theorem x_211_32   : am_E d 211 Q (32, L, v :: .int x :: .ref a :: st, g) ↔ am_kg d 211 Q 33 L st (am_sat .iastore g a x v) := am_E_iastore (by decide +kernel : am_dc 211 32 = some (.iastore)) rfl
theorem x_211_33   : am_E d 211 Q (33, L, st, g) ↔ am_K d 211 Q (am_ldA 34 L st g 0) := am_E_aload_n (by decide +kernel : am_dc 211 33 = some (.aload_n 0)) rfl rfl
theorem x_211_34   : am_E d 211 Q (34, L, .ref a :: st, g) ↔ am_kv d 211 Q 37 L st g (am_gf g a 11 29) := am_E_getfield (by decide +kernel : am_dc 211 34 = some (.getfield 88)) (by decide +kernel) rfl
theorem x_211_37   : am_E d 211 Q (37, L, st, g) ↔ am_K d 211 Q (am_ldA 38 L st g 0) := am_E_aload_n (by decide +kernel : am_dc 211 37 = some (.aload_n 0)) rfl rfl
theorem x_211_38   : am_E d 211 Q (38, L, .ref a :: st, g) ↔ am_kv d 211 Q 41 L st g (am_gf g a 11 25) := am_E_getfield (by decide +kernel : am_dc 211 38 = some (.getfield 233)) (by decide +kernel) rfl
theorem x_211_41   : am_E d 211 Q (41, L, st, g) ↔ am_K d 211 Q (am_ldI 42 L st g 3) := am_E_iload_n (by decide +kernel : am_dc 211 41 = some (.iload_n 3)) rfl rfl
theorem x_211_42   : am_E d 211 Q (42, L, v :: .int x :: .ref a :: st, g) ↔ am_kg d 211 Q 43 L st (am_sat .iastore g a x v) := am_E_iastore (by decide +kernel : am_dc 211 42 = some (.iastore)) rfl
theorem x_211_43   : am_E d 211 Q (43, L, st, g) ↔ am_K d 211 Q (am_ldA 44 L st g 0) := am_E_aload_n (by decide +kernel : am_dc 211 43 = some (.aload_n 0)) rfl rfl
theorem x_211_44   : am_E d 211 Q (44, L, .ref a :: st, g) ↔ am_kv d 211 Q 47 L st g (am_gf g a 11 30) := am_E_getfield (by decide +kernel : am_dc 211 44 = some (.getfield 91)) (by decide +kernel) rfl
theorem x_211_47   : am_E d 211 Q (47, L, st, g) ↔ am_K d 211 Q (am_ldA 48 L st g 0) := am_E_aload_n (by decide +kernel : am_dc 211 47 = some (.aload_n 0)) rfl rfl
theorem x_211_48   : am_E d 211 Q (48, L, .ref a :: st, g) ↔ am_kv d 211 Q 51 L st g (am_gf g a 11 25) := am_E_getfield (by decide +kernel : am_dc 211 48 = some (.getfield 233)) (by decide +kernel) rfl
theorem x_211_51   : am_E d 211 Q (51, L, st, g) ↔ am_E d 211 Q (52, L, .int (-1) :: st, g) := am_E_iconst (by decide +kernel : am_dc 211 51 = some (.iconst (-1))) (by decide) rfl
theorem x_211_52   : am_E d 211 Q (52, L, v :: .int x :: .ref a :: st, g) ↔ am_kg d 211 Q 53 L st (am_sat .iastore g a x v) := am_E_iastore (by decide +kernel : am_dc 211 52 = some (.iastore)) rfl
theorem x_211_53   : am_E d 211 Q (53, L, st, g) ↔ am_K d 211 Q (am_ldA 54 L st g 0) := am_E_aload_n (by decide +kernel : am_dc 211 53 = some (.aload_n 0)) rfl rfl
theorem x_211_54   : am_E d 211 Q (54, L, v :: st, g) ↔ if v.category = 1 then am_E d 211 Q (55, L, v :: v :: st, g) else False := am_E_dup (by decide +kernel : am_dc 211 54 = some (.dup)) rfl
theorem x_211_55   : am_E d 211 Q (55, L, .ref a :: st, g) ↔ am_kv d 211 Q 58 L st g (am_gf g a 11 25) := am_E_getfield (by decide +kernel : am_dc 211 55 = some (.getfield 233)) (by decide +kernel) rfl
theorem x_211_58   : am_E d 211 Q (58, L, st, g) ↔ am_E d 211 Q (59, L, .int (1) :: st, g) := am_E_iconst (by decide +kernel : am_dc 211 58 = some (.iconst (1))) (by decide) rfl
theorem x_211_59   : am_E d 211 Q (59, L, .int y :: .int x :: st, g) ↔ am_E d 211 Q (60, L, .int (x + y) :: st, g) := am_E_iadd (by decide +kernel : am_dc 211 59 = some (.iadd)) rfl
theorem x_211_60   (hok : (am_ok (am_ft 11 25).1 v && (!(am_ft 11 25).2 || (am_ini 211 && am_co 11 == am_o 211)) && decide (11 < 13)) = true) : am_E d 211 Q (60, L, v :: .ref a :: st, g) ↔ am_kg d 211 Q 63 L st (am_pf g a 11 25 v) := am_E_putfield (by decide +kernel : am_dc 211 60 = some (.putfield 233)) (by decide +kernel) rfl hok
theorem x_211_63  : am_E d 211 Q (63, L, [], g) ↔ Q (.inl none) g := am_E_return (by decide +kernel : am_dc 211 63 = some (.return_)) (by decide +kernel)
theorem f_211_79 : am_fl 211 79 = some (11, 26) := by decide +kernel
theorem f_211_233 : am_fl 211 233 = some (11, 25) := by decide +kernel
theorem f_211_82 : am_fl 211 82 = some (11, 27) := by decide +kernel
theorem f_211_85 : am_fl 211 85 = some (11, 28) := by decide +kernel
theorem f_211_236 : am_fl 211 236 = some (11, 31) := by decide +kernel
theorem f_211_88 : am_fl 211 88 = some (11, 29) := by decide +kernel
theorem f_211_91 : am_fl 211 91 = some (11, 30) := by decide +kernel
theorem t_211 : am_t 211 = none := by decide +kernel
theorem h_211 : am_h 211 = [] := by decide +kernel
theorem m_211 : am_m 211 = 4 := by decide +kernel
theorem x_212_0   : am_E d 212 Q (0, L, st, g) ↔ am_K d 212 Q (am_ldA 1 L st g 0) := am_E_aload_n (by decide +kernel : am_dc 212 0 = some (.aload_n 0)) rfl rfl
theorem x_212_1   : am_E d 212 Q (1, L, .ref a :: st, g) ↔ am_kv d 212 Q 4 L st g (am_gf g a 11 52) := am_E_getfield (by decide +kernel : am_dc 212 1 = some (.getfield 124)) (by decide +kernel) rfl
theorem x_212_4   : am_E d 212 Q (4, L, st, g) ↔ am_K d 212 Q (am_ldI 5 L st g 1) := am_E_iload_n (by decide +kernel : am_dc 212 4 = some (.iload_n 1)) rfl rfl
theorem x_212_5   : am_E d 212 Q (5, L, .int x :: .ref a :: st, g) ↔ am_kv d 212 Q 6 L st g (am_iat .iaload g a x) := am_E_iaload (by decide +kernel : am_dc 212 5 = some (.iaload)) rfl
theorem x_212_6   : am_E d 212 Q (6, L, st, g) ↔ am_K d 212 Q (am_stI 7 L st g 2) := am_E_istore_n (by decide +kernel : am_dc 212 6 = some (.istore_n 2)) rfl rfl
theorem x_212_7   : am_E d 212 Q (7, L, st, g) ↔ am_K d 212 Q (am_ldA 8 L st g 0) := am_E_aload_n (by decide +kernel : am_dc 212 7 = some (.aload_n 0)) rfl rfl
theorem x_212_8   : am_E d 212 Q (8, L, .ref a :: st, g) ↔ am_kv d 212 Q 11 L st g (am_gf g a 11 51) := am_E_getfield (by decide +kernel : am_dc 212 8 = some (.getfield 121)) (by decide +kernel) rfl
theorem x_212_11   : am_E d 212 Q (11, L, st, g) ↔ am_K d 212 Q (am_ldI 12 L st g 1) := am_E_iload_n (by decide +kernel : am_dc 212 11 = some (.iload_n 1)) rfl rfl
theorem x_212_12   : am_E d 212 Q (12, L, .int x :: .ref a :: st, g) ↔ am_kv d 212 Q 13 L st g (am_iat .iaload g a x) := am_E_iaload (by decide +kernel : am_dc 212 12 = some (.iaload)) rfl
theorem x_212_13   : am_E d 212 Q (13, L, st, g) ↔ am_K d 212 Q (am_stI 14 L st g 3) := am_E_istore_n (by decide +kernel : am_dc 212 13 = some (.istore_n 3)) rfl rfl
theorem x_212_14   : am_E d 212 Q (14, L, st, g) ↔ am_K d 212 Q (am_ldI 15 L st g 2) := am_E_iload_n (by decide +kernel : am_dc 212 14 = some (.iload_n 2)) rfl rfl
theorem x_212_15   : am_E d 212 Q (15, L, st, g) ↔ am_K d 212 Q (am_ldA 16 L st g 0) := am_E_aload_n (by decide +kernel : am_dc 212 15 = some (.aload_n 0)) rfl rfl
theorem x_212_16   : am_E d 212 Q (16, L, .ref a :: st, g) ↔ am_kv d 212 Q 19 L st g (am_gf g a 11 14) := am_E_getfield (by decide +kernel : am_dc 212 16 = some (.getfield 48)) (by decide +kernel) rfl
theorem x_212_19   : am_E d 212 Q (19, L, st, g) ↔ am_K d 212 Q (am_ldI 20 L st g 3) := am_E_iload_n (by decide +kernel : am_dc 212 19 = some (.iload_n 3)) rfl rfl
theorem x_212_20   : am_E d 212 Q (20, L, .int x :: .ref a :: st, g) ↔ am_kv d 212 Q 21 L st g (am_iat .iaload g a x) := am_E_iaload (by decide +kernel : am_dc 212 20 = some (.iaload)) rfl
theorem x_212_21   : am_E d 212 Q (21, L, .int y :: .int x :: st, g) ↔ am_E d 212 Q (am_cmp .ne x y 75 24, L, st, g) := am_E_ic (by decide +kernel : am_dc 212 21 = some (.if_icmp .ne (54))) rfl rfl
theorem x_212_24   : am_E d 212 Q (24, L, st, g) ↔ am_K d 212 Q (am_ldA 25 L st g 0) := am_E_aload_n (by decide +kernel : am_dc 212 24 = some (.aload_n 0)) rfl rfl
theorem x_212_25   : am_E d 212 Q (25, L, v :: st, g) ↔ if v.category = 1 then am_E d 212 Q (26, L, v :: v :: st, g) else False := am_E_dup (by decide +kernel : am_dc 212 25 = some (.dup)) rfl
theorem x_212_26   : am_E d 212 Q (26, L, .ref a :: st, g) ↔ am_kv d 212 Q 29 L st g (am_gf g a 11 59) := am_E_getfield (by decide +kernel : am_dc 212 26 = some (.getfield 312)) (by decide +kernel) rfl
theorem x_212_29   : am_E d 212 Q (29, L, st, g) ↔ am_E d 212 Q (30, L, .int (1) :: st, g) := am_E_iconst (by decide +kernel : am_dc 212 29 = some (.iconst (1))) (by decide) rfl
theorem x_212_30   : am_E d 212 Q (30, L, .int y :: .int x :: st, g) ↔ am_E d 212 Q (31, L, .int (x - y) :: st, g) := am_E_isub (by decide +kernel : am_dc 212 30 = some (.isub)) rfl
theorem x_212_31   (hok : (am_ok (am_ft 11 59).1 v && (!(am_ft 11 59).2 || (am_ini 212 && am_co 11 == am_o 212)) && decide (11 < 13)) = true) : am_E d 212 Q (31, L, v :: .ref a :: st, g) ↔ am_kg d 212 Q 34 L st (am_pf g a 11 59 v) := am_E_putfield (by decide +kernel : am_dc 212 31 = some (.putfield 312)) (by decide +kernel) rfl hok
theorem x_212_34   : am_E d 212 Q (34, L, st, g) ↔ am_K d 212 Q (am_ldA 35 L st g 0) := am_E_aload_n (by decide +kernel : am_dc 212 34 = some (.aload_n 0)) rfl rfl
theorem x_212_35   : am_E d 212 Q (35, L, st, g) ↔ am_K d 212 Q (am_ldA 36 L st g 0) := am_E_aload_n (by decide +kernel : am_dc 212 35 = some (.aload_n 0)) rfl rfl
theorem x_212_36   : am_E d 212 Q (36, L, .ref a :: st, g) ↔ am_kv d 212 Q 39 L st g (am_gf g a 11 60) := am_E_getfield (by decide +kernel : am_dc 212 36 = some (.getfield 146)) (by decide +kernel) rfl
theorem x_212_39   : am_E d 212 Q (39, L, st, g) ↔ am_K d 212 Q (am_ldA 40 L st g 0) := am_E_aload_n (by decide +kernel : am_dc 212 39 = some (.aload_n 0)) rfl rfl
theorem x_212_40   : am_E d 212 Q (40, L, .ref a :: st, g) ↔ am_kv d 212 Q 43 L st g (am_gf g a 11 59) := am_E_getfield (by decide +kernel : am_dc 212 40 = some (.getfield 312)) (by decide +kernel) rfl
theorem x_212_43   : am_E d 212 Q (43, L, .int x :: .ref a :: st, g) ↔ am_kv d 212 Q 44 L st g (am_iat .iaload g a x) := am_E_iaload (by decide +kernel : am_dc 212 43 = some (.iaload)) rfl
theorem x_212_44   (hok : (am_ok (am_ft 11 62).1 v && (!(am_ft 11 62).2 || (am_ini 212 && am_co 11 == am_o 212)) && decide (11 < 13)) = true) : am_E d 212 Q (44, L, v :: .ref a :: st, g) ↔ am_kg d 212 Q 47 L st (am_pf g a 11 62 v) := am_E_putfield (by decide +kernel : am_dc 212 44 = some (.putfield 305)) (by decide +kernel) rfl hok
theorem x_212_47   : am_E d 212 Q (47, L, st, g) ↔ am_K d 212 Q (am_ldA 48 L st g 0) := am_E_aload_n (by decide +kernel : am_dc 212 47 = some (.aload_n 0)) rfl rfl
theorem x_212_48   : am_E d 212 Q (48, L, st, g) ↔ am_K d 212 Q (am_ldA 49 L st g 0) := am_E_aload_n (by decide +kernel : am_dc 212 48 = some (.aload_n 0)) rfl rfl
theorem x_212_49   : am_E d 212 Q (49, L, .ref a :: st, g) ↔ am_kv d 212 Q 52 L st g (am_gf g a 11 61) := am_E_getfield (by decide +kernel : am_dc 212 49 = some (.getfield 149)) (by decide +kernel) rfl
theorem x_212_52   : am_E d 212 Q (52, L, st, g) ↔ am_K d 212 Q (am_ldA 53 L st g 0) := am_E_aload_n (by decide +kernel : am_dc 212 52 = some (.aload_n 0)) rfl rfl
theorem x_212_53   : am_E d 212 Q (53, L, .ref a :: st, g) ↔ am_kv d 212 Q 56 L st g (am_gf g a 11 59) := am_E_getfield (by decide +kernel : am_dc 212 53 = some (.getfield 312)) (by decide +kernel) rfl
theorem x_212_56   : am_E d 212 Q (56, L, .int x :: .ref a :: st, g) ↔ am_kv d 212 Q 57 L st g (am_iat .laload g a x) := am_E_laload (by decide +kernel : am_dc 212 56 = some (.laload)) rfl
theorem x_212_57   (hok : (am_ok (am_ft 11 63).1 v && (!(am_ft 11 63).2 || (am_ini 212 && am_co 11 == am_o 212)) && decide (11 < 13)) = true) : am_E d 212 Q (57, L, v :: .ref a :: st, g) ↔ am_kg d 212 Q 60 L st (am_pf g a 11 63 v) := am_E_putfield (by decide +kernel : am_dc 212 57 = some (.putfield 308)) (by decide +kernel) rfl hok
theorem x_212_60   : am_E d 212 Q (60, L, st, g) ↔ am_K d 212 Q (am_ldA 61 L st g 0) := am_E_aload_n (by decide +kernel : am_dc 212 60 = some (.aload_n 0)) rfl rfl
theorem x_212_61   : am_E d 212 Q (61, L, v :: st, g) ↔ if v.category = 1 then am_E d 212 Q (62, L, v :: v :: st, g) else False := am_E_dup (by decide +kernel : am_dc 212 61 = some (.dup)) rfl
theorem x_212_62   : am_E d 212 Q (62, L, .ref a :: st, g) ↔ am_kv d 212 Q 65 L st g (am_gf g a 11 47) := am_E_getfield (by decide +kernel : am_dc 212 62 = some (.getfield 315)) (by decide +kernel) rfl
theorem x_212_65   : am_E d 212 Q (65, L, st, g) ↔ am_E d 212 Q (66, L, .int (1) :: st, g) := am_E_iconst (by decide +kernel : am_dc 212 65 = some (.iconst (1))) (by decide) rfl
theorem x_212_66   : am_E d 212 Q (66, L, .int y :: .int x :: st, g) ↔ am_E d 212 Q (67, L, .int (x - y) :: st, g) := am_E_isub (by decide +kernel : am_dc 212 66 = some (.isub)) rfl
theorem x_212_67   (hok : (am_ok (am_ft 11 47).1 v && (!(am_ft 11 47).2 || (am_ini 212 && am_co 11 == am_o 212)) && decide (11 < 13)) = true) : am_E d 212 Q (67, L, v :: .ref a :: st, g) ↔ am_kg d 212 Q 70 L st (am_pf g a 11 47 v) := am_E_putfield (by decide +kernel : am_dc 212 67 = some (.putfield 315)) (by decide +kernel) rfl hok
theorem x_212_70   : am_E d 212 Q (70, L, st, g) ↔ am_K d 212 Q (am_ldA 71 L st g 0) := am_E_aload_n (by decide +kernel : am_dc 212 70 = some (.aload_n 0)) rfl rfl
theorem x_212_71  : am_E d 212 Q (71, L, st, g) ↔ am_K d 212 Q (am_S 212 (.invokevirtual 328) 71 L st g) := am_E_x (by decide +kernel : am_dc 212 71 = some (.invokevirtual 328))
theorem x_212_74  : am_E d 212 Q (74, L, [], g) ↔ Q (.inl none) g := am_E_return (by decide +kernel : am_dc 212 74 = some (.return_)) (by decide +kernel)
theorem x_212_75   : am_E d 212 Q (75, L, st, g) ↔ am_K d 212 Q (am_ldA 76 L st g 0) := am_E_aload_n (by decide +kernel : am_dc 212 75 = some (.aload_n 0)) rfl rfl
theorem x_212_76   : am_E d 212 Q (76, L, .ref a :: st, g) ↔ am_kv d 212 Q 79 L st g (am_gf g a 11 15) := am_E_getfield (by decide +kernel : am_dc 212 76 = some (.getfield 51)) (by decide +kernel) rfl
theorem x_212_79   : am_E d 212 Q (79, L, st, g) ↔ am_E d 212 Q (81, L, .int (64) :: st, g) := am_E_bipush (by decide +kernel : am_dc 212 79 = some (.bipush (64))) (by decide) rfl
theorem x_212_81   : am_E d 212 Q (81, L, st, g) ↔ am_K d 212 Q (am_ldI 82 L st g 3) := am_E_iload_n (by decide +kernel : am_dc 212 81 = some (.iload_n 3)) rfl rfl
theorem x_212_82   : am_E d 212 Q (82, L, .int y :: .int x :: st, g) ↔ am_E d 212 Q (83, L, .int (x * y) :: st, g) := am_E_imul (by decide +kernel : am_dc 212 82 = some (.imul)) rfl
theorem x_212_83   : am_E d 212 Q (83, L, st, g) ↔ am_K d 212 Q (am_ldI 84 L st g 2) := am_E_iload_n (by decide +kernel : am_dc 212 83 = some (.iload_n 2)) rfl rfl
theorem x_212_84   : am_E d 212 Q (84, L, .int y :: .int x :: st, g) ↔ am_E d 212 Q (85, L, .int (x + y) :: st, g) := am_E_iadd (by decide +kernel : am_dc 212 84 = some (.iadd)) rfl
theorem x_212_85   : am_E d 212 Q (85, L, .int x :: .ref a :: st, g) ↔ am_kv d 212 Q 86 L st g (am_iat .iaload g a x) := am_E_iaload (by decide +kernel : am_dc 212 85 = some (.iaload)) rfl
theorem x_212_86   : am_E d 212 Q (86, L, st, g) ↔ am_K d 212 Q (am_stI 88 L st g 4) := am_E_istore (by decide +kernel : am_dc 212 86 = some (.istore 4)) rfl
theorem x_212_88   : am_E d 212 Q (88, L, st, g) ↔ am_K d 212 Q (am_ldA 89 L st g 0) := am_E_aload_n (by decide +kernel : am_dc 212 88 = some (.aload_n 0)) rfl rfl
theorem x_212_89   : am_E d 212 Q (89, L, .ref a :: st, g) ↔ am_kv d 212 Q 92 L st g (am_gf g a 11 16) := am_E_getfield (by decide +kernel : am_dc 212 89 = some (.getfield 54)) (by decide +kernel) rfl
theorem x_212_92   : am_E d 212 Q (92, L, st, g) ↔ am_E d 212 Q (94, L, .int (64) :: st, g) := am_E_bipush (by decide +kernel : am_dc 212 92 = some (.bipush (64))) (by decide) rfl
theorem x_212_94   : am_E d 212 Q (94, L, st, g) ↔ am_K d 212 Q (am_ldI 95 L st g 3) := am_E_iload_n (by decide +kernel : am_dc 212 94 = some (.iload_n 3)) rfl rfl
theorem x_212_95   : am_E d 212 Q (95, L, .int y :: .int x :: st, g) ↔ am_E d 212 Q (96, L, .int (x * y) :: st, g) := am_E_imul (by decide +kernel : am_dc 212 95 = some (.imul)) rfl
theorem x_212_96   : am_E d 212 Q (96, L, st, g) ↔ am_K d 212 Q (am_ldI 97 L st g 2) := am_E_iload_n (by decide +kernel : am_dc 212 96 = some (.iload_n 2)) rfl rfl
theorem x_212_97   : am_E d 212 Q (97, L, .int y :: .int x :: st, g) ↔ am_E d 212 Q (98, L, .int (x + y) :: st, g) := am_E_iadd (by decide +kernel : am_dc 212 97 = some (.iadd)) rfl
theorem x_212_98   : am_E d 212 Q (98, L, .int x :: .ref a :: st, g) ↔ am_kv d 212 Q 99 L st g (am_iat .iaload g a x) := am_E_iaload (by decide +kernel : am_dc 212 98 = some (.iaload)) rfl
theorem x_212_99   : am_E d 212 Q (99, L, st, g) ↔ am_K d 212 Q (am_stI 101 L st g 5) := am_E_istore (by decide +kernel : am_dc 212 99 = some (.istore 5)) rfl
theorem x_212_101   : am_E d 212 Q (101, L, st, g) ↔ am_K d 212 Q (am_ldA 102 L st g 0) := am_E_aload_n (by decide +kernel : am_dc 212 101 = some (.aload_n 0)) rfl rfl
theorem x_212_102   : am_E d 212 Q (102, L, .ref a :: st, g) ↔ am_kv d 212 Q 105 L st g (am_gf g a 11 17) := am_E_getfield (by decide +kernel : am_dc 212 102 = some (.getfield 57)) (by decide +kernel) rfl
theorem x_212_105   : am_E d 212 Q (105, L, st, g) ↔ am_E d 212 Q (107, L, .int (64) :: st, g) := am_E_bipush (by decide +kernel : am_dc 212 105 = some (.bipush (64))) (by decide) rfl
theorem x_212_107   : am_E d 212 Q (107, L, st, g) ↔ am_K d 212 Q (am_ldI 108 L st g 3) := am_E_iload_n (by decide +kernel : am_dc 212 107 = some (.iload_n 3)) rfl rfl
theorem x_212_108   : am_E d 212 Q (108, L, .int y :: .int x :: st, g) ↔ am_E d 212 Q (109, L, .int (x * y) :: st, g) := am_E_imul (by decide +kernel : am_dc 212 108 = some (.imul)) rfl
theorem x_212_109   : am_E d 212 Q (109, L, st, g) ↔ am_K d 212 Q (am_ldI 110 L st g 2) := am_E_iload_n (by decide +kernel : am_dc 212 109 = some (.iload_n 2)) rfl rfl
theorem x_212_110   : am_E d 212 Q (110, L, .int y :: .int x :: st, g) ↔ am_E d 212 Q (111, L, .int (x + y) :: st, g) := am_E_iadd (by decide +kernel : am_dc 212 110 = some (.iadd)) rfl
theorem x_212_111   : am_E d 212 Q (111, L, .int x :: .ref a :: st, g) ↔ am_kv d 212 Q 112 L st g (am_iat .iaload g a x) := am_E_iaload (by decide +kernel : am_dc 212 111 = some (.iaload)) rfl
theorem x_212_112   : am_E d 212 Q (112, L, st, g) ↔ am_K d 212 Q (am_stI 114 L st g 6) := am_E_istore (by decide +kernel : am_dc 212 112 = some (.istore 6)) rfl
theorem x_212_114   : am_E d 212 Q (114, L, st, g) ↔ am_K d 212 Q (am_ldA 115 L st g 0) := am_E_aload_n (by decide +kernel : am_dc 212 114 = some (.aload_n 0)) rfl rfl
theorem x_212_115   : am_E d 212 Q (115, L, .ref a :: st, g) ↔ am_kv d 212 Q 118 L st g (am_gf g a 11 52) := am_E_getfield (by decide +kernel : am_dc 212 115 = some (.getfield 124)) (by decide +kernel) rfl
theorem x_212_118   : am_E d 212 Q (118, L, st, g) ↔ am_K d 212 Q (am_ldI 119 L st g 1) := am_E_iload_n (by decide +kernel : am_dc 212 118 = some (.iload_n 1)) rfl rfl
theorem x_212_119   : am_E d 212 Q (119, L, st, g) ↔ am_K d 212 Q (am_ldI 120 L st g 2) := am_E_iload_n (by decide +kernel : am_dc 212 119 = some (.iload_n 2)) rfl rfl
theorem x_212_120   : am_E d 212 Q (120, L, st, g) ↔ am_E d 212 Q (121, L, .int (1) :: st, g) := am_E_iconst (by decide +kernel : am_dc 212 120 = some (.iconst (1))) (by decide) rfl
theorem x_212_121   : am_E d 212 Q (121, L, .int y :: .int x :: st, g) ↔ am_E d 212 Q (122, L, .int (x + y) :: st, g) := am_E_iadd (by decide +kernel : am_dc 212 121 = some (.iadd)) rfl
theorem x_212_122   : am_E d 212 Q (122, L, v :: .int x :: .ref a :: st, g) ↔ am_kg d 212 Q 123 L st (am_sat .iastore g a x v) := am_E_iastore (by decide +kernel : am_dc 212 122 = some (.iastore)) rfl
theorem x_212_123   : am_E d 212 Q (123, L, st, g) ↔ am_K d 212 Q (am_ldI 125 L st g 4) := am_E_iload (by decide +kernel : am_dc 212 123 = some (.iload 4)) rfl
theorem x_212_125   : am_E d 212 Q (125, L, .int x :: st, g) ↔ am_E d 212 Q (am_cmp .ne x 0 143 128, L, st, g) := am_E_if (by decide +kernel : am_dc 212 125 = some (.ifCond .ne (18))) rfl rfl
theorem x_212_128   : am_E d 212 Q (128, L, st, g) ↔ am_K d 212 Q (am_ldA 129 L st g 0) := am_E_aload_n (by decide +kernel : am_dc 212 128 = some (.aload_n 0)) rfl rfl
theorem x_212_129   : am_E d 212 Q (129, L, st, g) ↔ am_E d 212 Q (130, L, .int (0) :: st, g) := am_E_iconst (by decide +kernel : am_dc 212 129 = some (.iconst (0))) (by decide) rfl
theorem x_212_130  : am_E d 212 Q (130, L, st, g) ↔ am_K d 212 Q (am_S 212 (.ldc2_w 382) 130 L st g) := am_E_x (by decide +kernel : am_dc 212 130 = some (.ldc2_w 382))
theorem x_212_133   : am_E d 212 Q (133, L, st, g) ↔ am_K d 212 Q (am_ldI 135 L st g 5) := am_E_iload (by decide +kernel : am_dc 212 133 = some (.iload 5)) rfl
theorem x_212_135   : am_E d 212 Q (135, L, .int x :: st, g) ↔ am_E d 212 Q (136, L, .long x.toInt64 :: st, g) := am_E_i2l (by decide +kernel : am_dc 212 135 = some (.i2l)) rfl
theorem x_212_136   : am_E d 212 Q (136, L, .long w :: .long u :: st, g) ↔ am_E d 212 Q (137, L, .long (u * w) :: st, g) := am_E_lmul (by decide +kernel : am_dc 212 136 = some (.lmul)) rfl
theorem x_212_137  : am_E d 212 Q (137, L, st, g) ↔ am_K d 212 Q (am_S 212 (.invokevirtual 356) 137 L st g) := am_E_x (by decide +kernel : am_dc 212 137 = some (.invokevirtual 356))
theorem x_212_140   : am_E d 212 Q (140, L, st, g) ↔ am_E d 212 Q (285, L, st, g) := am_E_gt (by decide +kernel : am_dc 212 140 = some (.goto (145))) rfl rfl
theorem x_212_143   : am_E d 212 Q (143, L, st, g) ↔ am_K d 212 Q (am_ldI 145 L st g 4) := am_E_iload (by decide +kernel : am_dc 212 143 = some (.iload 4)) rfl
theorem x_212_145   : am_E d 212 Q (145, L, st, g) ↔ am_E d 212 Q (146, L, .int (1) :: st, g) := am_E_iconst (by decide +kernel : am_dc 212 145 = some (.iconst (1))) (by decide) rfl
theorem x_212_146   : am_E d 212 Q (146, L, .int y :: .int x :: st, g) ↔ am_E d 212 Q (am_cmp .ne x y 161 149, L, st, g) := am_E_ic (by decide +kernel : am_dc 212 146 = some (.if_icmp .ne (15))) rfl rfl
theorem x_212_149   : am_E d 212 Q (149, L, st, g) ↔ am_K d 212 Q (am_ldA 150 L st g 0) := am_E_aload_n (by decide +kernel : am_dc 212 149 = some (.aload_n 0)) rfl rfl
theorem x_212_150   : am_E d 212 Q (150, L, st, g) ↔ am_K d 212 Q (am_ldI 151 L st g 1) := am_E_iload_n (by decide +kernel : am_dc 212 150 = some (.iload_n 1)) rfl rfl
theorem x_212_151   : am_E d 212 Q (151, L, st, g) ↔ am_K d 212 Q (am_ldI 153 L st g 5) := am_E_iload (by decide +kernel : am_dc 212 151 = some (.iload 5)) rfl
theorem x_212_153   : am_E d 212 Q (153, L, st, g) ↔ am_K d 212 Q (am_ldI 155 L st g 6) := am_E_iload (by decide +kernel : am_dc 212 153 = some (.iload 6)) rfl
theorem x_212_155  : am_E d 212 Q (155, L, st, g) ↔ am_K d 212 Q (am_S 212 (.invokevirtual 384) 155 L st g) := am_E_x (by decide +kernel : am_dc 212 155 = some (.invokevirtual 384))
theorem x_212_158   : am_E d 212 Q (158, L, st, g) ↔ am_E d 212 Q (285, L, st, g) := am_E_gt (by decide +kernel : am_dc 212 158 = some (.goto (127))) rfl rfl
theorem x_212_161   : am_E d 212 Q (161, L, st, g) ↔ am_K d 212 Q (am_ldI 163 L st g 4) := am_E_iload (by decide +kernel : am_dc 212 161 = some (.iload 4)) rfl
theorem x_212_163   : am_E d 212 Q (163, L, st, g) ↔ am_E d 212 Q (165, L, .int (7) :: st, g) := am_E_bipush (by decide +kernel : am_dc 212 163 = some (.bipush (7))) (by decide) rfl
theorem x_212_165   : am_E d 212 Q (165, L, .int y :: .int x :: st, g) ↔ am_E d 212 Q (am_cmp .ne x y 179 168, L, st, g) := am_E_ic (by decide +kernel : am_dc 212 165 = some (.if_icmp .ne (14))) rfl rfl
theorem x_212_168   : am_E d 212 Q (168, L, st, g) ↔ am_K d 212 Q (am_ldA 169 L st g 0) := am_E_aload_n (by decide +kernel : am_dc 212 168 = some (.aload_n 0)) rfl rfl
theorem x_212_169   : am_E d 212 Q (169, L, .ref a :: st, g) ↔ am_kv d 212 Q 172 L st g (am_gf g a 11 52) := am_E_getfield (by decide +kernel : am_dc 212 169 = some (.getfield 124)) (by decide +kernel) rfl
theorem x_212_172   : am_E d 212 Q (172, L, st, g) ↔ am_K d 212 Q (am_ldI 173 L st g 1) := am_E_iload_n (by decide +kernel : am_dc 212 172 = some (.iload_n 1)) rfl rfl
theorem x_212_173   : am_E d 212 Q (173, L, st, g) ↔ am_K d 212 Q (am_ldI 175 L st g 5) := am_E_iload (by decide +kernel : am_dc 212 173 = some (.iload 5)) rfl
theorem x_212_175   : am_E d 212 Q (175, L, v :: .int x :: .ref a :: st, g) ↔ am_kg d 212 Q 176 L st (am_sat .iastore g a x v) := am_E_iastore (by decide +kernel : am_dc 212 175 = some (.iastore)) rfl
theorem x_212_176   : am_E d 212 Q (176, L, st, g) ↔ am_E d 212 Q (285, L, st, g) := am_E_gt (by decide +kernel : am_dc 212 176 = some (.goto (109))) rfl rfl
theorem x_212_179   : am_E d 212 Q (179, L, st, g) ↔ am_K d 212 Q (am_ldI 181 L st g 4) := am_E_iload (by decide +kernel : am_dc 212 179 = some (.iload 4)) rfl
theorem x_212_181   : am_E d 212 Q (181, L, st, g) ↔ am_E d 212 Q (183, L, .int (6) :: st, g) := am_E_bipush (by decide +kernel : am_dc 212 181 = some (.bipush (6))) (by decide) rfl
theorem x_212_183   : am_E d 212 Q (183, L, .int y :: .int x :: st, g) ↔ am_E d 212 Q (am_cmp .ne x y 279 186, L, st, g) := am_E_ic (by decide +kernel : am_dc 212 183 = some (.if_icmp .ne (96))) rfl rfl
theorem x_212_186   : am_E d 212 Q (186, L, st, g) ↔ am_K d 212 Q (am_ldA 187 L st g 0) := am_E_aload_n (by decide +kernel : am_dc 212 186 = some (.aload_n 0)) rfl rfl
theorem x_212_187   : am_E d 212 Q (187, L, .ref a :: st, g) ↔ am_kv d 212 Q 190 L st g (am_gf g a 11 60) := am_E_getfield (by decide +kernel : am_dc 212 187 = some (.getfield 146)) (by decide +kernel) rfl
theorem x_212_190   : am_E d 212 Q (190, L, st, g) ↔ am_K d 212 Q (am_ldA 191 L st g 0) := am_E_aload_n (by decide +kernel : am_dc 212 190 = some (.aload_n 0)) rfl rfl
theorem x_212_191   : am_E d 212 Q (191, L, .ref a :: st, g) ↔ am_kv d 212 Q 194 L st g (am_gf g a 11 59) := am_E_getfield (by decide +kernel : am_dc 212 191 = some (.getfield 312)) (by decide +kernel) rfl
theorem x_212_194   : am_E d 212 Q (194, L, st, g) ↔ am_E d 212 Q (195, L, .int (1) :: st, g) := am_E_iconst (by decide +kernel : am_dc 212 194 = some (.iconst (1))) (by decide) rfl
theorem x_212_195   : am_E d 212 Q (195, L, .int y :: .int x :: st, g) ↔ am_E d 212 Q (196, L, .int (x - y) :: st, g) := am_E_isub (by decide +kernel : am_dc 212 195 = some (.isub)) rfl
theorem x_212_196   : am_E d 212 Q (196, L, .int x :: .ref a :: st, g) ↔ am_kv d 212 Q 197 L st g (am_iat .iaload g a x) := am_E_iaload (by decide +kernel : am_dc 212 196 = some (.iaload)) rfl
theorem x_212_197  : am_E d 212 Q (197, L, st, g) ↔ am_K d 212 Q (am_S 212 (.invokestatic 387) 197 L st g) := am_E_x (by decide +kernel : am_dc 212 197 = some (.invokestatic 387))
theorem x_212_200   : am_E d 212 Q (200, L, st, g) ↔ am_K d 212 Q (am_stI 202 L st g 7) := am_E_istore (by decide +kernel : am_dc 212 200 = some (.istore 7)) rfl
theorem x_212_202   : am_E d 212 Q (202, L, st, g) ↔ am_K d 212 Q (am_ldA 203 L st g 0) := am_E_aload_n (by decide +kernel : am_dc 212 202 = some (.aload_n 0)) rfl rfl
theorem x_212_203   : am_E d 212 Q (203, L, .ref a :: st, g) ↔ am_kv d 212 Q 206 L st g (am_gf g a 11 61) := am_E_getfield (by decide +kernel : am_dc 212 203 = some (.getfield 149)) (by decide +kernel) rfl
theorem x_212_206   : am_E d 212 Q (206, L, st, g) ↔ am_K d 212 Q (am_ldA 207 L st g 0) := am_E_aload_n (by decide +kernel : am_dc 212 206 = some (.aload_n 0)) rfl rfl
theorem x_212_207   : am_E d 212 Q (207, L, .ref a :: st, g) ↔ am_kv d 212 Q 210 L st g (am_gf g a 11 59) := am_E_getfield (by decide +kernel : am_dc 212 207 = some (.getfield 312)) (by decide +kernel) rfl
theorem x_212_210   : am_E d 212 Q (210, L, st, g) ↔ am_E d 212 Q (211, L, .int (1) :: st, g) := am_E_iconst (by decide +kernel : am_dc 212 210 = some (.iconst (1))) (by decide) rfl
theorem x_212_211   : am_E d 212 Q (211, L, .int y :: .int x :: st, g) ↔ am_E d 212 Q (212, L, .int (x - y) :: st, g) := am_E_isub (by decide +kernel : am_dc 212 211 = some (.isub)) rfl
theorem x_212_212   : am_E d 212 Q (212, L, .int x :: .ref a :: st, g) ↔ am_kv d 212 Q 213 L st g (am_iat .laload g a x) := am_E_laload (by decide +kernel : am_dc 212 212 = some (.laload)) rfl
theorem x_212_213   : am_E d 212 Q (213, L, st, g) ↔ am_E d 212 Q (214, L, .long (0) :: st, g) := am_E_lconst (by decide +kernel : am_dc 212 213 = some (.lconst 0)) (by decide) rfl
theorem x_212_214   : am_E d 212 Q (214, L, .long w :: .long u :: st, g) ↔ am_E d 212 Q (215, L, .int (lg_cmp u w) :: st, g) := am_E_lcmp (by decide +kernel : am_dc 212 214 = some (.lcmp)) rfl
theorem x_212_215   : am_E d 212 Q (215, L, .int x :: st, g) ↔ am_E d 212 Q (am_cmp .le x 0 222 218, L, st, g) := am_E_if (by decide +kernel : am_dc 212 215 = some (.ifCond .le (7))) rfl rfl
theorem x_212_218   : am_E d 212 Q (218, L, st, g) ↔ am_E d 212 Q (219, L, .int (1) :: st, g) := am_E_iconst (by decide +kernel : am_dc 212 218 = some (.iconst (1))) (by decide) rfl
theorem x_212_219   : am_E d 212 Q (219, L, st, g) ↔ am_E d 212 Q (223, L, st, g) := am_E_gt (by decide +kernel : am_dc 212 219 = some (.goto (4))) rfl rfl
theorem x_212_222   : am_E d 212 Q (222, L, st, g) ↔ am_E d 212 Q (223, L, .int (0) :: st, g) := am_E_iconst (by decide +kernel : am_dc 212 222 = some (.iconst (0))) (by decide) rfl
theorem x_212_223   : am_E d 212 Q (223, L, st, g) ↔ am_K d 212 Q (am_stI 225 L st g 8) := am_E_istore (by decide +kernel : am_dc 212 223 = some (.istore 8)) rfl
theorem x_212_225   : am_E d 212 Q (225, L, st, g) ↔ am_K d 212 Q (am_ldA 226 L st g 0) := am_E_aload_n (by decide +kernel : am_dc 212 225 = some (.aload_n 0)) rfl rfl
theorem x_212_226   : am_E d 212 Q (226, L, st, g) ↔ am_K d 212 Q (am_ldI 228 L st g 7) := am_E_iload (by decide +kernel : am_dc 212 226 = some (.iload 7)) rfl
theorem x_212_228   : am_E d 212 Q (228, L, .int x :: st, g) ↔ am_E d 212 Q (am_cmp .eq x 0 238 231, L, st, g) := am_E_if (by decide +kernel : am_dc 212 228 = some (.ifCond .eq (10))) rfl rfl
theorem x_212_231   : am_E d 212 Q (231, L, st, g) ↔ am_K d 212 Q (am_ldA 232 L st g 0) := am_E_aload_n (by decide +kernel : am_dc 212 231 = some (.aload_n 0)) rfl rfl
theorem x_212_232   : am_E d 212 Q (232, L, .ref a :: st, g) ↔ am_kv d 212 Q 235 L st g (am_gf g a 11 59) := am_E_getfield (by decide +kernel : am_dc 212 232 = some (.getfield 312)) (by decide +kernel) rfl
theorem x_212_235   : am_E d 212 Q (235, L, st, g) ↔ am_E d 212 Q (244, L, st, g) := am_E_gt (by decide +kernel : am_dc 212 235 = some (.goto (9))) rfl rfl
theorem x_212_238   : am_E d 212 Q (238, L, st, g) ↔ am_K d 212 Q (am_ldA 239 L st g 0) := am_E_aload_n (by decide +kernel : am_dc 212 238 = some (.aload_n 0)) rfl rfl
theorem x_212_239   : am_E d 212 Q (239, L, .ref a :: st, g) ↔ am_kv d 212 Q 242 L st g (am_gf g a 11 59) := am_E_getfield (by decide +kernel : am_dc 212 239 = some (.getfield 312)) (by decide +kernel) rfl
theorem x_212_242   : am_E d 212 Q (242, L, st, g) ↔ am_E d 212 Q (243, L, .int (1) :: st, g) := am_E_iconst (by decide +kernel : am_dc 212 242 = some (.iconst (1))) (by decide) rfl
theorem x_212_243   : am_E d 212 Q (243, L, .int y :: .int x :: st, g) ↔ am_E d 212 Q (244, L, .int (x - y) :: st, g) := am_E_isub (by decide +kernel : am_dc 212 243 = some (.isub)) rfl
theorem x_212_244   (hok : (am_ok (am_ft 11 59).1 v && (!(am_ft 11 59).2 || (am_ini 212 && am_co 11 == am_o 212)) && decide (11 < 13)) = true) : am_E d 212 Q (244, L, v :: .ref a :: st, g) ↔ am_kg d 212 Q 247 L st (am_pf g a 11 59 v) := am_E_putfield (by decide +kernel : am_dc 212 244 = some (.putfield 312)) (by decide +kernel) rfl hok
theorem x_212_247   : am_E d 212 Q (247, L, st, g) ↔ am_K d 212 Q (am_ldA 248 L st g 0) := am_E_aload_n (by decide +kernel : am_dc 212 247 = some (.aload_n 0)) rfl rfl
theorem x_212_248   : am_E d 212 Q (248, L, .ref a :: st, g) ↔ am_kv d 212 Q 251 L st g (am_gf g a 11 52) := am_E_getfield (by decide +kernel : am_dc 212 248 = some (.getfield 124)) (by decide +kernel) rfl
theorem x_212_251   : am_E d 212 Q (251, L, st, g) ↔ am_K d 212 Q (am_ldI 252 L st g 1) := am_E_iload_n (by decide +kernel : am_dc 212 251 = some (.iload_n 1)) rfl rfl
theorem x_212_252   : am_E d 212 Q (252, L, st, g) ↔ am_K d 212 Q (am_ldI 254 L st g 7) := am_E_iload (by decide +kernel : am_dc 212 252 = some (.iload 7)) rfl
theorem x_212_254   : am_E d 212 Q (254, L, .int x :: st, g) ↔ am_E d 212 Q (am_cmp .eq x 0 262 257, L, st, g) := am_E_if (by decide +kernel : am_dc 212 254 = some (.ifCond .eq (8))) rfl rfl
theorem x_212_257   : am_E d 212 Q (257, L, st, g) ↔ am_K d 212 Q (am_ldI 259 L st g 6) := am_E_iload (by decide +kernel : am_dc 212 257 = some (.iload 6)) rfl
theorem x_212_259   : am_E d 212 Q (259, L, st, g) ↔ am_E d 212 Q (275, L, st, g) := am_E_gt (by decide +kernel : am_dc 212 259 = some (.goto (16))) rfl rfl
theorem x_212_262   : am_E d 212 Q (262, L, st, g) ↔ am_K d 212 Q (am_ldI 264 L st g 8) := am_E_iload (by decide +kernel : am_dc 212 262 = some (.iload 8)) rfl
theorem x_212_264   : am_E d 212 Q (264, L, .int x :: st, g) ↔ am_E d 212 Q (am_cmp .eq x 0 273 267, L, st, g) := am_E_if (by decide +kernel : am_dc 212 264 = some (.ifCond .eq (9))) rfl rfl
theorem x_212_267   : am_E d 212 Q (267, L, st, g) ↔ am_K d 212 Q (am_ldI 268 L st g 2) := am_E_iload_n (by decide +kernel : am_dc 212 267 = some (.iload_n 2)) rfl rfl
theorem x_212_268   : am_E d 212 Q (268, L, st, g) ↔ am_E d 212 Q (269, L, .int (1) :: st, g) := am_E_iconst (by decide +kernel : am_dc 212 268 = some (.iconst (1))) (by decide) rfl
theorem x_212_269   : am_E d 212 Q (269, L, .int y :: .int x :: st, g) ↔ am_E d 212 Q (270, L, .int (x + y) :: st, g) := am_E_iadd (by decide +kernel : am_dc 212 269 = some (.iadd)) rfl
theorem x_212_270   : am_E d 212 Q (270, L, st, g) ↔ am_E d 212 Q (275, L, st, g) := am_E_gt (by decide +kernel : am_dc 212 270 = some (.goto (5))) rfl rfl
theorem x_212_273   : am_E d 212 Q (273, L, st, g) ↔ am_K d 212 Q (am_ldI 275 L st g 5) := am_E_iload (by decide +kernel : am_dc 212 273 = some (.iload 5)) rfl
theorem x_212_275   : am_E d 212 Q (275, L, v :: .int x :: .ref a :: st, g) ↔ am_kg d 212 Q 276 L st (am_sat .iastore g a x v) := am_E_iastore (by decide +kernel : am_dc 212 275 = some (.iastore)) rfl
theorem x_212_276   : am_E d 212 Q (276, L, st, g) ↔ am_E d 212 Q (285, L, st, g) := am_E_gt (by decide +kernel : am_dc 212 276 = some (.goto (9))) rfl rfl
theorem x_212_279   : am_E d 212 Q (279, L, st, g) ↔ am_K d 212 Q (am_ldA 280 L st g 0) := am_E_aload_n (by decide +kernel : am_dc 212 279 = some (.aload_n 0)) rfl rfl
theorem x_212_280   : am_E d 212 Q (280, L, st, g) ↔ am_K d 212 Q (am_ldI 282 L st g 4) := am_E_iload (by decide +kernel : am_dc 212 280 = some (.iload 4)) rfl
theorem x_212_282  : am_E d 212 Q (282, L, st, g) ↔ am_K d 212 Q (am_S 212 (.invokevirtual 390) 282 L st g) := am_E_x (by decide +kernel : am_dc 212 282 = some (.invokevirtual 390))
theorem x_212_285  : am_E d 212 Q (285, L, [], g) ↔ Q (.inl none) g := am_E_return (by decide +kernel : am_dc 212 285 = some (.return_)) (by decide +kernel)
theorem f_212_124 : am_fl 212 124 = some (11, 52) := by decide +kernel
theorem f_212_121 : am_fl 212 121 = some (11, 51) := by decide +kernel
theorem f_212_48 : am_fl 212 48 = some (11, 14) := by decide +kernel
theorem f_212_312 : am_fl 212 312 = some (11, 59) := by decide +kernel
theorem f_212_146 : am_fl 212 146 = some (11, 60) := by decide +kernel
theorem f_212_305 : am_fl 212 305 = some (11, 62) := by decide +kernel
theorem f_212_149 : am_fl 212 149 = some (11, 61) := by decide +kernel
theorem f_212_308 : am_fl 212 308 = some (11, 63) := by decide +kernel
theorem f_212_315 : am_fl 212 315 = some (11, 47) := by decide +kernel
theorem v_212_328 : am_iv 212 328 = some (1, 167, 1) := by decide +kernel
theorem f_212_51 : am_fl 212 51 = some (11, 15) := by decide +kernel
theorem f_212_54 : am_fl 212 54 = some (11, 16) := by decide +kernel
theorem f_212_57 : am_fl 212 57 = some (11, 17) := by decide +kernel
theorem k_212_382 : am_cl8 212 382 = some (1000) := by decide +kernel
theorem v_212_356 : am_iv 212 356 = some (1, 217, 3) := by decide +kernel
theorem v_212_384 : am_iv 212 384 = some (1, 222, 4) := by decide +kernel
theorem v_212_387 : am_iv 212 387 = some (0, 177, 1) := by decide +kernel
theorem v_212_390 : am_iv 212 390 = some (1, 165, 2) := by decide +kernel
theorem t_212 : am_t 212 = none := by decide +kernel
theorem h_212 : am_h 212 = [] := by decide +kernel
theorem m_212 : am_m 212 = 9 := by decide +kernel
theorem x_213_0   : am_E d 213 Q (0, L, st, g) ↔ am_K d 213 Q (am_ldI 1 L st g 1) := am_E_iload_n (by decide +kernel : am_dc 213 0 = some (.iload_n 1)) rfl rfl
theorem x_213_1   : am_E d 213 Q (1, L, .int x :: st, g) ↔ am_E d 213 Q (am_cmp .ne x 0 11 4, L, st, g) := am_E_if (by decide +kernel : am_dc 213 1 = some (.ifCond .ne (10))) rfl rfl
theorem x_213_4   : am_E d 213 Q (4, L, st, g) ↔ am_K d 213 Q (am_ldI 5 L st g 0) := am_E_iload_n (by decide +kernel : am_dc 213 4 = some (.iload_n 0)) rfl rfl
theorem x_213_5   : am_E d 213 Q (5, L, st, g) ↔ am_E d 213 Q (7, L, .int (6) :: st, g) := am_E_bipush (by decide +kernel : am_dc 213 5 = some (.bipush (6))) (by decide) rfl
theorem x_213_7   : am_E d 213 Q (7, L, .int y :: .int x :: st, g) ↔ if y = 0 then False else am_E d 213 Q (8, L, .int (x - x / y * y) :: st, g) := am_E_irem (by decide +kernel : am_dc 213 7 = some (.irem)) rfl
theorem x_213_8   : am_E d 213 Q (8, L, st, g) ↔ am_E d 213 Q (30, L, st, g) := am_E_gt (by decide +kernel : am_dc 213 8 = some (.goto (22))) rfl rfl
theorem x_213_11   : am_E d 213 Q (11, L, st, g) ↔ am_K d 213 Q (am_ldI 12 L st g 1) := am_E_iload_n (by decide +kernel : am_dc 213 11 = some (.iload_n 1)) rfl rfl
theorem x_213_12   : am_E d 213 Q (12, L, st, g) ↔ am_E d 213 Q (13, L, .int (1) :: st, g) := am_E_iconst (by decide +kernel : am_dc 213 12 = some (.iconst (1))) (by decide) rfl
theorem x_213_13   : am_E d 213 Q (13, L, .int y :: .int x :: st, g) ↔ am_E d 213 Q (am_cmp .ne x y 26 16, L, st, g) := am_E_ic (by decide +kernel : am_dc 213 13 = some (.if_icmp .ne (13))) rfl rfl
theorem x_213_16   : am_E d 213 Q (16, L, st, g) ↔ am_K d 213 Q (am_ldI 17 L st g 0) := am_E_iload_n (by decide +kernel : am_dc 213 16 = some (.iload_n 0)) rfl rfl
theorem x_213_17   : am_E d 213 Q (17, L, st, g) ↔ am_E d 213 Q (19, L, .int (6) :: st, g) := am_E_bipush (by decide +kernel : am_dc 213 17 = some (.bipush (6))) (by decide) rfl
theorem x_213_19   : am_E d 213 Q (19, L, .int y :: .int x :: st, g) ↔ if y = 0 then False else am_E d 213 Q (20, L, .int (x / y) :: st, g) := am_E_idiv (by decide +kernel : am_dc 213 19 = some (.idiv)) rfl
theorem x_213_20   : am_E d 213 Q (20, L, st, g) ↔ am_E d 213 Q (22, L, .int (6) :: st, g) := am_E_bipush (by decide +kernel : am_dc 213 20 = some (.bipush (6))) (by decide) rfl
theorem x_213_22   : am_E d 213 Q (22, L, .int y :: .int x :: st, g) ↔ if y = 0 then False else am_E d 213 Q (23, L, .int (x - x / y * y) :: st, g) := am_E_irem (by decide +kernel : am_dc 213 22 = some (.irem)) rfl
theorem x_213_23   : am_E d 213 Q (23, L, st, g) ↔ am_E d 213 Q (30, L, st, g) := am_E_gt (by decide +kernel : am_dc 213 23 = some (.goto (7))) rfl rfl
theorem x_213_26   : am_E d 213 Q (26, L, st, g) ↔ am_K d 213 Q (am_ldI 27 L st g 0) := am_E_iload_n (by decide +kernel : am_dc 213 26 = some (.iload_n 0)) rfl rfl
theorem x_213_27   : am_E d 213 Q (27, L, st, g) ↔ am_E d 213 Q (29, L, .int (36) :: st, g) := am_E_bipush (by decide +kernel : am_dc 213 27 = some (.bipush (36))) (by decide) rfl
theorem x_213_29   : am_E d 213 Q (29, L, .int y :: .int x :: st, g) ↔ if y = 0 then False else am_E d 213 Q (30, L, .int (x / y) :: st, g) := am_E_idiv (by decide +kernel : am_dc 213 29 = some (.idiv)) rfl
theorem x_213_30  : am_E d 213 Q (30, L, [.int x], g) ↔ if am_ok (FieldType.int) (.int x) = true then Q (.inl (some (.int x))) g else False := am_E_ireturn (by decide +kernel : am_dc 213 30 = some (.ireturn)) (by decide +kernel)
theorem t_213 : am_t 213 = some (FieldType.int) := by decide +kernel
theorem h_213 : am_h 213 = [] := by decide +kernel
theorem m_213 : am_m 213 = 2 := by decide +kernel
theorem x_214_0   : am_E d 214 Q (0, L, st, g) ↔ am_K d 214 Q (am_ldI 1 L st g 2) := am_E_iload_n (by decide +kernel : am_dc 214 0 = some (.iload_n 2)) rfl rfl
theorem x_214_1   : am_E d 214 Q (1, L, st, g) ↔ am_E d 214 Q (2, L, .int (1) :: st, g) := am_E_iconst (by decide +kernel : am_dc 214 1 = some (.iconst (1))) (by decide) rfl
theorem x_214_2   : am_E d 214 Q (2, L, .int y :: .int x :: st, g) ↔ am_E d 214 Q (am_cmp .eq x y 10 5, L, st, g) := am_E_ic (by decide +kernel : am_dc 214 2 = some (.if_icmp .eq (8))) rfl rfl
theorem x_214_5   : am_E d 214 Q (5, L, st, g) ↔ am_K d 214 Q (am_ldI 6 L st g 2) := am_E_iload_n (by decide +kernel : am_dc 214 5 = some (.iload_n 2)) rfl rfl
theorem x_214_6   : am_E d 214 Q (6, L, st, g) ↔ am_E d 214 Q (7, L, .int (2) :: st, g) := am_E_iconst (by decide +kernel : am_dc 214 6 = some (.iconst (2))) (by decide) rfl
theorem x_214_7   : am_E d 214 Q (7, L, .int y :: .int x :: st, g) ↔ am_E d 214 Q (am_cmp .ne x y 14 10, L, st, g) := am_E_ic (by decide +kernel : am_dc 214 7 = some (.if_icmp .ne (7))) rfl rfl
theorem x_214_10   : am_E d 214 Q (10, L, st, g) ↔ am_E d 214 Q (11, L, .int (1) :: st, g) := am_E_iconst (by decide +kernel : am_dc 214 10 = some (.iconst (1))) (by decide) rfl
theorem x_214_11   : am_E d 214 Q (11, L, st, g) ↔ am_E d 214 Q (15, L, st, g) := am_E_gt (by decide +kernel : am_dc 214 11 = some (.goto (4))) rfl rfl
theorem x_214_14   : am_E d 214 Q (14, L, st, g) ↔ am_E d 214 Q (15, L, .int (0) :: st, g) := am_E_iconst (by decide +kernel : am_dc 214 14 = some (.iconst (0))) (by decide) rfl
theorem x_214_15   : am_E d 214 Q (15, L, st, g) ↔ am_K d 214 Q (am_stI 17 L st g 4) := am_E_istore (by decide +kernel : am_dc 214 15 = some (.istore 4)) rfl
theorem x_214_17   : am_E d 214 Q (17, L, st, g) ↔ am_K d 214 Q (am_ldA 18 L st g 0) := am_E_aload_n (by decide +kernel : am_dc 214 17 = some (.aload_n 0)) rfl rfl
theorem x_214_18   : am_E d 214 Q (18, L, st, g) ↔ am_K d 214 Q (am_ldI 19 L st g 1) := am_E_iload_n (by decide +kernel : am_dc 214 18 = some (.iload_n 1)) rfl rfl
theorem x_214_19  : am_E d 214 Q (19, L, st, g) ↔ am_K d 214 Q (am_S 214 (.invokestatic 171) 19 L st g) := am_E_x (by decide +kernel : am_dc 214 19 = some (.invokestatic 171))
theorem x_214_22   : am_E d 214 Q (22, L, .int x :: st, g) ↔ am_E d 214 Q (am_cmp .eq x 0 43 25, L, st, g) := am_E_if (by decide +kernel : am_dc 214 22 = some (.ifCond .eq (21))) rfl rfl
theorem x_214_25   : am_E d 214 Q (25, L, st, g) ↔ am_K d 214 Q (am_ldI 27 L st g 4) := am_E_iload (by decide +kernel : am_dc 214 25 = some (.iload 4)) rfl
theorem x_214_27   : am_E d 214 Q (27, L, .int x :: st, g) ↔ am_E d 214 Q (am_cmp .eq x 0 39 30, L, st, g) := am_E_if (by decide +kernel : am_dc 214 27 = some (.ifCond .eq (12))) rfl rfl
theorem x_214_30   : am_E d 214 Q (30, L, st, g) ↔ am_K d 214 Q (am_ldA 31 L st g 0) := am_E_aload_n (by decide +kernel : am_dc 214 30 = some (.aload_n 0)) rfl rfl
theorem x_214_31   : am_E d 214 Q (31, L, st, g) ↔ am_K d 214 Q (am_ldI 32 L st g 1) := am_E_iload_n (by decide +kernel : am_dc 214 31 = some (.iload_n 1)) rfl rfl
theorem x_214_32   : am_E d 214 Q (32, L, st, g) ↔ am_K d 214 Q (am_ldI 33 L st g 3) := am_E_iload_n (by decide +kernel : am_dc 214 32 = some (.iload_n 3)) rfl rfl
theorem x_214_33  : am_E d 214 Q (33, L, st, g) ↔ am_K d 214 Q (am_S 214 (.invokevirtual 189) 33 L st g) := am_E_x (by decide +kernel : am_dc 214 33 = some (.invokevirtual 189))
theorem x_214_36   : am_E d 214 Q (36, L, .int x :: st, g) ↔ am_E d 214 Q (am_cmp .eq x 0 43 39, L, st, g) := am_E_if (by decide +kernel : am_dc 214 36 = some (.ifCond .eq (7))) rfl rfl
theorem x_214_39   : am_E d 214 Q (39, L, st, g) ↔ am_E d 214 Q (40, L, .int (1) :: st, g) := am_E_iconst (by decide +kernel : am_dc 214 39 = some (.iconst (1))) (by decide) rfl
theorem x_214_40   : am_E d 214 Q (40, L, st, g) ↔ am_E d 214 Q (44, L, st, g) := am_E_gt (by decide +kernel : am_dc 214 40 = some (.goto (4))) rfl rfl
theorem x_214_43   : am_E d 214 Q (43, L, st, g) ↔ am_E d 214 Q (44, L, .int (0) :: st, g) := am_E_iconst (by decide +kernel : am_dc 214 43 = some (.iconst (0))) (by decide) rfl
theorem x_214_44   : am_E d 214 Q (44, L, st, g) ↔ am_K d 214 Q (am_ldI 45 L st g 2) := am_E_iload_n (by decide +kernel : am_dc 214 44 = some (.iload_n 2)) rfl rfl
theorem x_214_45   : am_E d 214 Q (45, L, .int x :: st, g) ↔ am_E d 214 Q (am_cmp .lt x 0 57 48, L, st, g) := am_E_if (by decide +kernel : am_dc 214 45 = some (.ifCond .lt (12))) rfl rfl
theorem x_214_48   : am_E d 214 Q (48, L, st, g) ↔ am_K d 214 Q (am_ldI 49 L st g 2) := am_E_iload_n (by decide +kernel : am_dc 214 48 = some (.iload_n 2)) rfl rfl
theorem x_214_49   : am_E d 214 Q (49, L, st, g) ↔ am_E d 214 Q (50, L, .int (2) :: st, g) := am_E_iconst (by decide +kernel : am_dc 214 49 = some (.iconst (2))) (by decide) rfl
theorem x_214_50   : am_E d 214 Q (50, L, .int y :: .int x :: st, g) ↔ am_E d 214 Q (am_cmp .gt x y 57 53, L, st, g) := am_E_ic (by decide +kernel : am_dc 214 50 = some (.if_icmp .gt (7))) rfl rfl
theorem x_214_53   : am_E d 214 Q (53, L, st, g) ↔ am_E d 214 Q (54, L, .int (1) :: st, g) := am_E_iconst (by decide +kernel : am_dc 214 53 = some (.iconst (1))) (by decide) rfl
theorem x_214_54   : am_E d 214 Q (54, L, st, g) ↔ am_E d 214 Q (58, L, st, g) := am_E_gt (by decide +kernel : am_dc 214 54 = some (.goto (4))) rfl rfl
theorem x_214_57   : am_E d 214 Q (57, L, st, g) ↔ am_E d 214 Q (58, L, .int (0) :: st, g) := am_E_iconst (by decide +kernel : am_dc 214 57 = some (.iconst (0))) (by decide) rfl
theorem x_214_58   : am_E d 214 Q (58, L, st, g) ↔ am_E d 214 Q (59, L, .int (1) :: st, g) := am_E_iconst (by decide +kernel : am_dc 214 58 = some (.iconst (1))) (by decide) rfl
theorem x_214_59  : am_E d 214 Q (59, L, st, g) ↔ am_K d 214 Q (am_S 214 (.invokevirtual 196) 59 L st g) := am_E_x (by decide +kernel : am_dc 214 59 = some (.invokevirtual 196))
theorem x_214_62   : am_E d 214 Q (62, L, .int x :: st, g) ↔ am_E d 214 Q (am_cmp .eq x 0 79 65, L, st, g) := am_E_if (by decide +kernel : am_dc 214 62 = some (.ifCond .eq (17))) rfl rfl
theorem x_214_65   : am_E d 214 Q (65, L, st, g) ↔ am_K d 214 Q (am_ldA 66 L st g 0) := am_E_aload_n (by decide +kernel : am_dc 214 65 = some (.aload_n 0)) rfl rfl
theorem x_214_66   : am_E d 214 Q (66, L, .ref a :: st, g) ↔ am_kv d 214 Q 69 L st g (am_gf g a 11 21) := am_E_getfield (by decide +kernel : am_dc 214 66 = some (.getfield 69)) (by decide +kernel) rfl
theorem x_214_69   : am_E d 214 Q (69, L, st, g) ↔ am_K d 214 Q (am_ldI 70 L st g 1) := am_E_iload_n (by decide +kernel : am_dc 214 69 = some (.iload_n 1)) rfl rfl
theorem x_214_70   : am_E d 214 Q (70, L, st, g) ↔ am_K d 214 Q (am_ldI 71 L st g 2) := am_E_iload_n (by decide +kernel : am_dc 214 70 = some (.iload_n 2)) rfl rfl
theorem x_214_71   : am_E d 214 Q (71, L, v :: .int x :: .ref a :: st, g) ↔ am_kg d 214 Q 72 L st (am_sat .iastore g a x v) := am_E_iastore (by decide +kernel : am_dc 214 71 = some (.iastore)) rfl
theorem x_214_72   : am_E d 214 Q (72, L, st, g) ↔ am_K d 214 Q (am_ldA 73 L st g 0) := am_E_aload_n (by decide +kernel : am_dc 214 72 = some (.aload_n 0)) rfl rfl
theorem x_214_73   : am_E d 214 Q (73, L, .ref a :: st, g) ↔ am_kv d 214 Q 76 L st g (am_gf g a 11 22) := am_E_getfield (by decide +kernel : am_dc 214 73 = some (.getfield 72)) (by decide +kernel) rfl
theorem x_214_76   : am_E d 214 Q (76, L, st, g) ↔ am_K d 214 Q (am_ldI 77 L st g 1) := am_E_iload_n (by decide +kernel : am_dc 214 76 = some (.iload_n 1)) rfl rfl
theorem x_214_77   : am_E d 214 Q (77, L, st, g) ↔ am_K d 214 Q (am_ldI 78 L st g 3) := am_E_iload_n (by decide +kernel : am_dc 214 77 = some (.iload_n 3)) rfl rfl
theorem x_214_78   : am_E d 214 Q (78, L, v :: .int x :: .ref a :: st, g) ↔ am_kg d 214 Q 79 L st (am_sat .iastore g a x v) := am_E_iastore (by decide +kernel : am_dc 214 78 = some (.iastore)) rfl
theorem x_214_79  : am_E d 214 Q (79, L, [], g) ↔ Q (.inl none) g := am_E_return (by decide +kernel : am_dc 214 79 = some (.return_)) (by decide +kernel)
theorem v_214_171 : am_iv 214 171 = some (0, 192, 1) := by decide +kernel
theorem v_214_189 : am_iv 214 189 = some (1, 196, 3) := by decide +kernel
theorem v_214_196 : am_iv 214 196 = some (1, 185, 4) := by decide +kernel
theorem f_214_69 : am_fl 214 69 = some (11, 21) := by decide +kernel
theorem f_214_72 : am_fl 214 72 = some (11, 22) := by decide +kernel
theorem t_214 : am_t 214 = none := by decide +kernel
theorem h_214 : am_h 214 = [] := by decide +kernel
theorem m_214 : am_m 214 = 5 := by decide +kernel
theorem x_215_0   : am_E d 215 Q (0, L, st, g) ↔ am_E d 215 Q (1, L, .int (1) :: st, g) := am_E_iconst (by decide +kernel : am_dc 215 0 = some (.iconst (1))) (by decide) rfl
theorem x_215_1   : am_E d 215 Q (1, L, st, g) ↔ am_K d 215 Q (am_stI 2 L st g 2) := am_E_istore_n (by decide +kernel : am_dc 215 1 = some (.istore_n 2)) rfl rfl
theorem x_215_2   : am_E d 215 Q (2, L, st, g) ↔ am_E d 215 Q (3, L, .int (0) :: st, g) := am_E_iconst (by decide +kernel : am_dc 215 2 = some (.iconst (0))) (by decide) rfl
theorem x_215_3   : am_E d 215 Q (3, L, st, g) ↔ am_K d 215 Q (am_stI 4 L st g 3) := am_E_istore_n (by decide +kernel : am_dc 215 3 = some (.istore_n 3)) rfl rfl
theorem x_215_4   : am_E d 215 Q (4, L, st, g) ↔ am_K d 215 Q (am_ldI 5 L st g 3) := am_E_iload_n (by decide +kernel : am_dc 215 4 = some (.iload_n 3)) rfl rfl
theorem x_215_5   : am_E d 215 Q (5, L, st, g) ↔ am_E d 215 Q (8, L, .int (216) :: st, g) := am_E_sipush (by decide +kernel : am_dc 215 5 = some (.sipush (216))) (by decide) rfl
theorem x_215_8   : am_E d 215 Q (8, L, .int y :: .int x :: st, g) ↔ am_E d 215 Q (am_cmp .ge x y 44 11, L, st, g) := am_E_ic (by decide +kernel : am_dc 215 8 = some (.if_icmp .ge (36))) rfl rfl
theorem x_215_11   : am_E d 215 Q (11, L, st, g) ↔ am_K d 215 Q (am_ldI 12 L st g 2) := am_E_iload_n (by decide +kernel : am_dc 215 11 = some (.iload_n 2)) rfl rfl
theorem x_215_12   : am_E d 215 Q (12, L, .int x :: st, g) ↔ am_E d 215 Q (am_cmp .eq x 0 36 15, L, st, g) := am_E_if (by decide +kernel : am_dc 215 12 = some (.ifCond .eq (24))) rfl rfl
theorem x_215_15   : am_E d 215 Q (15, L, st, g) ↔ am_K d 215 Q (am_ldA 16 L st g 0) := am_E_aload_n (by decide +kernel : am_dc 215 15 = some (.aload_n 0)) rfl rfl
theorem x_215_16   : am_E d 215 Q (16, L, st, g) ↔ am_K d 215 Q (am_ldI 17 L st g 3) := am_E_iload_n (by decide +kernel : am_dc 215 16 = some (.iload_n 3)) rfl rfl
theorem x_215_17   : am_E d 215 Q (17, L, st, g) ↔ am_K d 215 Q (am_ldI 18 L st g 1) := am_E_iload_n (by decide +kernel : am_dc 215 17 = some (.iload_n 1)) rfl rfl
theorem x_215_18  : am_E d 215 Q (18, L, st, g) ↔ am_K d 215 Q (am_S 215 (.invokevirtual 430) 18 L st g) := am_E_x (by decide +kernel : am_dc 215 18 = some (.invokevirtual 430))
theorem x_215_21   : am_E d 215 Q (21, L, .int x :: st, g) ↔ am_E d 215 Q (am_cmp .eq x 0 32 24, L, st, g) := am_E_if (by decide +kernel : am_dc 215 21 = some (.ifCond .eq (11))) rfl rfl
theorem x_215_24   : am_E d 215 Q (24, L, st, g) ↔ am_K d 215 Q (am_ldA 25 L st g 0) := am_E_aload_n (by decide +kernel : am_dc 215 24 = some (.aload_n 0)) rfl rfl
theorem x_215_25   : am_E d 215 Q (25, L, st, g) ↔ am_K d 215 Q (am_ldI 26 L st g 3) := am_E_iload_n (by decide +kernel : am_dc 215 25 = some (.iload_n 3)) rfl rfl
theorem x_215_26  : am_E d 215 Q (26, L, st, g) ↔ am_K d 215 Q (am_S 215 (.invokevirtual 347) 26 L st g) := am_E_x (by decide +kernel : am_dc 215 26 = some (.invokevirtual 347))
theorem x_215_29   : am_E d 215 Q (29, L, .int x :: st, g) ↔ am_E d 215 Q (am_cmp .ge x 0 36 32, L, st, g) := am_E_if (by decide +kernel : am_dc 215 29 = some (.ifCond .ge (7))) rfl rfl
theorem x_215_32   : am_E d 215 Q (32, L, st, g) ↔ am_E d 215 Q (33, L, .int (1) :: st, g) := am_E_iconst (by decide +kernel : am_dc 215 32 = some (.iconst (1))) (by decide) rfl
theorem x_215_33   : am_E d 215 Q (33, L, st, g) ↔ am_E d 215 Q (37, L, st, g) := am_E_gt (by decide +kernel : am_dc 215 33 = some (.goto (4))) rfl rfl
theorem x_215_36   : am_E d 215 Q (36, L, st, g) ↔ am_E d 215 Q (37, L, .int (0) :: st, g) := am_E_iconst (by decide +kernel : am_dc 215 36 = some (.iconst (0))) (by decide) rfl
theorem x_215_37   : am_E d 215 Q (37, L, st, g) ↔ am_K d 215 Q (am_stI 38 L st g 2) := am_E_istore_n (by decide +kernel : am_dc 215 37 = some (.istore_n 2)) rfl rfl
theorem x_215_38   (hk : L.getD 3 none = some (.int x)) (hl : 3 < L.length) : am_E d 215 Q (38, L, st, g) ↔ am_E d 215 Q (41, am_s1 L 3 (.int (x + (1))), st, g) := am_E_iinc (by decide +kernel : am_dc 215 38 = some (.iinc 3 (1))) (by decide) rfl hk hl
theorem x_215_41   : am_E d 215 Q (41, L, st, g) ↔ am_E d 215 Q (4, L, st, g) := am_E_gt (by decide +kernel : am_dc 215 41 = some (.goto (-37))) rfl rfl
theorem x_215_44   : am_E d 215 Q (44, L, st, g) ↔ am_E d 215 Q (45, L, .int (0) :: st, g) := am_E_iconst (by decide +kernel : am_dc 215 44 = some (.iconst (0))) (by decide) rfl
theorem x_215_45   : am_E d 215 Q (45, L, st, g) ↔ am_K d 215 Q (am_stI 46 L st g 3) := am_E_istore_n (by decide +kernel : am_dc 215 45 = some (.istore_n 3)) rfl rfl
theorem x_215_46   : am_E d 215 Q (46, L, st, g) ↔ am_K d 215 Q (am_ldI 47 L st g 3) := am_E_iload_n (by decide +kernel : am_dc 215 46 = some (.iload_n 3)) rfl rfl
theorem x_215_47   : am_E d 215 Q (47, L, st, g) ↔ am_E d 215 Q (48, L, .int (3) :: st, g) := am_E_iconst (by decide +kernel : am_dc 215 47 = some (.iconst (3))) (by decide) rfl
theorem x_215_48   : am_E d 215 Q (48, L, .int y :: .int x :: st, g) ↔ am_E d 215 Q (am_cmp .ge x y 139 51, L, st, g) := am_E_ic (by decide +kernel : am_dc 215 48 = some (.if_icmp .ge (91))) rfl rfl
theorem x_215_51   : am_E d 215 Q (51, L, st, g) ↔ am_E d 215 Q (52, L, .int (0) :: st, g) := am_E_iconst (by decide +kernel : am_dc 215 51 = some (.iconst (0))) (by decide) rfl
theorem x_215_52   : am_E d 215 Q (52, L, st, g) ↔ am_K d 215 Q (am_stI 54 L st g 4) := am_E_istore (by decide +kernel : am_dc 215 52 = some (.istore 4)) rfl
theorem x_215_54   : am_E d 215 Q (54, L, st, g) ↔ am_K d 215 Q (am_ldI 56 L st g 4) := am_E_iload (by decide +kernel : am_dc 215 54 = some (.iload 4)) rfl
theorem x_215_56   : am_E d 215 Q (56, L, st, g) ↔ am_E d 215 Q (58, L, .int (6) :: st, g) := am_E_bipush (by decide +kernel : am_dc 215 56 = some (.bipush (6))) (by decide) rfl
theorem x_215_58   : am_E d 215 Q (58, L, .int y :: .int x :: st, g) ↔ am_E d 215 Q (am_cmp .ge x y 133 61, L, st, g) := am_E_ic (by decide +kernel : am_dc 215 58 = some (.if_icmp .ge (75))) rfl rfl
theorem x_215_61   : am_E d 215 Q (61, L, st, g) ↔ am_K d 215 Q (am_ldI 62 L st g 2) := am_E_iload_n (by decide +kernel : am_dc 215 61 = some (.iload_n 2)) rfl rfl
theorem x_215_62   : am_E d 215 Q (62, L, .int x :: st, g) ↔ am_E d 215 Q (am_cmp .eq x 0 125 65, L, st, g) := am_E_if (by decide +kernel : am_dc 215 62 = some (.ifCond .eq (63))) rfl rfl
theorem x_215_65   : am_E d 215 Q (65, L, st, g) ↔ am_K d 215 Q (am_ldA 66 L st g 0) := am_E_aload_n (by decide +kernel : am_dc 215 65 = some (.aload_n 0)) rfl rfl
theorem x_215_66   : am_E d 215 Q (66, L, .ref a :: st, g) ↔ am_kv d 215 Q 69 L st g (am_gf g a 11 1) := am_E_getfield (by decide +kernel : am_dc 215 66 = some (.getfield 7)) (by decide +kernel) rfl
theorem x_215_69   : am_E d 215 Q (69, L, st, g) ↔ am_E d 215 Q (71, L, .int (6) :: st, g) := am_E_bipush (by decide +kernel : am_dc 215 69 = some (.bipush (6))) (by decide) rfl
theorem x_215_71   : am_E d 215 Q (71, L, st, g) ↔ am_K d 215 Q (am_ldI 72 L st g 3) := am_E_iload_n (by decide +kernel : am_dc 215 71 = some (.iload_n 3)) rfl rfl
theorem x_215_72   : am_E d 215 Q (72, L, .int y :: .int x :: st, g) ↔ am_E d 215 Q (73, L, .int (x * y) :: st, g) := am_E_imul (by decide +kernel : am_dc 215 72 = some (.imul)) rfl
theorem x_215_73   : am_E d 215 Q (73, L, st, g) ↔ am_K d 215 Q (am_ldI 75 L st g 4) := am_E_iload (by decide +kernel : am_dc 215 73 = some (.iload 4)) rfl
theorem x_215_75   : am_E d 215 Q (75, L, .int y :: .int x :: st, g) ↔ am_E d 215 Q (76, L, .int (x + y) :: st, g) := am_E_iadd (by decide +kernel : am_dc 215 75 = some (.iadd)) rfl
theorem x_215_76   : am_E d 215 Q (76, L, .int x :: .ref a :: st, g) ↔ am_kv d 215 Q 77 L st g (am_iat .baload g a x) := am_E_baload (by decide +kernel : am_dc 215 76 = some (.baload)) rfl
theorem x_215_77   : am_E d 215 Q (77, L, .int x :: st, g) ↔ am_E d 215 Q (am_cmp .eq x 0 121 80, L, st, g) := am_E_if (by decide +kernel : am_dc 215 77 = some (.ifCond .eq (44))) rfl rfl
theorem x_215_80   : am_E d 215 Q (80, L, st, g) ↔ am_K d 215 Q (am_ldA 81 L st g 0) := am_E_aload_n (by decide +kernel : am_dc 215 80 = some (.aload_n 0)) rfl rfl
theorem x_215_81   : am_E d 215 Q (81, L, st, g) ↔ am_K d 215 Q (am_ldI 82 L st g 3) := am_E_iload_n (by decide +kernel : am_dc 215 81 = some (.iload_n 3)) rfl rfl
theorem x_215_82   : am_E d 215 Q (82, L, st, g) ↔ am_K d 215 Q (am_ldI 84 L st g 4) := am_E_iload (by decide +kernel : am_dc 215 82 = some (.iload 4)) rfl
theorem x_215_84   : am_E d 215 Q (84, L, st, g) ↔ am_K d 215 Q (am_ldI 85 L st g 1) := am_E_iload_n (by decide +kernel : am_dc 215 84 = some (.iload_n 1)) rfl rfl
theorem x_215_85   : am_E d 215 Q (85, L, st, g) ↔ am_K d 215 Q (am_ldI 86 L st g 3) := am_E_iload_n (by decide +kernel : am_dc 215 85 = some (.iload_n 3)) rfl rfl
theorem x_215_86  : am_E d 215 Q (86, L, st, g) ↔ am_K d 215 Q (am_S 215 (.invokestatic 217) 86 L st g) := am_E_x (by decide +kernel : am_dc 215 86 = some (.invokestatic 217))
theorem x_215_89  : am_E d 215 Q (89, L, st, g) ↔ am_K d 215 Q (am_S 215 (.invokevirtual 203) 89 L st g) := am_E_x (by decide +kernel : am_dc 215 89 = some (.invokevirtual 203))
theorem x_215_92   : am_E d 215 Q (92, L, .int x :: st, g) ↔ am_E d 215 Q (am_cmp .eq x 0 121 95, L, st, g) := am_E_if (by decide +kernel : am_dc 215 92 = some (.ifCond .eq (29))) rfl rfl
theorem x_215_95   : am_E d 215 Q (95, L, st, g) ↔ am_K d 215 Q (am_ldA 96 L st g 0) := am_E_aload_n (by decide +kernel : am_dc 215 95 = some (.aload_n 0)) rfl rfl
theorem x_215_96   : am_E d 215 Q (96, L, st, g) ↔ am_K d 215 Q (am_ldI 97 L st g 3) := am_E_iload_n (by decide +kernel : am_dc 215 96 = some (.iload_n 3)) rfl rfl
theorem x_215_97   : am_E d 215 Q (97, L, st, g) ↔ am_K d 215 Q (am_ldI 99 L st g 4) := am_E_iload (by decide +kernel : am_dc 215 97 = some (.iload 4)) rfl
theorem x_215_99  : am_E d 215 Q (99, L, st, g) ↔ am_K d 215 Q (am_S 215 (.invokevirtual 179) 99 L st g) := am_E_x (by decide +kernel : am_dc 215 99 = some (.invokevirtual 179))
theorem x_215_102   : am_E d 215 Q (102, L, .int x :: st, g) ↔ am_E d 215 Q (am_cmp .ne x 0 121 105, L, st, g) := am_E_if (by decide +kernel : am_dc 215 102 = some (.ifCond .ne (19))) rfl rfl
theorem x_215_105   : am_E d 215 Q (105, L, st, g) ↔ am_K d 215 Q (am_ldA 106 L st g 0) := am_E_aload_n (by decide +kernel : am_dc 215 105 = some (.aload_n 0)) rfl rfl
theorem x_215_106   : am_E d 215 Q (106, L, .ref a :: st, g) ↔ am_kv d 215 Q 109 L st g (am_gf g a 11 3) := am_E_getfield (by decide +kernel : am_dc 215 106 = some (.getfield 17)) (by decide +kernel) rfl
theorem x_215_109   : am_E d 215 Q (109, L, st, g) ↔ am_E d 215 Q (111, L, .int (6) :: st, g) := am_E_bipush (by decide +kernel : am_dc 215 109 = some (.bipush (6))) (by decide) rfl
theorem x_215_111   : am_E d 215 Q (111, L, st, g) ↔ am_K d 215 Q (am_ldI 112 L st g 3) := am_E_iload_n (by decide +kernel : am_dc 215 111 = some (.iload_n 3)) rfl rfl
theorem x_215_112   : am_E d 215 Q (112, L, .int y :: .int x :: st, g) ↔ am_E d 215 Q (113, L, .int (x * y) :: st, g) := am_E_imul (by decide +kernel : am_dc 215 112 = some (.imul)) rfl
theorem x_215_113   : am_E d 215 Q (113, L, st, g) ↔ am_K d 215 Q (am_ldI 115 L st g 4) := am_E_iload (by decide +kernel : am_dc 215 113 = some (.iload 4)) rfl
theorem x_215_115   : am_E d 215 Q (115, L, .int y :: .int x :: st, g) ↔ am_E d 215 Q (116, L, .int (x + y) :: st, g) := am_E_iadd (by decide +kernel : am_dc 215 115 = some (.iadd)) rfl
theorem x_215_116   : am_E d 215 Q (116, L, .int x :: .ref a :: st, g) ↔ am_kv d 215 Q 117 L st g (am_iat .iaload g a x) := am_E_iaload (by decide +kernel : am_dc 215 116 = some (.iaload)) rfl
theorem x_215_117   : am_E d 215 Q (117, L, st, g) ↔ am_E d 215 Q (118, L, .int (1) :: st, g) := am_E_iconst (by decide +kernel : am_dc 215 117 = some (.iconst (1))) (by decide) rfl
theorem x_215_118   : am_E d 215 Q (118, L, .int y :: .int x :: st, g) ↔ am_E d 215 Q (am_cmp .ne x y 125 121, L, st, g) := am_E_ic (by decide +kernel : am_dc 215 118 = some (.if_icmp .ne (7))) rfl rfl
theorem x_215_121   : am_E d 215 Q (121, L, st, g) ↔ am_E d 215 Q (122, L, .int (1) :: st, g) := am_E_iconst (by decide +kernel : am_dc 215 121 = some (.iconst (1))) (by decide) rfl
theorem x_215_122   : am_E d 215 Q (122, L, st, g) ↔ am_E d 215 Q (126, L, st, g) := am_E_gt (by decide +kernel : am_dc 215 122 = some (.goto (4))) rfl rfl
theorem x_215_125   : am_E d 215 Q (125, L, st, g) ↔ am_E d 215 Q (126, L, .int (0) :: st, g) := am_E_iconst (by decide +kernel : am_dc 215 125 = some (.iconst (0))) (by decide) rfl
theorem x_215_126   : am_E d 215 Q (126, L, st, g) ↔ am_K d 215 Q (am_stI 127 L st g 2) := am_E_istore_n (by decide +kernel : am_dc 215 126 = some (.istore_n 2)) rfl rfl
theorem x_215_127   (hk : L.getD 4 none = some (.int x)) (hl : 4 < L.length) : am_E d 215 Q (127, L, st, g) ↔ am_E d 215 Q (130, am_s1 L 4 (.int (x + (1))), st, g) := am_E_iinc (by decide +kernel : am_dc 215 127 = some (.iinc 4 (1))) (by decide) rfl hk hl
theorem x_215_130   : am_E d 215 Q (130, L, st, g) ↔ am_E d 215 Q (54, L, st, g) := am_E_gt (by decide +kernel : am_dc 215 130 = some (.goto (-76))) rfl rfl
theorem x_215_133   (hk : L.getD 3 none = some (.int x)) (hl : 3 < L.length) : am_E d 215 Q (133, L, st, g) ↔ am_E d 215 Q (136, am_s1 L 3 (.int (x + (1))), st, g) := am_E_iinc (by decide +kernel : am_dc 215 133 = some (.iinc 3 (1))) (by decide) rfl hk hl
theorem x_215_136   : am_E d 215 Q (136, L, st, g) ↔ am_E d 215 Q (46, L, st, g) := am_E_gt (by decide +kernel : am_dc 215 136 = some (.goto (-90))) rfl rfl
theorem x_215_139   : am_E d 215 Q (139, L, st, g) ↔ am_K d 215 Q (am_ldI 140 L st g 2) := am_E_iload_n (by decide +kernel : am_dc 215 139 = some (.iload_n 2)) rfl rfl
theorem x_215_140  : am_E d 215 Q (140, L, [.int x], g) ↔ if am_ok (FieldType.boolean) (.int x) = true then Q (.inl (some (.int x))) g else False := am_E_ireturn (by decide +kernel : am_dc 215 140 = some (.ireturn)) (by decide +kernel)
theorem v_215_430 : am_iv 215 430 = some (1, 158, 3) := by decide +kernel
theorem v_215_347 : am_iv 215 347 = some (1, 243, 2) := by decide +kernel
theorem f_215_7 : am_fl 215 7 = some (11, 1) := by decide +kernel
theorem v_215_217 : am_iv 215 217 = some (0, 213, 2) := by decide +kernel
theorem v_215_203 : am_iv 215 203 = some (1, 238, 4) := by decide +kernel
theorem v_215_179 : am_iv 215 179 = some (1, 194, 3) := by decide +kernel
theorem f_215_17 : am_fl 215 17 = some (11, 3) := by decide +kernel
theorem t_215 : am_t 215 = some (FieldType.boolean) := by decide +kernel
theorem h_215 : am_h 215 = [] := by decide +kernel
theorem m_215 : am_m 215 = 5 := by decide +kernel
theorem x_216_0   : am_E d 216 Q (0, L, st, g) ↔ am_K d 216 Q (am_ldA 1 L st g 0) := am_E_aload_n (by decide +kernel : am_dc 216 0 = some (.aload_n 0)) rfl rfl
theorem x_216_1   : am_E d 216 Q (1, L, .ref a :: st, g) ↔ am_kv d 216 Q 4 L st g (am_gf g a 11 31) := am_E_getfield (by decide +kernel : am_dc 216 1 = some (.getfield 236)) (by decide +kernel) rfl
theorem x_216_4   : am_E d 216 Q (4, L, st, g) ↔ am_K d 216 Q (am_ldA 5 L st g 0) := am_E_aload_n (by decide +kernel : am_dc 216 4 = some (.aload_n 0)) rfl rfl
theorem x_216_5   : am_E d 216 Q (5, L, .ref a :: st, g) ↔ am_kv d 216 Q 8 L st g (am_gf g a 11 28) := am_E_getfield (by decide +kernel : am_dc 216 5 = some (.getfield 85)) (by decide +kernel) rfl
theorem x_216_8   : am_E d 216 Q (8, L, st, g) ↔ am_K d 216 Q (am_ldA 9 L st g 0) := am_E_aload_n (by decide +kernel : am_dc 216 8 = some (.aload_n 0)) rfl rfl
theorem x_216_9   : am_E d 216 Q (9, L, .ref a :: st, g) ↔ am_kv d 216 Q 12 L st g (am_gf g a 11 25) := am_E_getfield (by decide +kernel : am_dc 216 9 = some (.getfield 233)) (by decide +kernel) rfl
theorem x_216_12   : am_E d 216 Q (12, L, st, g) ↔ am_E d 216 Q (13, L, .int (1) :: st, g) := am_E_iconst (by decide +kernel : am_dc 216 12 = some (.iconst (1))) (by decide) rfl
theorem x_216_13   : am_E d 216 Q (13, L, .int y :: .int x :: st, g) ↔ am_E d 216 Q (14, L, .int (x - y) :: st, g) := am_E_isub (by decide +kernel : am_dc 216 13 = some (.isub)) rfl
theorem x_216_14   : am_E d 216 Q (14, L, .int x :: .ref a :: st, g) ↔ am_kv d 216 Q 15 L st g (am_iat .iaload g a x) := am_E_iaload (by decide +kernel : am_dc 216 14 = some (.iaload)) rfl
theorem x_216_15   : am_E d 216 Q (15, L, .int y :: .int x :: st, g) ↔ am_E d 216 Q (am_cmp .le x y 65 18, L, st, g) := am_E_ic (by decide +kernel : am_dc 216 15 = some (.if_icmp .le (50))) rfl rfl
theorem x_216_18   : am_E d 216 Q (18, L, st, g) ↔ am_K d 216 Q (am_ldA 19 L st g 0) := am_E_aload_n (by decide +kernel : am_dc 216 18 = some (.aload_n 0)) rfl rfl
theorem x_216_19   : am_E d 216 Q (19, L, .ref a :: st, g) ↔ am_kv d 216 Q 22 L st g (am_gf g a 11 32) := am_E_getfield (by decide +kernel : am_dc 216 19 = some (.getfield 94)) (by decide +kernel) rfl
theorem x_216_22   : am_E d 216 Q (22, L, st, g) ↔ am_K d 216 Q (am_ldA 23 L st g 0) := am_E_aload_n (by decide +kernel : am_dc 216 22 = some (.aload_n 0)) rfl rfl
theorem x_216_23   : am_E d 216 Q (23, L, .ref a :: st, g) ↔ am_kv d 216 Q 26 L st g (am_gf g a 11 31) := am_E_getfield (by decide +kernel : am_dc 216 23 = some (.getfield 236)) (by decide +kernel) rfl
theorem x_216_26   : am_E d 216 Q (26, L, st, g) ↔ am_E d 216 Q (27, L, .int (1) :: st, g) := am_E_iconst (by decide +kernel : am_dc 216 26 = some (.iconst (1))) (by decide) rfl
theorem x_216_27   : am_E d 216 Q (27, L, .int y :: .int x :: st, g) ↔ am_E d 216 Q (28, L, .int (x - y) :: st, g) := am_E_isub (by decide +kernel : am_dc 216 27 = some (.isub)) rfl
theorem x_216_28   : am_E d 216 Q (28, L, .int x :: .ref a :: st, g) ↔ am_kv d 216 Q 29 L st g (am_iat .iaload g a x) := am_E_iaload (by decide +kernel : am_dc 216 28 = some (.iaload)) rfl
theorem x_216_29  : am_E d 216 Q (29, L, st, g) ↔ am_K d 216 Q (am_S 216 (.invokestatic 239) 29 L st g) := am_E_x (by decide +kernel : am_dc 216 29 = some (.invokestatic 239))
theorem x_216_32   : am_E d 216 Q (32, L, st, g) ↔ am_K d 216 Q (am_ldI 33 L st g 1) := am_E_iload_n (by decide +kernel : am_dc 216 32 = some (.iload_n 1)) rfl rfl
theorem x_216_33   : am_E d 216 Q (33, L, .int y :: .int x :: st, g) ↔ am_E d 216 Q (am_cmp .lt x y 65 36, L, st, g) := am_E_ic (by decide +kernel : am_dc 216 33 = some (.if_icmp .lt (32))) rfl rfl
theorem x_216_36   : am_E d 216 Q (36, L, st, g) ↔ am_K d 216 Q (am_ldA 37 L st g 0) := am_E_aload_n (by decide +kernel : am_dc 216 36 = some (.aload_n 0)) rfl rfl
theorem x_216_37   : am_E d 216 Q (37, L, v :: st, g) ↔ if v.category = 1 then am_E d 216 Q (38, L, v :: v :: st, g) else False := am_E_dup (by decide +kernel : am_dc 216 37 = some (.dup)) rfl
theorem x_216_38   : am_E d 216 Q (38, L, .ref a :: st, g) ↔ am_kv d 216 Q 41 L st g (am_gf g a 11 31) := am_E_getfield (by decide +kernel : am_dc 216 38 = some (.getfield 236)) (by decide +kernel) rfl
theorem x_216_41   : am_E d 216 Q (41, L, st, g) ↔ am_E d 216 Q (42, L, .int (1) :: st, g) := am_E_iconst (by decide +kernel : am_dc 216 41 = some (.iconst (1))) (by decide) rfl
theorem x_216_42   : am_E d 216 Q (42, L, .int y :: .int x :: st, g) ↔ am_E d 216 Q (43, L, .int (x - y) :: st, g) := am_E_isub (by decide +kernel : am_dc 216 42 = some (.isub)) rfl
theorem x_216_43   (hok : (am_ok (am_ft 11 31).1 v && (!(am_ft 11 31).2 || (am_ini 216 && am_co 11 == am_o 216)) && decide (11 < 13)) = true) : am_E d 216 Q (43, L, v :: .ref a :: st, g) ↔ am_kg d 216 Q 46 L st (am_pf g a 11 31 v) := am_E_putfield (by decide +kernel : am_dc 216 43 = some (.putfield 236)) (by decide +kernel) rfl hok
theorem x_216_46   : am_E d 216 Q (46, L, st, g) ↔ am_K d 216 Q (am_ldA 47 L st g 0) := am_E_aload_n (by decide +kernel : am_dc 216 46 = some (.aload_n 0)) rfl rfl
theorem x_216_47   : am_E d 216 Q (47, L, st, g) ↔ am_K d 216 Q (am_ldA 48 L st g 0) := am_E_aload_n (by decide +kernel : am_dc 216 47 = some (.aload_n 0)) rfl rfl
theorem x_216_48   : am_E d 216 Q (48, L, .ref a :: st, g) ↔ am_kv d 216 Q 51 L st g (am_gf g a 11 32) := am_E_getfield (by decide +kernel : am_dc 216 48 = some (.getfield 94)) (by decide +kernel) rfl
theorem x_216_51   : am_E d 216 Q (51, L, st, g) ↔ am_K d 216 Q (am_ldA 52 L st g 0) := am_E_aload_n (by decide +kernel : am_dc 216 51 = some (.aload_n 0)) rfl rfl
theorem x_216_52   : am_E d 216 Q (52, L, .ref a :: st, g) ↔ am_kv d 216 Q 55 L st g (am_gf g a 11 31) := am_E_getfield (by decide +kernel : am_dc 216 52 = some (.getfield 236)) (by decide +kernel) rfl
theorem x_216_55   : am_E d 216 Q (55, L, .int x :: .ref a :: st, g) ↔ am_kv d 216 Q 56 L st g (am_iat .iaload g a x) := am_E_iaload (by decide +kernel : am_dc 216 55 = some (.iaload)) rfl
theorem x_216_56   : am_E d 216 Q (56, L, st, g) ↔ am_E d 216 Q (57, L, .int (0) :: st, g) := am_E_iconst (by decide +kernel : am_dc 216 56 = some (.iconst (0))) (by decide) rfl
theorem x_216_57   : am_E d 216 Q (57, L, st, g) ↔ am_E d 216 Q (58, L, .int (0) :: st, g) := am_E_iconst (by decide +kernel : am_dc 216 57 = some (.iconst (0))) (by decide) rfl
theorem x_216_58  : am_E d 216 Q (58, L, st, g) ↔ am_K d 216 Q (am_S 216 (.invokevirtual 242) 58 L st g) := am_E_x (by decide +kernel : am_dc 216 58 = some (.invokevirtual 242))
theorem x_216_61   : am_E d 216 Q (61, L, st, g) ↔ am_K d 216 Q (am_stI 62 L st g 2) := am_E_istore_n (by decide +kernel : am_dc 216 61 = some (.istore_n 2)) rfl rfl
theorem x_216_62   : am_E d 216 Q (62, L, st, g) ↔ am_E d 216 Q (0, L, st, g) := am_E_gt (by decide +kernel : am_dc 216 62 = some (.goto (-62))) rfl rfl
theorem x_216_65  : am_E d 216 Q (65, L, [], g) ↔ Q (.inl none) g := am_E_return (by decide +kernel : am_dc 216 65 = some (.return_)) (by decide +kernel)
theorem f_216_236 : am_fl 216 236 = some (11, 31) := by decide +kernel
theorem f_216_85 : am_fl 216 85 = some (11, 28) := by decide +kernel
theorem f_216_233 : am_fl 216 233 = some (11, 25) := by decide +kernel
theorem f_216_94 : am_fl 216 94 = some (11, 32) := by decide +kernel
theorem v_216_239 : am_iv 216 239 = some (0, 219, 1) := by decide +kernel
theorem v_216_242 : am_iv 216 242 = some (1, 172, 4) := by decide +kernel
theorem t_216 : am_t 216 = none := by decide +kernel
theorem h_216 : am_h 216 = [] := by decide +kernel
theorem m_216 : am_m 216 = 3 := by decide +kernel
theorem x_217_0   : am_E d 217 Q (0, L, st, g) ↔ am_K d 217 Q (am_ldA 1 L st g 0) := am_E_aload_n (by decide +kernel : am_dc 217 0 = some (.aload_n 0)) rfl rfl
theorem x_217_1   : am_E d 217 Q (1, L, .ref a :: st, g) ↔ am_kv d 217 Q 4 L st g (am_gf g a 11 60) := am_E_getfield (by decide +kernel : am_dc 217 1 = some (.getfield 146)) (by decide +kernel) rfl
theorem x_217_4   : am_E d 217 Q (4, L, st, g) ↔ am_K d 217 Q (am_ldA 5 L st g 0) := am_E_aload_n (by decide +kernel : am_dc 217 4 = some (.aload_n 0)) rfl rfl
theorem x_217_5   : am_E d 217 Q (5, L, .ref a :: st, g) ↔ am_kv d 217 Q 8 L st g (am_gf g a 11 59) := am_E_getfield (by decide +kernel : am_dc 217 5 = some (.getfield 312)) (by decide +kernel) rfl
theorem x_217_8   : am_E d 217 Q (8, L, st, g) ↔ am_K d 217 Q (am_ldI 9 L st g 1) := am_E_iload_n (by decide +kernel : am_dc 217 8 = some (.iload_n 1)) rfl rfl
theorem x_217_9   : am_E d 217 Q (9, L, v :: .int x :: .ref a :: st, g) ↔ am_kg d 217 Q 10 L st (am_sat .iastore g a x v) := am_E_iastore (by decide +kernel : am_dc 217 9 = some (.iastore)) rfl
theorem x_217_10   : am_E d 217 Q (10, L, st, g) ↔ am_K d 217 Q (am_ldA 11 L st g 0) := am_E_aload_n (by decide +kernel : am_dc 217 10 = some (.aload_n 0)) rfl rfl
theorem x_217_11   : am_E d 217 Q (11, L, .ref a :: st, g) ↔ am_kv d 217 Q 14 L st g (am_gf g a 11 61) := am_E_getfield (by decide +kernel : am_dc 217 11 = some (.getfield 149)) (by decide +kernel) rfl
theorem x_217_14   : am_E d 217 Q (14, L, st, g) ↔ am_K d 217 Q (am_ldA 15 L st g 0) := am_E_aload_n (by decide +kernel : am_dc 217 14 = some (.aload_n 0)) rfl rfl
theorem x_217_15   : am_E d 217 Q (15, L, .ref a :: st, g) ↔ am_kv d 217 Q 18 L st g (am_gf g a 11 59) := am_E_getfield (by decide +kernel : am_dc 217 15 = some (.getfield 312)) (by decide +kernel) rfl
theorem x_217_18   : am_E d 217 Q (18, L, st, g) ↔ am_K d 217 Q (am_ldI 19 L st g 1) := am_E_iload_n (by decide +kernel : am_dc 217 18 = some (.iload_n 1)) rfl rfl
theorem x_217_19   : am_E d 217 Q (19, L, .int x :: st, g) ↔ am_E d 217 Q (am_cmp .ne x 0 26 22, L, st, g) := am_E_if (by decide +kernel : am_dc 217 19 = some (.ifCond .ne (7))) rfl rfl
theorem x_217_22   : am_E d 217 Q (22, L, st, g) ↔ am_K d 217 Q (am_ldL 23 L st g 2) := am_E_lload_n (by decide +kernel : am_dc 217 22 = some (.lload_n 2)) rfl rfl
theorem x_217_23   : am_E d 217 Q (23, L, st, g) ↔ am_E d 217 Q (27, L, st, g) := am_E_gt (by decide +kernel : am_dc 217 23 = some (.goto (4))) rfl rfl
theorem x_217_26   : am_E d 217 Q (26, L, st, g) ↔ am_E d 217 Q (27, L, .long (0) :: st, g) := am_E_lconst (by decide +kernel : am_dc 217 26 = some (.lconst 0)) (by decide) rfl
theorem x_217_27   : am_E d 217 Q (27, L, v :: .int x :: .ref a :: st, g) ↔ am_kg d 217 Q 28 L st (am_sat .lastore g a x v) := am_E_lastore (by decide +kernel : am_dc 217 27 = some (.lastore)) rfl
theorem x_217_28   : am_E d 217 Q (28, L, st, g) ↔ am_K d 217 Q (am_ldA 29 L st g 0) := am_E_aload_n (by decide +kernel : am_dc 217 28 = some (.aload_n 0)) rfl rfl
theorem x_217_29   : am_E d 217 Q (29, L, v :: st, g) ↔ if v.category = 1 then am_E d 217 Q (30, L, v :: v :: st, g) else False := am_E_dup (by decide +kernel : am_dc 217 29 = some (.dup)) rfl
theorem x_217_30   : am_E d 217 Q (30, L, .ref a :: st, g) ↔ am_kv d 217 Q 33 L st g (am_gf g a 11 59) := am_E_getfield (by decide +kernel : am_dc 217 30 = some (.getfield 312)) (by decide +kernel) rfl
theorem x_217_33   : am_E d 217 Q (33, L, st, g) ↔ am_E d 217 Q (34, L, .int (1) :: st, g) := am_E_iconst (by decide +kernel : am_dc 217 33 = some (.iconst (1))) (by decide) rfl
theorem x_217_34   : am_E d 217 Q (34, L, .int y :: .int x :: st, g) ↔ am_E d 217 Q (35, L, .int (x + y) :: st, g) := am_E_iadd (by decide +kernel : am_dc 217 34 = some (.iadd)) rfl
theorem x_217_35   (hok : (am_ok (am_ft 11 59).1 v && (!(am_ft 11 59).2 || (am_ini 217 && am_co 11 == am_o 217)) && decide (11 < 13)) = true) : am_E d 217 Q (35, L, v :: .ref a :: st, g) ↔ am_kg d 217 Q 38 L st (am_pf g a 11 59 v) := am_E_putfield (by decide +kernel : am_dc 217 35 = some (.putfield 312)) (by decide +kernel) rfl hok
theorem x_217_38  : am_E d 217 Q (38, L, [], g) ↔ Q (.inl none) g := am_E_return (by decide +kernel : am_dc 217 38 = some (.return_)) (by decide +kernel)
theorem f_217_146 : am_fl 217 146 = some (11, 60) := by decide +kernel
theorem f_217_312 : am_fl 217 312 = some (11, 59) := by decide +kernel
theorem f_217_149 : am_fl 217 149 = some (11, 61) := by decide +kernel
theorem t_217 : am_t 217 = none := by decide +kernel
theorem h_217 : am_h 217 = [] := by decide +kernel
theorem m_217 : am_m 217 = 4 := by decide +kernel
theorem x_218_0   : am_E d 218 Q (0, L, st, g) ↔ am_K d 218 Q (am_ldA 1 L st g 0) := am_E_aload_n (by decide +kernel : am_dc 218 0 = some (.aload_n 0)) rfl rfl
theorem x_218_1  : am_E d 218 Q (1, L, st, g) ↔ am_K d 218 Q (am_S 218 (.invokevirtual 402) 1 L st g) := am_E_x (by decide +kernel : am_dc 218 1 = some (.invokevirtual 402))
theorem x_218_4   : am_E d 218 Q (4, L, st, g) ↔ am_K d 218 Q (am_stI 5 L st g 3) := am_E_istore_n (by decide +kernel : am_dc 218 4 = some (.istore_n 3)) rfl rfl
theorem x_218_5   : am_E d 218 Q (5, L, st, g) ↔ am_K d 218 Q (am_ldA 6 L st g 0) := am_E_aload_n (by decide +kernel : am_dc 218 5 = some (.aload_n 0)) rfl rfl
theorem x_218_6   : am_E d 218 Q (6, L, st, g) ↔ am_K d 218 Q (am_ldA 7 L st g 0) := am_E_aload_n (by decide +kernel : am_dc 218 6 = some (.aload_n 0)) rfl rfl
theorem x_218_7   : am_E d 218 Q (7, L, st, g) ↔ am_K d 218 Q (am_ldI 8 L st g 1) := am_E_iload_n (by decide +kernel : am_dc 218 7 = some (.iload_n 1)) rfl rfl
theorem x_218_8  : am_E d 218 Q (8, L, st, g) ↔ am_K d 218 Q (am_S 218 (.invokevirtual 399) 8 L st g) := am_E_x (by decide +kernel : am_dc 218 8 = some (.invokevirtual 399))
theorem x_218_11   : am_E d 218 Q (11, L, .int x :: st, g) ↔ am_E d 218 Q (am_cmp .eq x 0 22 14, L, st, g) := am_E_if (by decide +kernel : am_dc 218 11 = some (.ifCond .eq (11))) rfl rfl
theorem x_218_14   : am_E d 218 Q (14, L, st, g) ↔ am_K d 218 Q (am_ldI 15 L st g 3) := am_E_iload_n (by decide +kernel : am_dc 218 14 = some (.iload_n 3)) rfl rfl
theorem x_218_15   : am_E d 218 Q (15, L, .int x :: st, g) ↔ am_E d 218 Q (am_cmp .lt x 0 22 18, L, st, g) := am_E_if (by decide +kernel : am_dc 218 15 = some (.ifCond .lt (7))) rfl rfl
theorem x_218_18   : am_E d 218 Q (18, L, st, g) ↔ am_E d 218 Q (19, L, .int (1) :: st, g) := am_E_iconst (by decide +kernel : am_dc 218 18 = some (.iconst (1))) (by decide) rfl
theorem x_218_19   : am_E d 218 Q (19, L, st, g) ↔ am_E d 218 Q (23, L, st, g) := am_E_gt (by decide +kernel : am_dc 218 19 = some (.goto (4))) rfl rfl
theorem x_218_22   : am_E d 218 Q (22, L, st, g) ↔ am_E d 218 Q (23, L, .int (0) :: st, g) := am_E_iconst (by decide +kernel : am_dc 218 22 = some (.iconst (0))) (by decide) rfl
theorem x_218_23   : am_E d 218 Q (23, L, st, g) ↔ am_K d 218 Q (am_ldI 24 L st g 2) := am_E_iload_n (by decide +kernel : am_dc 218 23 = some (.iload_n 2)) rfl rfl
theorem x_218_24   : am_E d 218 Q (24, L, .int x :: st, g) ↔ am_E d 218 Q (25, L, .long x.toInt64 :: st, g) := am_E_i2l (by decide +kernel : am_dc 218 24 = some (.i2l)) rfl
theorem x_218_25  : am_E d 218 Q (25, L, st, g) ↔ am_K d 218 Q (am_S 218 (.invokestatic 301) 25 L st g) := am_E_x (by decide +kernel : am_dc 218 25 = some (.invokestatic 301))
theorem x_218_28   : am_E d 218 Q (28, L, st, g) ↔ am_K d 218 Q (am_ldA 29 L st g 0) := am_E_aload_n (by decide +kernel : am_dc 218 28 = some (.aload_n 0)) rfl rfl
theorem x_218_29   : am_E d 218 Q (29, L, st, g) ↔ am_K d 218 Q (am_ldI 30 L st g 3) := am_E_iload_n (by decide +kernel : am_dc 218 29 = some (.iload_n 3)) rfl rfl
theorem x_218_30  : am_E d 218 Q (30, L, st, g) ↔ am_K d 218 Q (am_S 218 (.invokevirtual 338) 30 L st g) := am_E_x (by decide +kernel : am_dc 218 30 = some (.invokevirtual 338))
theorem x_218_33  : am_E d 218 Q (33, L, st, g) ↔ am_K d 218 Q (am_S 218 (.invokevirtual 196) 33 L st g) := am_E_x (by decide +kernel : am_dc 218 33 = some (.invokevirtual 196))
theorem x_218_36   : am_E d 218 Q (36, L, .int x :: st, g) ↔ am_E d 218 Q (am_cmp .eq x 0 51 39, L, st, g) := am_E_if (by decide +kernel : am_dc 218 36 = some (.ifCond .eq (15))) rfl rfl
theorem x_218_39   : am_E d 218 Q (39, L, st, g) ↔ am_K d 218 Q (am_ldA 40 L st g 0) := am_E_aload_n (by decide +kernel : am_dc 218 39 = some (.aload_n 0)) rfl rfl
theorem x_218_40   : am_E d 218 Q (40, L, st, g) ↔ am_K d 218 Q (am_ldI 41 L st g 1) := am_E_iload_n (by decide +kernel : am_dc 218 40 = some (.iload_n 1)) rfl rfl
theorem x_218_41  : am_E d 218 Q (41, L, st, g) ↔ am_K d 218 Q (am_S 218 (.invokevirtual 411) 41 L st g) := am_E_x (by decide +kernel : am_dc 218 41 = some (.invokevirtual 411))
theorem x_218_44   : am_E d 218 Q (44, L, st, g) ↔ am_K d 218 Q (am_ldA 45 L st g 0) := am_E_aload_n (by decide +kernel : am_dc 218 44 = some (.aload_n 0)) rfl rfl
theorem x_218_45   : am_E d 218 Q (45, L, st, g) ↔ am_K d 218 Q (am_ldI 46 L st g 3) := am_E_iload_n (by decide +kernel : am_dc 218 45 = some (.iload_n 3)) rfl rfl
theorem x_218_46   : am_E d 218 Q (46, L, st, g) ↔ am_E d 218 Q (47, L, .int (1) :: st, g) := am_E_iconst (by decide +kernel : am_dc 218 46 = some (.iconst (1))) (by decide) rfl
theorem x_218_47   : am_E d 218 Q (47, L, st, g) ↔ am_K d 218 Q (am_ldI 48 L st g 2) := am_E_iload_n (by decide +kernel : am_dc 218 47 = some (.iload_n 2)) rfl rfl
theorem x_218_48  : am_E d 218 Q (48, L, st, g) ↔ am_K d 218 Q (am_S 218 (.invokevirtual 414) 48 L st g) := am_E_x (by decide +kernel : am_dc 218 48 = some (.invokevirtual 414))
theorem x_218_51  : am_E d 218 Q (51, L, [], g) ↔ Q (.inl none) g := am_E_return (by decide +kernel : am_dc 218 51 = some (.return_)) (by decide +kernel)
theorem v_218_402 : am_iv 218 402 = some (1, 186, 1) := by decide +kernel
theorem v_218_399 : am_iv 218 399 = some (1, 193, 2) := by decide +kernel
theorem v_218_301 : am_iv 218 301 = some (0, 197, 1) := by decide +kernel
theorem v_218_338 : am_iv 218 338 = some (1, 200, 2) := by decide +kernel
theorem v_218_196 : am_iv 218 196 = some (1, 185, 4) := by decide +kernel
theorem v_218_411 : am_iv 218 411 = some (1, 209, 2) := by decide +kernel
theorem v_218_414 : am_iv 218 414 = some (1, 163, 4) := by decide +kernel
theorem t_218 : am_t 218 = none := by decide +kernel
theorem h_218 : am_h 218 = [] := by decide +kernel
theorem m_218 : am_m 218 = 4 := by decide +kernel
theorem x_219_0   : am_E d 219 Q (0, L, st, g) ↔ am_K d 219 Q (am_ldI 1 L st g 0) := am_E_iload_n (by decide +kernel : am_dc 219 0 = some (.iload_n 0)) rfl rfl
theorem x_219_1   : am_E d 219 Q (1, L, st, g) ↔ am_E d 219 Q (2, L, .int (4) :: st, g) := am_E_iconst (by decide +kernel : am_dc 219 1 = some (.iconst (4))) (by decide) rfl
theorem x_219_2   : am_E d 219 Q (2, L, .int y :: .int x :: st, g) ↔ am_E d 219 Q (am_cmp .ge x y 9 5, L, st, g) := am_E_ic (by decide +kernel : am_dc 219 2 = some (.if_icmp .ge (7))) rfl rfl
theorem x_219_5   : am_E d 219 Q (5, L, st, g) ↔ am_E d 219 Q (6, L, .int (1) :: st, g) := am_E_iconst (by decide +kernel : am_dc 219 5 = some (.iconst (1))) (by decide) rfl
theorem x_219_6   : am_E d 219 Q (6, L, st, g) ↔ am_E d 219 Q (10, L, st, g) := am_E_gt (by decide +kernel : am_dc 219 6 = some (.goto (4))) rfl rfl
theorem x_219_9   : am_E d 219 Q (9, L, st, g) ↔ am_E d 219 Q (10, L, .int (2) :: st, g) := am_E_iconst (by decide +kernel : am_dc 219 9 = some (.iconst (2))) (by decide) rfl
theorem x_219_10  : am_E d 219 Q (10, L, [.int x], g) ↔ if am_ok (FieldType.int) (.int x) = true then Q (.inl (some (.int x))) g else False := am_E_ireturn (by decide +kernel : am_dc 219 10 = some (.ireturn)) (by decide +kernel)
theorem t_219 : am_t 219 = some (FieldType.int) := by decide +kernel
theorem h_219 : am_h 219 = [] := by decide +kernel
theorem m_219 : am_m 219 = 1 := by decide +kernel
theorem x_220_0   : am_E d 220 Q (0, L, st, g) ↔ am_K d 220 Q (am_ldA 1 L st g 0) := am_E_aload_n (by decide +kernel : am_dc 220 0 = some (.aload_n 0)) rfl rfl
theorem x_220_1   : am_E d 220 Q (1, L, .ref a :: st, g) ↔ am_kv d 220 Q 4 L st g (am_gf g a 11 14) := am_E_getfield (by decide +kernel : am_dc 220 1 = some (.getfield 48)) (by decide +kernel) rfl
theorem x_220_4   : am_E d 220 Q (4, L, st, g) ↔ am_K d 220 Q (am_ldA 5 L st g 0) := am_E_aload_n (by decide +kernel : am_dc 220 4 = some (.aload_n 0)) rfl rfl
theorem x_220_5   : am_E d 220 Q (5, L, .ref a :: st, g) ↔ am_kv d 220 Q 8 L st g (am_gf g a 11 11) := am_E_getfield (by decide +kernel : am_dc 220 5 = some (.getfield 211)) (by decide +kernel) rfl
theorem x_220_8   : am_E d 220 Q (8, L, st, g) ↔ am_E d 220 Q (9, L, .int (0) :: st, g) := am_E_iconst (by decide +kernel : am_dc 220 8 = some (.iconst (0))) (by decide) rfl
theorem x_220_9   : am_E d 220 Q (9, L, v :: .int x :: .ref a :: st, g) ↔ am_kg d 220 Q 10 L st (am_sat .iastore g a x v) := am_E_iastore (by decide +kernel : am_dc 220 9 = some (.iastore)) rfl
theorem x_220_10   : am_E d 220 Q (10, L, st, g) ↔ am_K d 220 Q (am_ldA 11 L st g 0) := am_E_aload_n (by decide +kernel : am_dc 220 10 = some (.aload_n 0)) rfl rfl
theorem x_220_11   : am_E d 220 Q (11, L, .ref a :: st, g) ↔ am_kv d 220 Q 14 L st g (am_gf g a 11 18) := am_E_getfield (by decide +kernel : am_dc 220 11 = some (.getfield 60)) (by decide +kernel) rfl
theorem x_220_14   : am_E d 220 Q (14, L, st, g) ↔ am_K d 220 Q (am_ldA 15 L st g 0) := am_E_aload_n (by decide +kernel : am_dc 220 14 = some (.aload_n 0)) rfl rfl
theorem x_220_15   : am_E d 220 Q (15, L, .ref a :: st, g) ↔ am_kv d 220 Q 18 L st g (am_gf g a 11 11) := am_E_getfield (by decide +kernel : am_dc 220 15 = some (.getfield 211)) (by decide +kernel) rfl
theorem x_220_18   : am_E d 220 Q (18, L, st, g) ↔ am_E d 220 Q (19, L, .int (0) :: st, g) := am_E_iconst (by decide +kernel : am_dc 220 18 = some (.iconst (0))) (by decide) rfl
theorem x_220_19   : am_E d 220 Q (19, L, v :: .int x :: .ref a :: st, g) ↔ am_kg d 220 Q 20 L st (am_sat .iastore g a x v) := am_E_iastore (by decide +kernel : am_dc 220 19 = some (.iastore)) rfl
theorem x_220_20   : am_E d 220 Q (20, L, st, g) ↔ am_K d 220 Q (am_ldA 21 L st g 0) := am_E_aload_n (by decide +kernel : am_dc 220 20 = some (.aload_n 0)) rfl rfl
theorem x_220_21   : am_E d 220 Q (21, L, st, g) ↔ am_E d 220 Q (22, L, .int (0) :: st, g) := am_E_iconst (by decide +kernel : am_dc 220 21 = some (.iconst (0))) (by decide) rfl
theorem x_220_22   (hok : (am_ok (am_ft 11 25).1 v && (!(am_ft 11 25).2 || (am_ini 220 && am_co 11 == am_o 220)) && decide (11 < 13)) = true) : am_E d 220 Q (22, L, v :: .ref a :: st, g) ↔ am_kg d 220 Q 25 L st (am_pf g a 11 25 v) := am_E_putfield (by decide +kernel : am_dc 220 22 = some (.putfield 233)) (by decide +kernel) rfl hok
theorem x_220_25   : am_E d 220 Q (25, L, st, g) ↔ am_K d 220 Q (am_ldA 26 L st g 0) := am_E_aload_n (by decide +kernel : am_dc 220 25 = some (.aload_n 0)) rfl rfl
theorem x_220_26   : am_E d 220 Q (26, L, st, g) ↔ am_E d 220 Q (27, L, .int (0) :: st, g) := am_E_iconst (by decide +kernel : am_dc 220 26 = some (.iconst (0))) (by decide) rfl
theorem x_220_27   (hok : (am_ok (am_ft 11 31).1 v && (!(am_ft 11 31).2 || (am_ini 220 && am_co 11 == am_o 220)) && decide (11 < 13)) = true) : am_E d 220 Q (27, L, v :: .ref a :: st, g) ↔ am_kg d 220 Q 30 L st (am_pf g a 11 31 v) := am_E_putfield (by decide +kernel : am_dc 220 27 = some (.putfield 236)) (by decide +kernel) rfl hok
theorem x_220_30   : am_E d 220 Q (30, L, st, g) ↔ am_K d 220 Q (am_ldA 31 L st g 0) := am_E_aload_n (by decide +kernel : am_dc 220 30 = some (.aload_n 0)) rfl rfl
theorem x_220_31   : am_E d 220 Q (31, L, st, g) ↔ am_E d 220 Q (32, L, .int (0) :: st, g) := am_E_iconst (by decide +kernel : am_dc 220 31 = some (.iconst (0))) (by decide) rfl
theorem x_220_32   (hok : (am_ok (am_ft 11 33).1 v && (!(am_ft 11 33).2 || (am_ini 220 && am_co 11 == am_o 220)) && decide (11 < 13)) = true) : am_E d 220 Q (32, L, v :: .ref a :: st, g) ↔ am_kg d 220 Q 35 L st (am_pf g a 11 33 v) := am_E_putfield (by decide +kernel : am_dc 220 32 = some (.putfield 248)) (by decide +kernel) rfl hok
theorem x_220_35   : am_E d 220 Q (35, L, st, g) ↔ am_K d 220 Q (am_ldA 36 L st g 0) := am_E_aload_n (by decide +kernel : am_dc 220 35 = some (.aload_n 0)) rfl rfl
theorem x_220_36   : am_E d 220 Q (36, L, st, g) ↔ am_E d 220 Q (37, L, .int (0) :: st, g) := am_E_iconst (by decide +kernel : am_dc 220 36 = some (.iconst (0))) (by decide) rfl
theorem x_220_37   : am_E d 220 Q (37, L, st, g) ↔ am_E d 220 Q (38, L, .int (0) :: st, g) := am_E_iconst (by decide +kernel : am_dc 220 37 = some (.iconst (0))) (by decide) rfl
theorem x_220_38   : am_E d 220 Q (38, L, st, g) ↔ am_E d 220 Q (39, L, .int (0) :: st, g) := am_E_iconst (by decide +kernel : am_dc 220 38 = some (.iconst (0))) (by decide) rfl
theorem x_220_39  : am_E d 220 Q (39, L, st, g) ↔ am_K d 220 Q (am_S 220 (.invokevirtual 260) 39 L st g) := am_E_x (by decide +kernel : am_dc 220 39 = some (.invokevirtual 260))
theorem x_220_42   : am_E d 220 Q (42, L, st, g) ↔ am_E d 220 Q (43, L, .int (0) :: st, g) := am_E_iconst (by decide +kernel : am_dc 220 42 = some (.iconst (0))) (by decide) rfl
theorem x_220_43   : am_E d 220 Q (43, L, st, g) ↔ am_K d 220 Q (am_stI 44 L st g 1) := am_E_istore_n (by decide +kernel : am_dc 220 43 = some (.istore_n 1)) rfl rfl
theorem x_220_44   : am_E d 220 Q (44, L, st, g) ↔ am_K d 220 Q (am_ldI 45 L st g 1) := am_E_iload_n (by decide +kernel : am_dc 220 44 = some (.iload_n 1)) rfl rfl
theorem x_220_45   : am_E d 220 Q (45, L, st, g) ↔ am_K d 220 Q (am_ldA 46 L st g 0) := am_E_aload_n (by decide +kernel : am_dc 220 45 = some (.aload_n 0)) rfl rfl
theorem x_220_46   : am_E d 220 Q (46, L, .ref a :: st, g) ↔ am_kv d 220 Q 49 L st g (am_gf g a 11 23) := am_E_getfield (by decide +kernel : am_dc 220 46 = some (.getfield 230)) (by decide +kernel) rfl
theorem x_220_49   : am_E d 220 Q (49, L, .int y :: .int x :: st, g) ↔ am_E d 220 Q (am_cmp .ge x y 73 52, L, st, g) := am_E_ic (by decide +kernel : am_dc 220 49 = some (.if_icmp .ge (24))) rfl rfl
theorem x_220_52   : am_E d 220 Q (52, L, st, g) ↔ am_K d 220 Q (am_ldA 53 L st g 0) := am_E_aload_n (by decide +kernel : am_dc 220 52 = some (.aload_n 0)) rfl rfl
theorem x_220_53   : am_E d 220 Q (53, L, st, g) ↔ am_K d 220 Q (am_ldA 54 L st g 0) := am_E_aload_n (by decide +kernel : am_dc 220 53 = some (.aload_n 0)) rfl rfl
theorem x_220_54   : am_E d 220 Q (54, L, .ref a :: st, g) ↔ am_kv d 220 Q 57 L st g (am_gf g a 11 24) := am_E_getfield (by decide +kernel : am_dc 220 54 = some (.getfield 75)) (by decide +kernel) rfl
theorem x_220_57   : am_E d 220 Q (57, L, st, g) ↔ am_K d 220 Q (am_ldI 58 L st g 1) := am_E_iload_n (by decide +kernel : am_dc 220 57 = some (.iload_n 1)) rfl rfl
theorem x_220_58   : am_E d 220 Q (58, L, .int x :: .ref a :: st, g) ↔ am_kv d 220 Q 59 L st g (am_iat .caload g a x) := am_E_caload (by decide +kernel : am_dc 220 58 = some (.caload)) rfl
theorem x_220_59  : am_E d 220 Q (59, L, st, g) ↔ am_K d 220 Q (am_S 220 (.invokevirtual 283) 59 L st g) := am_E_x (by decide +kernel : am_dc 220 59 = some (.invokevirtual 283))
theorem x_220_62   : am_E d 220 Q (62, L, .int x :: st, g) ↔ am_E d 220 Q (am_cmp .ne x 0 67 65, L, st, g) := am_E_if (by decide +kernel : am_dc 220 62 = some (.ifCond .ne (5))) rfl rfl
theorem x_220_65   : am_E d 220 Q (65, L, st, g) ↔ am_K d 220 Q (am_ldI 66 L st g 1) := am_E_iload_n (by decide +kernel : am_dc 220 65 = some (.iload_n 1)) rfl rfl
theorem x_220_66  : am_E d 220 Q (66, L, [.int x], g) ↔ if am_ok (FieldType.int) (.int x) = true then Q (.inl (some (.int x))) g else False := am_E_ireturn (by decide +kernel : am_dc 220 66 = some (.ireturn)) (by decide +kernel)
theorem x_220_67   (hk : L.getD 1 none = some (.int x)) (hl : 1 < L.length) : am_E d 220 Q (67, L, st, g) ↔ am_E d 220 Q (70, am_s1 L 1 (.int (x + (1))), st, g) := am_E_iinc (by decide +kernel : am_dc 220 67 = some (.iinc 1 (1))) (by decide) rfl hk hl
theorem x_220_70   : am_E d 220 Q (70, L, st, g) ↔ am_E d 220 Q (44, L, st, g) := am_E_gt (by decide +kernel : am_dc 220 70 = some (.goto (-26))) rfl rfl
theorem x_220_73   : am_E d 220 Q (73, L, st, g) ↔ am_K d 220 Q (am_ldA 74 L st g 0) := am_E_aload_n (by decide +kernel : am_dc 220 73 = some (.aload_n 0)) rfl rfl
theorem x_220_74   : am_E d 220 Q (74, L, .ref a :: st, g) ↔ am_kv d 220 Q 77 L st g (am_gf g a 11 33) := am_E_getfield (by decide +kernel : am_dc 220 74 = some (.getfield 248)) (by decide +kernel) rfl
theorem x_220_77   : am_E d 220 Q (77, L, .int x :: st, g) ↔ am_E d 220 Q (am_cmp .eq x 0 95 80, L, st, g) := am_E_if (by decide +kernel : am_dc 220 77 = some (.ifCond .eq (18))) rfl rfl
theorem x_220_80   : am_E d 220 Q (80, L, st, g) ↔ am_K d 220 Q (am_ldA 81 L st g 0) := am_E_aload_n (by decide +kernel : am_dc 220 80 = some (.aload_n 0)) rfl rfl
theorem x_220_81   : am_E d 220 Q (81, L, .ref a :: st, g) ↔ am_kv d 220 Q 84 L st g (am_gf g a 11 33) := am_E_getfield (by decide +kernel : am_dc 220 81 = some (.getfield 248)) (by decide +kernel) rfl
theorem x_220_84   : am_E d 220 Q (84, L, st, g) ↔ am_E d 220 Q (85, L, .int (2) :: st, g) := am_E_iconst (by decide +kernel : am_dc 220 84 = some (.iconst (2))) (by decide) rfl
theorem x_220_85   : am_E d 220 Q (85, L, .int y :: .int x :: st, g) ↔ am_E d 220 Q (am_cmp .eq x y 95 88, L, st, g) := am_E_ic (by decide +kernel : am_dc 220 85 = some (.if_icmp .eq (10))) rfl rfl
theorem x_220_88   : am_E d 220 Q (88, L, st, g) ↔ am_K d 220 Q (am_ldA 89 L st g 0) := am_E_aload_n (by decide +kernel : am_dc 220 88 = some (.aload_n 0)) rfl rfl
theorem x_220_89  : am_E d 220 Q (89, L, st, g) ↔ am_K d 220 Q (am_S 220 (.invokevirtual 267) 89 L st g) := am_E_x (by decide +kernel : am_dc 220 89 = some (.invokevirtual 267))
theorem x_220_92   : am_E d 220 Q (92, L, .int x :: st, g) ↔ am_E d 220 Q (am_cmp .eq x 0 100 95, L, st, g) := am_E_if (by decide +kernel : am_dc 220 92 = some (.ifCond .eq (8))) rfl rfl
theorem x_220_95   : am_E d 220 Q (95, L, st, g) ↔ am_K d 220 Q (am_ldA 96 L st g 0) := am_E_aload_n (by decide +kernel : am_dc 220 95 = some (.aload_n 0)) rfl rfl
theorem x_220_96   : am_E d 220 Q (96, L, .ref a :: st, g) ↔ am_kv d 220 Q 99 L st g (am_gf g a 11 23) := am_E_getfield (by decide +kernel : am_dc 220 96 = some (.getfield 230)) (by decide +kernel) rfl
theorem x_220_99  : am_E d 220 Q (99, L, [.int x], g) ↔ if am_ok (FieldType.int) (.int x) = true then Q (.inl (some (.int x))) g else False := am_E_ireturn (by decide +kernel : am_dc 220 99 = some (.ireturn)) (by decide +kernel)
theorem x_220_100   : am_E d 220 Q (100, L, st, g) ↔ am_K d 220 Q (am_ldA 101 L st g 0) := am_E_aload_n (by decide +kernel : am_dc 220 100 = some (.aload_n 0)) rfl rfl
theorem x_220_101  : am_E d 220 Q (101, L, st, g) ↔ am_K d 220 Q (am_S 220 (.invokevirtual 264) 101 L st g) := am_E_x (by decide +kernel : am_dc 220 101 = some (.invokevirtual 264))
theorem x_220_104   : am_E d 220 Q (104, L, st, g) ↔ am_K d 220 Q (am_ldA 105 L st g 0) := am_E_aload_n (by decide +kernel : am_dc 220 104 = some (.aload_n 0)) rfl rfl
theorem x_220_105  : am_E d 220 Q (105, L, st, g) ↔ am_K d 220 Q (am_S 220 (.invokevirtual 271) 105 L st g) := am_E_x (by decide +kernel : am_dc 220 105 = some (.invokevirtual 271))
theorem x_220_108   : am_E d 220 Q (108, L, st, g) ↔ am_K d 220 Q (am_ldA 109 L st g 0) := am_E_aload_n (by decide +kernel : am_dc 220 108 = some (.aload_n 0)) rfl rfl
theorem x_220_109   : am_E d 220 Q (109, L, st, g) ↔ am_E d 220 Q (110, L, .int (1) :: st, g) := am_E_iconst (by decide +kernel : am_dc 220 109 = some (.iconst (1))) (by decide) rfl
theorem x_220_110  : am_E d 220 Q (110, L, st, g) ↔ am_K d 220 Q (am_S 220 (.invokevirtual 245) 110 L st g) := am_E_x (by decide +kernel : am_dc 220 110 = some (.invokevirtual 245))
theorem x_220_113   : am_E d 220 Q (113, L, st, g) ↔ am_E d 220 Q (114, L, .int (-1) :: st, g) := am_E_iconst (by decide +kernel : am_dc 220 113 = some (.iconst (-1))) (by decide) rfl
theorem x_220_114  : am_E d 220 Q (114, L, [.int x], g) ↔ if am_ok (FieldType.int) (.int x) = true then Q (.inl (some (.int x))) g else False := am_E_ireturn (by decide +kernel : am_dc 220 114 = some (.ireturn)) (by decide +kernel)
theorem f_220_48 : am_fl 220 48 = some (11, 14) := by decide +kernel
theorem f_220_211 : am_fl 220 211 = some (11, 11) := by decide +kernel
theorem f_220_60 : am_fl 220 60 = some (11, 18) := by decide +kernel
theorem f_220_233 : am_fl 220 233 = some (11, 25) := by decide +kernel
theorem f_220_236 : am_fl 220 236 = some (11, 31) := by decide +kernel
theorem f_220_248 : am_fl 220 248 = some (11, 33) := by decide +kernel
theorem v_220_260 : am_iv 220 260 = some (1, 211, 4) := by decide +kernel
theorem f_220_230 : am_fl 220 230 = some (11, 23) := by decide +kernel
theorem f_220_75 : am_fl 220 75 = some (11, 24) := by decide +kernel
theorem v_220_283 : am_iv 220 283 = some (1, 234, 2) := by decide +kernel
theorem v_220_267 : am_iv 220 267 = some (1, 173, 1) := by decide +kernel
theorem v_220_264 : am_iv 220 264 = some (1, 175, 1) := by decide +kernel
theorem v_220_271 : am_iv 220 271 = some (1, 174, 1) := by decide +kernel
theorem v_220_245 : am_iv 220 245 = some (1, 216, 2) := by decide +kernel
theorem t_220 : am_t 220 = some (FieldType.int) := by decide +kernel
theorem h_220 : am_h 220 = [] := by decide +kernel
theorem m_220 : am_m 220 = 2 := by decide +kernel
theorem x_221_0   : am_E d 221 Q (0, L, st, g) ↔ am_K d 221 Q (am_ldA 1 L st g 0) := am_E_aload_n (by decide +kernel : am_dc 221 0 = some (.aload_n 0)) rfl rfl
theorem x_221_1   : am_E d 221 Q (1, L, st, g) ↔ am_K d 221 Q (am_ldA 2 L st g 0) := am_E_aload_n (by decide +kernel : am_dc 221 1 = some (.aload_n 0)) rfl rfl
theorem x_221_2   : am_E d 221 Q (2, L, .ref a :: st, g) ↔ am_kv d 221 Q 5 L st g (am_gf g a 11 38) := am_E_getfield (by decide +kernel : am_dc 221 2 = some (.getfield 186)) (by decide +kernel) rfl
theorem x_221_5   : am_E d 221 Q (5, L, st, g) ↔ am_K d 221 Q (am_ldA 6 L st g 0) := am_E_aload_n (by decide +kernel : am_dc 221 5 = some (.aload_n 0)) rfl rfl
theorem x_221_6   : am_E d 221 Q (6, L, .ref a :: st, g) ↔ am_kv d 221 Q 9 L st g (am_gf g a 11 37) := am_E_getfield (by decide +kernel : am_dc 221 6 = some (.getfield 183)) (by decide +kernel) rfl
theorem x_221_9   : am_E d 221 Q (9, L, .int y :: .int x :: st, g) ↔ am_E d 221 Q (am_cmp .ge x y 16 12, L, st, g) := am_E_ic (by decide +kernel : am_dc 221 9 = some (.if_icmp .ge (7))) rfl rfl
theorem x_221_12   : am_E d 221 Q (12, L, st, g) ↔ am_E d 221 Q (13, L, .int (1) :: st, g) := am_E_iconst (by decide +kernel : am_dc 221 12 = some (.iconst (1))) (by decide) rfl
theorem x_221_13   : am_E d 221 Q (13, L, st, g) ↔ am_E d 221 Q (17, L, st, g) := am_E_gt (by decide +kernel : am_dc 221 13 = some (.goto (4))) rfl rfl
theorem x_221_16   : am_E d 221 Q (16, L, st, g) ↔ am_E d 221 Q (17, L, .int (0) :: st, g) := am_E_iconst (by decide +kernel : am_dc 221 16 = some (.iconst (0))) (by decide) rfl
theorem x_221_17   : am_E d 221 Q (17, L, st, g) ↔ am_E d 221 Q (18, L, .int (1) :: st, g) := am_E_iconst (by decide +kernel : am_dc 221 17 = some (.iconst (1))) (by decide) rfl
theorem x_221_18   : am_E d 221 Q (18, L, st, g) ↔ am_E d 221 Q (19, L, .int (1) :: st, g) := am_E_iconst (by decide +kernel : am_dc 221 18 = some (.iconst (1))) (by decide) rfl
theorem x_221_19  : am_E d 221 Q (19, L, st, g) ↔ am_K d 221 Q (am_S 221 (.invokevirtual 196) 19 L st g) := am_E_x (by decide +kernel : am_dc 221 19 = some (.invokevirtual 196))
theorem x_221_22   : am_E d 221 Q (22, L, .int x :: st, g) ↔ am_E d 221 Q (am_cmp .ne x 0 27 25, L, st, g) := am_E_if (by decide +kernel : am_dc 221 22 = some (.ifCond .ne (5))) rfl rfl
theorem x_221_25   : am_E d 221 Q (25, L, st, g) ↔ am_E d 221 Q (26, L, .int (0) :: st, g) := am_E_iconst (by decide +kernel : am_dc 221 25 = some (.iconst (0))) (by decide) rfl
theorem x_221_26  : am_E d 221 Q (26, L, [.int x], g) ↔ if am_ok (FieldType.int) (.int x) = true then Q (.inl (some (.int x))) g else False := am_E_ireturn (by decide +kernel : am_dc 221 26 = some (.ireturn)) (by decide +kernel)
theorem x_221_27   : am_E d 221 Q (27, L, st, g) ↔ am_E d 221 Q (30, L, .int (216) :: st, g) := am_E_sipush (by decide +kernel : am_dc 221 27 = some (.sipush (216))) (by decide) rfl
theorem x_221_30   : am_E d 221 Q (30, L, st, g) ↔ am_K d 221 Q (am_ldA 31 L st g 0) := am_E_aload_n (by decide +kernel : am_dc 221 30 = some (.aload_n 0)) rfl rfl
theorem x_221_31   : am_E d 221 Q (31, L, .ref a :: st, g) ↔ am_kv d 221 Q 34 L st g (am_gf g a 11 38) := am_E_getfield (by decide +kernel : am_dc 221 31 = some (.getfield 186)) (by decide +kernel) rfl
theorem x_221_34   : am_E d 221 Q (34, L, .int y :: .int x :: st, g) ↔ am_E d 221 Q (35, L, .int (x * y) :: st, g) := am_E_imul (by decide +kernel : am_dc 221 34 = some (.imul)) rfl
theorem x_221_35   : am_E d 221 Q (35, L, st, g) ↔ am_K d 221 Q (am_stI 36 L st g 1) := am_E_istore_n (by decide +kernel : am_dc 221 35 = some (.istore_n 1)) rfl rfl
theorem x_221_36   : am_E d 221 Q (36, L, st, g) ↔ am_K d 221 Q (am_ldI 37 L st g 1) := am_E_iload_n (by decide +kernel : am_dc 221 36 = some (.iload_n 1)) rfl rfl
theorem x_221_37   : am_E d 221 Q (37, L, st, g) ↔ am_E d 221 Q (40, L, .int (216) :: st, g) := am_E_sipush (by decide +kernel : am_dc 221 37 = some (.sipush (216))) (by decide) rfl
theorem x_221_40   : am_E d 221 Q (40, L, st, g) ↔ am_K d 221 Q (am_ldA 41 L st g 0) := am_E_aload_n (by decide +kernel : am_dc 221 40 = some (.aload_n 0)) rfl rfl
theorem x_221_41   : am_E d 221 Q (41, L, .ref a :: st, g) ↔ am_kv d 221 Q 44 L st g (am_gf g a 11 38) := am_E_getfield (by decide +kernel : am_dc 221 41 = some (.getfield 186)) (by decide +kernel) rfl
theorem x_221_44   : am_E d 221 Q (44, L, .int y :: .int x :: st, g) ↔ am_E d 221 Q (45, L, .int (x * y) :: st, g) := am_E_imul (by decide +kernel : am_dc 221 44 = some (.imul)) rfl
theorem x_221_45   : am_E d 221 Q (45, L, st, g) ↔ am_K d 221 Q (am_ldA 46 L st g 0) := am_E_aload_n (by decide +kernel : am_dc 221 45 = some (.aload_n 0)) rfl rfl
theorem x_221_46   : am_E d 221 Q (46, L, .ref a :: st, g) ↔ am_kv d 221 Q 49 L st g (am_gf g a 11 40) := am_E_getfield (by decide +kernel : am_dc 221 46 = some (.getfield 100)) (by decide +kernel) rfl
theorem x_221_49   : am_E d 221 Q (49, L, st, g) ↔ am_K d 221 Q (am_ldA 50 L st g 0) := am_E_aload_n (by decide +kernel : am_dc 221 49 = some (.aload_n 0)) rfl rfl
theorem x_221_50   : am_E d 221 Q (50, L, .ref a :: st, g) ↔ am_kv d 221 Q 53 L st g (am_gf g a 11 38) := am_E_getfield (by decide +kernel : am_dc 221 50 = some (.getfield 186)) (by decide +kernel) rfl
theorem x_221_53   : am_E d 221 Q (53, L, .int x :: .ref a :: st, g) ↔ am_kv d 221 Q 54 L st g (am_iat .iaload g a x) := am_E_iaload (by decide +kernel : am_dc 221 53 = some (.iaload)) rfl
theorem x_221_54   : am_E d 221 Q (54, L, .int y :: .int x :: st, g) ↔ am_E d 221 Q (55, L, .int (x + y) :: st, g) := am_E_iadd (by decide +kernel : am_dc 221 54 = some (.iadd)) rfl
theorem x_221_55   : am_E d 221 Q (55, L, .int y :: .int x :: st, g) ↔ am_E d 221 Q (am_cmp .ge x y 109 58, L, st, g) := am_E_ic (by decide +kernel : am_dc 221 55 = some (.if_icmp .ge (54))) rfl rfl
theorem x_221_58   : am_E d 221 Q (58, L, st, g) ↔ am_E d 221 Q (61, L, .int (216) :: st, g) := am_E_sipush (by decide +kernel : am_dc 221 58 = some (.sipush (216))) (by decide) rfl
theorem x_221_61   : am_E d 221 Q (61, L, st, g) ↔ am_K d 221 Q (am_ldA 62 L st g 0) := am_E_aload_n (by decide +kernel : am_dc 221 61 = some (.aload_n 0)) rfl rfl
theorem x_221_62   : am_E d 221 Q (62, L, .ref a :: st, g) ↔ am_kv d 221 Q 65 L st g (am_gf g a 11 39) := am_E_getfield (by decide +kernel : am_dc 221 62 = some (.getfield 97)) (by decide +kernel) rfl
theorem x_221_65   : am_E d 221 Q (65, L, st, g) ↔ am_K d 221 Q (am_ldA 66 L st g 0) := am_E_aload_n (by decide +kernel : am_dc 221 65 = some (.aload_n 0)) rfl rfl
theorem x_221_66   : am_E d 221 Q (66, L, .ref a :: st, g) ↔ am_kv d 221 Q 69 L st g (am_gf g a 11 38) := am_E_getfield (by decide +kernel : am_dc 221 66 = some (.getfield 186)) (by decide +kernel) rfl
theorem x_221_69   : am_E d 221 Q (69, L, .int x :: .ref a :: st, g) ↔ am_kv d 221 Q 70 L st g (am_iat .iaload g a x) := am_E_iaload (by decide +kernel : am_dc 221 69 = some (.iaload)) rfl
theorem x_221_70   : am_E d 221 Q (70, L, .int y :: .int x :: st, g) ↔ am_E d 221 Q (71, L, .int (x * y) :: st, g) := am_E_imul (by decide +kernel : am_dc 221 70 = some (.imul)) rfl
theorem x_221_71   : am_E d 221 Q (71, L, st, g) ↔ am_K d 221 Q (am_ldA 72 L st g 0) := am_E_aload_n (by decide +kernel : am_dc 221 71 = some (.aload_n 0)) rfl rfl
theorem x_221_72   : am_E d 221 Q (72, L, .ref a :: st, g) ↔ am_kv d 221 Q 75 L st g (am_gf g a 11 41) := am_E_getfield (by decide +kernel : am_dc 221 72 = some (.getfield 103)) (by decide +kernel) rfl
theorem x_221_75   : am_E d 221 Q (75, L, st, g) ↔ am_K d 221 Q (am_ldI 76 L st g 1) := am_E_iload_n (by decide +kernel : am_dc 221 75 = some (.iload_n 1)) rfl rfl
theorem x_221_76   : am_E d 221 Q (76, L, .int x :: .ref a :: st, g) ↔ am_kv d 221 Q 77 L st g (am_iat .iaload g a x) := am_E_iaload (by decide +kernel : am_dc 221 76 = some (.iaload)) rfl
theorem x_221_77   : am_E d 221 Q (77, L, .int y :: .int x :: st, g) ↔ am_E d 221 Q (78, L, .int (x + y) :: st, g) := am_E_iadd (by decide +kernel : am_dc 221 77 = some (.iadd)) rfl
theorem x_221_78   : am_E d 221 Q (78, L, st, g) ↔ am_K d 221 Q (am_stI 79 L st g 2) := am_E_istore_n (by decide +kernel : am_dc 221 78 = some (.istore_n 2)) rfl rfl
theorem x_221_79   : am_E d 221 Q (79, L, st, g) ↔ am_K d 221 Q (am_ldA 80 L st g 0) := am_E_aload_n (by decide +kernel : am_dc 221 79 = some (.aload_n 0)) rfl rfl
theorem x_221_80   : am_E d 221 Q (80, L, .ref a :: st, g) ↔ am_kv d 221 Q 83 L st g (am_gf g a 11 9) := am_E_getfield (by decide +kernel : am_dc 221 80 = some (.getfield 36)) (by decide +kernel) rfl
theorem x_221_83   : am_E d 221 Q (83, L, st, g) ↔ am_K d 221 Q (am_ldI 84 L st g 2) := am_E_iload_n (by decide +kernel : am_dc 221 83 = some (.iload_n 2)) rfl rfl
theorem x_221_84   : am_E d 221 Q (84, L, st, g) ↔ am_K d 221 Q (am_ldA 85 L st g 0) := am_E_aload_n (by decide +kernel : am_dc 221 84 = some (.aload_n 0)) rfl rfl
theorem x_221_85   : am_E d 221 Q (85, L, .ref a :: st, g) ↔ am_kv d 221 Q 88 L st g (am_gf g a 11 44) := am_E_getfield (by decide +kernel : am_dc 221 85 = some (.getfield 112)) (by decide +kernel) rfl
theorem x_221_88   : am_E d 221 Q (88, L, st, g) ↔ am_K d 221 Q (am_ldI 89 L st g 1) := am_E_iload_n (by decide +kernel : am_dc 221 88 = some (.iload_n 1)) rfl rfl
theorem x_221_89   : am_E d 221 Q (89, L, .int x :: .ref a :: st, g) ↔ am_kv d 221 Q 90 L st g (am_iat .baload g a x) := am_E_baload (by decide +kernel : am_dc 221 89 = some (.baload)) rfl
theorem x_221_90   : am_E d 221 Q (90, L, v :: .int x :: .ref a :: st, g) ↔ am_kg d 221 Q 91 L st (am_sat .bastore g a x v) := am_E_bastore (by decide +kernel : am_dc 221 90 = some (.bastore)) rfl
theorem x_221_91   : am_E d 221 Q (91, L, st, g) ↔ am_K d 221 Q (am_ldA 92 L st g 0) := am_E_aload_n (by decide +kernel : am_dc 221 91 = some (.aload_n 0)) rfl rfl
theorem x_221_92   : am_E d 221 Q (92, L, .ref a :: st, g) ↔ am_kv d 221 Q 95 L st g (am_gf g a 11 10) := am_E_getfield (by decide +kernel : am_dc 221 92 = some (.getfield 39)) (by decide +kernel) rfl
theorem x_221_95   : am_E d 221 Q (95, L, st, g) ↔ am_K d 221 Q (am_ldI 96 L st g 2) := am_E_iload_n (by decide +kernel : am_dc 221 95 = some (.iload_n 2)) rfl rfl
theorem x_221_96   : am_E d 221 Q (96, L, st, g) ↔ am_K d 221 Q (am_ldA 97 L st g 0) := am_E_aload_n (by decide +kernel : am_dc 221 96 = some (.aload_n 0)) rfl rfl
theorem x_221_97   : am_E d 221 Q (97, L, .ref a :: st, g) ↔ am_kv d 221 Q 100 L st g (am_gf g a 11 45) := am_E_getfield (by decide +kernel : am_dc 221 97 = some (.getfield 115)) (by decide +kernel) rfl
theorem x_221_100   : am_E d 221 Q (100, L, st, g) ↔ am_K d 221 Q (am_ldI 101 L st g 1) := am_E_iload_n (by decide +kernel : am_dc 221 100 = some (.iload_n 1)) rfl rfl
theorem x_221_101   : am_E d 221 Q (101, L, .int x :: .ref a :: st, g) ↔ am_kv d 221 Q 102 L st g (am_iat .iaload g a x) := am_E_iaload (by decide +kernel : am_dc 221 101 = some (.iaload)) rfl
theorem x_221_102   : am_E d 221 Q (102, L, v :: .int x :: .ref a :: st, g) ↔ am_kg d 221 Q 103 L st (am_sat .iastore g a x v) := am_E_iastore (by decide +kernel : am_dc 221 102 = some (.iastore)) rfl
theorem x_221_103   (hk : L.getD 1 none = some (.int x)) (hl : 1 < L.length) : am_E d 221 Q (103, L, st, g) ↔ am_E d 221 Q (106, am_s1 L 1 (.int (x + (1))), st, g) := am_E_iinc (by decide +kernel : am_dc 221 103 = some (.iinc 1 (1))) (by decide) rfl hk hl
theorem x_221_106   : am_E d 221 Q (106, L, st, g) ↔ am_E d 221 Q (36, L, st, g) := am_E_gt (by decide +kernel : am_dc 221 106 = some (.goto (-70))) rfl rfl
theorem x_221_109   : am_E d 221 Q (109, L, st, g) ↔ am_K d 221 Q (am_ldA 110 L st g 0) := am_E_aload_n (by decide +kernel : am_dc 221 109 = some (.aload_n 0)) rfl rfl
theorem x_221_110   : am_E d 221 Q (110, L, v :: st, g) ↔ if v.category = 1 then am_E d 221 Q (111, L, v :: v :: st, g) else False := am_E_dup (by decide +kernel : am_dc 221 110 = some (.dup)) rfl
theorem x_221_111   : am_E d 221 Q (111, L, .ref a :: st, g) ↔ am_kv d 221 Q 114 L st g (am_gf g a 11 38) := am_E_getfield (by decide +kernel : am_dc 221 111 = some (.getfield 186)) (by decide +kernel) rfl
theorem x_221_114   : am_E d 221 Q (114, L, st, g) ↔ am_E d 221 Q (115, L, .int (1) :: st, g) := am_E_iconst (by decide +kernel : am_dc 221 114 = some (.iconst (1))) (by decide) rfl
theorem x_221_115   : am_E d 221 Q (115, L, .int y :: .int x :: st, g) ↔ am_E d 221 Q (116, L, .int (x + y) :: st, g) := am_E_iadd (by decide +kernel : am_dc 221 115 = some (.iadd)) rfl
theorem x_221_116   (hok : (am_ok (am_ft 11 38).1 v && (!(am_ft 11 38).2 || (am_ini 221 && am_co 11 == am_o 221)) && decide (11 < 13)) = true) : am_E d 221 Q (116, L, v :: .ref a :: st, g) ↔ am_kg d 221 Q 119 L st (am_pf g a 11 38 v) := am_E_putfield (by decide +kernel : am_dc 221 116 = some (.putfield 186)) (by decide +kernel) rfl hok
theorem x_221_119   : am_E d 221 Q (119, L, st, g) ↔ am_K d 221 Q (am_ldA 120 L st g 0) := am_E_aload_n (by decide +kernel : am_dc 221 119 = some (.aload_n 0)) rfl rfl
theorem x_221_120   : am_E d 221 Q (120, L, .ref a :: st, g) ↔ am_kv d 221 Q 123 L st g (am_gf g a 11 37) := am_E_getfield (by decide +kernel : am_dc 221 120 = some (.getfield 183)) (by decide +kernel) rfl
theorem x_221_123   : am_E d 221 Q (123, L, st, g) ↔ am_K d 221 Q (am_ldA 124 L st g 0) := am_E_aload_n (by decide +kernel : am_dc 221 123 = some (.aload_n 0)) rfl rfl
theorem x_221_124   : am_E d 221 Q (124, L, .ref a :: st, g) ↔ am_kv d 221 Q 127 L st g (am_gf g a 11 38) := am_E_getfield (by decide +kernel : am_dc 221 124 = some (.getfield 186)) (by decide +kernel) rfl
theorem x_221_127   : am_E d 221 Q (127, L, .int y :: .int x :: st, g) ↔ am_E d 221 Q (128, L, .int (x - y) :: st, g) := am_E_isub (by decide +kernel : am_dc 221 127 = some (.isub)) rfl
theorem x_221_128  : am_E d 221 Q (128, L, [.int x], g) ↔ if am_ok (FieldType.int) (.int x) = true then Q (.inl (some (.int x))) g else False := am_E_ireturn (by decide +kernel : am_dc 221 128 = some (.ireturn)) (by decide +kernel)
theorem f_221_186 : am_fl 221 186 = some (11, 38) := by decide +kernel
theorem f_221_183 : am_fl 221 183 = some (11, 37) := by decide +kernel
theorem v_221_196 : am_iv 221 196 = some (1, 185, 4) := by decide +kernel
theorem f_221_100 : am_fl 221 100 = some (11, 40) := by decide +kernel
theorem f_221_97 : am_fl 221 97 = some (11, 39) := by decide +kernel
theorem f_221_103 : am_fl 221 103 = some (11, 41) := by decide +kernel
theorem f_221_36 : am_fl 221 36 = some (11, 9) := by decide +kernel
theorem f_221_112 : am_fl 221 112 = some (11, 44) := by decide +kernel
theorem f_221_39 : am_fl 221 39 = some (11, 10) := by decide +kernel
theorem f_221_115 : am_fl 221 115 = some (11, 45) := by decide +kernel
theorem t_221 : am_t 221 = some (FieldType.int) := by decide +kernel
theorem h_221 : am_h 221 = [] := by decide +kernel
theorem m_221 : am_m 221 = 3 := by decide +kernel
theorem x_222_0   : am_E d 222 Q (0, L, st, g) ↔ am_K d 222 Q (am_ldA 1 L st g 0) := am_E_aload_n (by decide +kernel : am_dc 222 0 = some (.aload_n 0)) rfl rfl
theorem x_222_1   : am_E d 222 Q (1, L, .ref a :: st, g) ↔ am_kv d 222 Q 4 L st g (am_gf g a 11 51) := am_E_getfield (by decide +kernel : am_dc 222 1 = some (.getfield 121)) (by decide +kernel) rfl
theorem x_222_4   : am_E d 222 Q (4, L, st, g) ↔ am_K d 222 Q (am_ldI 5 L st g 1) := am_E_iload_n (by decide +kernel : am_dc 222 4 = some (.iload_n 1)) rfl rfl
theorem x_222_5   : am_E d 222 Q (5, L, .int x :: .ref a :: st, g) ↔ am_kv d 222 Q 6 L st g (am_iat .iaload g a x) := am_E_iaload (by decide +kernel : am_dc 222 5 = some (.iaload)) rfl
theorem x_222_6   : am_E d 222 Q (6, L, st, g) ↔ am_K d 222 Q (am_stI 8 L st g 4) := am_E_istore (by decide +kernel : am_dc 222 6 = some (.istore 4)) rfl
theorem x_222_8   : am_E d 222 Q (8, L, st, g) ↔ am_E d 222 Q (10, L, .int (24) :: st, g) := am_E_bipush (by decide +kernel : am_dc 222 8 = some (.bipush (24))) (by decide) rfl
theorem x_222_10   : am_E d 222 Q (10, L, st, g) ↔ am_K d 222 Q (am_ldI 12 L st g 4) := am_E_iload (by decide +kernel : am_dc 222 10 = some (.iload 4)) rfl
theorem x_222_12   : am_E d 222 Q (12, L, .int y :: .int x :: st, g) ↔ am_E d 222 Q (13, L, .int (x * y) :: st, g) := am_E_imul (by decide +kernel : am_dc 222 12 = some (.imul)) rfl
theorem x_222_13   : am_E d 222 Q (13, L, st, g) ↔ am_K d 222 Q (am_ldI 14 L st g 2) := am_E_iload_n (by decide +kernel : am_dc 222 13 = some (.iload_n 2)) rfl rfl
theorem x_222_14   : am_E d 222 Q (14, L, .int y :: .int x :: st, g) ↔ am_E d 222 Q (15, L, .int (x + y) :: st, g) := am_E_iadd (by decide +kernel : am_dc 222 14 = some (.iadd)) rfl
theorem x_222_15   : am_E d 222 Q (15, L, st, g) ↔ am_K d 222 Q (am_ldI 16 L st g 3) := am_E_iload_n (by decide +kernel : am_dc 222 15 = some (.iload_n 3)) rfl rfl
theorem x_222_16   : am_E d 222 Q (16, L, .int y :: .int x :: st, g) ↔ am_E d 222 Q (17, L, .int (x + y) :: st, g) := am_E_iadd (by decide +kernel : am_dc 222 16 = some (.iadd)) rfl
theorem x_222_17   : am_E d 222 Q (17, L, st, g) ↔ am_E d 222 Q (18, L, .int (1) :: st, g) := am_E_iconst (by decide +kernel : am_dc 222 17 = some (.iconst (1))) (by decide) rfl
theorem x_222_18   : am_E d 222 Q (18, L, .int y :: .int x :: st, g) ↔ am_E d 222 Q (19, L, .int (x - y) :: st, g) := am_E_isub (by decide +kernel : am_dc 222 18 = some (.isub)) rfl
theorem x_222_19   : am_E d 222 Q (19, L, st, g) ↔ am_K d 222 Q (am_stI 21 L st g 5) := am_E_istore (by decide +kernel : am_dc 222 19 = some (.istore 5)) rfl
theorem x_222_21   : am_E d 222 Q (21, L, st, g) ↔ am_K d 222 Q (am_ldA 22 L st g 0) := am_E_aload_n (by decide +kernel : am_dc 222 21 = some (.aload_n 0)) rfl rfl
theorem x_222_22   : am_E d 222 Q (22, L, st, g) ↔ am_K d 222 Q (am_ldI 24 L st g 4) := am_E_iload (by decide +kernel : am_dc 222 22 = some (.iload 4)) rfl
theorem x_222_24   : am_E d 222 Q (24, L, st, g) ↔ am_K d 222 Q (am_ldI 25 L st g 2) := am_E_iload_n (by decide +kernel : am_dc 222 24 = some (.iload_n 2)) rfl rfl
theorem x_222_25   : am_E d 222 Q (25, L, st, g) ↔ am_K d 222 Q (am_ldI 26 L st g 3) := am_E_iload_n (by decide +kernel : am_dc 222 25 = some (.iload_n 3)) rfl rfl
theorem x_222_26   : am_E d 222 Q (26, L, st, g) ↔ am_K d 222 Q (am_ldA 27 L st g 0) := am_E_aload_n (by decide +kernel : am_dc 222 26 = some (.aload_n 0)) rfl rfl
theorem x_222_27   : am_E d 222 Q (27, L, .ref a :: st, g) ↔ am_kv d 222 Q 30 L st g (am_gf g a 11 50) := am_E_getfield (by decide +kernel : am_dc 222 27 = some (.getfield 118)) (by decide +kernel) rfl
theorem x_222_30   : am_E d 222 Q (30, L, st, g) ↔ am_K d 222 Q (am_ldI 31 L st g 1) := am_E_iload_n (by decide +kernel : am_dc 222 30 = some (.iload_n 1)) rfl rfl
theorem x_222_31   : am_E d 222 Q (31, L, .int x :: .ref a :: st, g) ↔ am_kv d 222 Q 32 L st g (am_iat .iaload g a x) := am_E_iaload (by decide +kernel : am_dc 222 31 = some (.iaload)) rfl
theorem x_222_32  : am_E d 222 Q (32, L, st, g) ↔ am_K d 222 Q (am_S 222 (.invokevirtual 378) 32 L st g) := am_E_x (by decide +kernel : am_dc 222 32 = some (.invokevirtual 378))
theorem x_222_35   : am_E d 222 Q (35, L, st, g) ↔ am_K d 222 Q (am_stI 37 L st g 6) := am_E_istore (by decide +kernel : am_dc 222 35 = some (.istore 6)) rfl
theorem x_222_37   : am_E d 222 Q (37, L, st, g) ↔ am_K d 222 Q (am_ldI 39 L st g 6) := am_E_iload (by decide +kernel : am_dc 222 37 = some (.iload 6)) rfl
theorem x_222_39   : am_E d 222 Q (39, L, .int x :: st, g) ↔ am_E d 222 Q (am_cmp .ge x 0 51 42, L, st, g) := am_E_if (by decide +kernel : am_dc 222 39 = some (.ifCond .ge (12))) rfl rfl
theorem x_222_42   : am_E d 222 Q (42, L, st, g) ↔ am_K d 222 Q (am_ldA 43 L st g 0) := am_E_aload_n (by decide +kernel : am_dc 222 42 = some (.aload_n 0)) rfl rfl
theorem x_222_43   : am_E d 222 Q (43, L, st, g) ↔ am_E d 222 Q (44, L, .int (1) :: st, g) := am_E_iconst (by decide +kernel : am_dc 222 43 = some (.iconst (1))) (by decide) rfl
theorem x_222_44   : am_E d 222 Q (44, L, st, g) ↔ am_E d 222 Q (45, L, .long (0) :: st, g) := am_E_lconst (by decide +kernel : am_dc 222 44 = some (.lconst 0)) (by decide) rfl
theorem x_222_45  : am_E d 222 Q (45, L, st, g) ↔ am_K d 222 Q (am_S 222 (.invokevirtual 356) 45 L st g) := am_E_x (by decide +kernel : am_dc 222 45 = some (.invokevirtual 356))
theorem x_222_48   : am_E d 222 Q (48, L, st, g) ↔ am_E d 222 Q (86, L, st, g) := am_E_gt (by decide +kernel : am_dc 222 48 = some (.goto (38))) rfl rfl
theorem x_222_51   : am_E d 222 Q (51, L, st, g) ↔ am_K d 222 Q (am_ldA 52 L st g 0) := am_E_aload_n (by decide +kernel : am_dc 222 51 = some (.aload_n 0)) rfl rfl
theorem x_222_52   : am_E d 222 Q (52, L, .ref a :: st, g) ↔ am_kv d 222 Q 55 L st g (am_gf g a 11 20) := am_E_getfield (by decide +kernel : am_dc 222 52 = some (.getfield 66)) (by decide +kernel) rfl
theorem x_222_55   : am_E d 222 Q (55, L, st, g) ↔ am_K d 222 Q (am_ldI 57 L st g 5) := am_E_iload (by decide +kernel : am_dc 222 55 = some (.iload 5)) rfl
theorem x_222_57   : am_E d 222 Q (57, L, .int x :: .ref a :: st, g) ↔ am_kv d 222 Q 58 L st g (am_iat .iaload g a x) := am_E_iaload (by decide +kernel : am_dc 222 57 = some (.iaload)) rfl
theorem x_222_58   : am_E d 222 Q (58, L, st, g) ↔ am_E d 222 Q (60, L, .int (36) :: st, g) := am_E_bipush (by decide +kernel : am_dc 222 58 = some (.bipush (36))) (by decide) rfl
theorem x_222_60   : am_E d 222 Q (60, L, .int y :: .int x :: st, g) ↔ am_E d 222 Q (am_cmp .ne x y 80 63, L, st, g) := am_E_ic (by decide +kernel : am_dc 222 60 = some (.if_icmp .ne (20))) rfl rfl
theorem x_222_63   : am_E d 222 Q (63, L, st, g) ↔ am_K d 222 Q (am_ldA 64 L st g 0) := am_E_aload_n (by decide +kernel : am_dc 222 63 = some (.aload_n 0)) rfl rfl
theorem x_222_64   : am_E d 222 Q (64, L, st, g) ↔ am_K d 222 Q (am_ldI 65 L st g 1) := am_E_iload_n (by decide +kernel : am_dc 222 64 = some (.iload_n 1)) rfl rfl
theorem x_222_65   : am_E d 222 Q (65, L, st, g) ↔ am_K d 222 Q (am_ldA 66 L st g 0) := am_E_aload_n (by decide +kernel : am_dc 222 65 = some (.aload_n 0)) rfl rfl
theorem x_222_66   : am_E d 222 Q (66, L, .ref a :: st, g) ↔ am_kv d 222 Q 69 L st g (am_gf g a 11 19) := am_E_getfield (by decide +kernel : am_dc 222 66 = some (.getfield 63)) (by decide +kernel) rfl
theorem x_222_69   : am_E d 222 Q (69, L, st, g) ↔ am_K d 222 Q (am_ldI 71 L st g 5) := am_E_iload (by decide +kernel : am_dc 222 69 = some (.iload 5)) rfl
theorem x_222_71   : am_E d 222 Q (71, L, .int x :: .ref a :: st, g) ↔ am_kv d 222 Q 72 L st g (am_iat .iaload g a x) := am_E_iaload (by decide +kernel : am_dc 222 71 = some (.iaload)) rfl
theorem x_222_72   : am_E d 222 Q (72, L, st, g) ↔ am_K d 222 Q (am_ldI 74 L st g 6) := am_E_iload (by decide +kernel : am_dc 222 72 = some (.iload 6)) rfl
theorem x_222_74  : am_E d 222 Q (74, L, st, g) ↔ am_K d 222 Q (am_S 222 (.invokevirtual 318) 74 L st g) := am_E_x (by decide +kernel : am_dc 222 74 = some (.invokevirtual 318))
theorem x_222_77   : am_E d 222 Q (77, L, st, g) ↔ am_E d 222 Q (86, L, st, g) := am_E_gt (by decide +kernel : am_dc 222 77 = some (.goto (9))) rfl rfl
theorem x_222_80   : am_E d 222 Q (80, L, st, g) ↔ am_K d 222 Q (am_ldA 81 L st g 0) := am_E_aload_n (by decide +kernel : am_dc 222 80 = some (.aload_n 0)) rfl rfl
theorem x_222_81   : am_E d 222 Q (81, L, st, g) ↔ am_K d 222 Q (am_ldI 83 L st g 6) := am_E_iload (by decide +kernel : am_dc 222 81 = some (.iload 6)) rfl
theorem x_222_83  : am_E d 222 Q (83, L, st, g) ↔ am_K d 222 Q (am_S 222 (.invokevirtual 365) 83 L st g) := am_E_x (by decide +kernel : am_dc 222 83 = some (.invokevirtual 365))
theorem x_222_86  : am_E d 222 Q (86, L, [], g) ↔ Q (.inl none) g := am_E_return (by decide +kernel : am_dc 222 86 = some (.return_)) (by decide +kernel)
theorem f_222_121 : am_fl 222 121 = some (11, 51) := by decide +kernel
theorem f_222_118 : am_fl 222 118 = some (11, 50) := by decide +kernel
theorem v_222_378 : am_iv 222 378 = some (1, 235, 5) := by decide +kernel
theorem v_222_356 : am_iv 222 356 = some (1, 217, 3) := by decide +kernel
theorem f_222_66 : am_fl 222 66 = some (11, 20) := by decide +kernel
theorem f_222_63 : am_fl 222 63 = some (11, 19) := by decide +kernel
theorem v_222_318 : am_iv 222 318 = some (1, 161, 4) := by decide +kernel
theorem v_222_365 : am_iv 222 365 = some (1, 208, 2) := by decide +kernel
theorem t_222 : am_t 222 = none := by decide +kernel
theorem h_222 : am_h 222 = [] := by decide +kernel
theorem m_222 : am_m 222 = 7 := by decide +kernel
end AMZ
