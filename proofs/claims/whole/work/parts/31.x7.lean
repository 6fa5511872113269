/-! Rules of the machine, an instruction each. Written by program (wip/gen/genx.py). -/
section AMZ
variable {d : Nat} {Q : am_Ou → am_G → Prop} {L : am_Lo} {st : List Value} {g : am_G} {x y : Int32} {u w : Int64} {e1 : UInt32} {a : Nat} {v v1 : Value}
theorem x_249_0   : am_E d 249 Q (0, L, st, g) ↔ am_K d 249 Q (am_ldA 1 L st g 1) := am_E_aload_n (by decide +kernel : am_dc 249 0 = some (.aload_n 1)) rfl rfl
theorem x_249_1  : am_E d 249 Q (1, L, st, g) ↔ am_K d 249 Q (am_S 249 (.ifnonnull (8)) 1 L st g) := am_E_x (by decide +kernel : am_dc 249 1 = some (.ifnonnull (8)))
theorem x_249_4   : am_E d 249 Q (4, L, st, g) ↔ am_K d 249 Q (am_ldA 5 L st g 0) := am_E_aload_n (by decide +kernel : am_dc 249 4 = some (.aload_n 0)) rfl rfl
theorem x_249_5  : am_E d 249 Q (5, L, st, g) ↔ am_K d 249 Q (am_S 249 (.invokevirtual 204) 5 L st g) := am_E_x (by decide +kernel : am_dc 249 5 = some (.invokevirtual 204))
theorem x_249_8  : am_E d 249 Q (8, L, [.ref a], g) ↔ if am_ok ((FieldType.object "java/lang/AbstractStringBuilder")) (.ref a) = true then Q (.inl (some (.ref a))) g else False := am_E_areturn (by decide +kernel : am_dc 249 8 = some (.areturn)) (by decide +kernel)
theorem x_249_9   : am_E d 249 Q (9, L, st, g) ↔ am_K d 249 Q (am_ldA 10 L st g 1) := am_E_aload_n (by decide +kernel : am_dc 249 9 = some (.aload_n 1)) rfl rfl
theorem x_249_10  : am_E d 249 Q (10, L, st, g) ↔ am_K d 249 Q (am_S 249 (.invokevirtual 32) 10 L st g) := am_E_x (by decide +kernel : am_dc 249 10 = some (.invokevirtual 32))
theorem x_249_13   : am_E d 249 Q (13, L, st, g) ↔ am_K d 249 Q (am_stI 14 L st g 2) := am_E_istore_n (by decide +kernel : am_dc 249 13 = some (.istore_n 2)) rfl rfl
theorem x_249_14   : am_E d 249 Q (14, L, st, g) ↔ am_K d 249 Q (am_ldA 15 L st g 0) := am_E_aload_n (by decide +kernel : am_dc 249 14 = some (.aload_n 0)) rfl rfl
theorem x_249_15   : am_E d 249 Q (15, L, st, g) ↔ am_K d 249 Q (am_ldA 16 L st g 0) := am_E_aload_n (by decide +kernel : am_dc 249 15 = some (.aload_n 0)) rfl rfl
theorem x_249_16   : am_E d 249 Q (16, L, .ref a :: st, g) ↔ am_kv d 249 Q 19 L st g (am_gf g a 12 3) := am_E_getfield (by decide +kernel : am_dc 249 16 = some (.getfield 79)) (by decide +kernel) rfl
theorem x_249_19   : am_E d 249 Q (19, L, st, g) ↔ am_K d 249 Q (am_ldI 20 L st g 2) := am_E_iload_n (by decide +kernel : am_dc 249 19 = some (.iload_n 2)) rfl rfl
theorem x_249_20   : am_E d 249 Q (20, L, .int y :: .int x :: st, g) ↔ am_E d 249 Q (21, L, .int (x + y) :: st, g) := am_E_iadd (by decide +kernel : am_dc 249 20 = some (.iadd)) rfl
theorem x_249_21  : am_E d 249 Q (21, L, st, g) ↔ am_K d 249 Q (am_S 249 (.invokevirtual 100) 21 L st g) := am_E_x (by decide +kernel : am_dc 249 21 = some (.invokevirtual 100))
theorem x_249_24   : am_E d 249 Q (24, L, st, g) ↔ am_K d 249 Q (am_ldA 25 L st g 0) := am_E_aload_n (by decide +kernel : am_dc 249 24 = some (.aload_n 0)) rfl rfl
theorem x_249_25   : am_E d 249 Q (25, L, st, g) ↔ am_K d 249 Q (am_ldA 26 L st g 0) := am_E_aload_n (by decide +kernel : am_dc 249 25 = some (.aload_n 0)) rfl rfl
theorem x_249_26   : am_E d 249 Q (26, L, .ref a :: st, g) ↔ am_kv d 249 Q 29 L st g (am_gf g a 12 3) := am_E_getfield (by decide +kernel : am_dc 249 26 = some (.getfield 79)) (by decide +kernel) rfl
theorem x_249_29   : am_E d 249 Q (29, L, st, g) ↔ am_K d 249 Q (am_ldA 30 L st g 1) := am_E_aload_n (by decide +kernel : am_dc 249 29 = some (.aload_n 1)) rfl rfl
theorem x_249_30  : am_E d 249 Q (30, L, st, g) ↔ am_K d 249 Q (am_S 249 (.invokevirtual 208) 30 L st g) := am_E_x (by decide +kernel : am_dc 249 30 = some (.invokevirtual 208))
theorem x_249_33   : am_E d 249 Q (33, L, st, g) ↔ am_K d 249 Q (am_ldA 34 L st g 0) := am_E_aload_n (by decide +kernel : am_dc 249 33 = some (.aload_n 0)) rfl rfl
theorem x_249_34   : am_E d 249 Q (34, L, v :: st, g) ↔ if v.category = 1 then am_E d 249 Q (35, L, v :: v :: st, g) else False := am_E_dup (by decide +kernel : am_dc 249 34 = some (.dup)) rfl
theorem x_249_35   : am_E d 249 Q (35, L, .ref a :: st, g) ↔ am_kv d 249 Q 38 L st g (am_gf g a 12 3) := am_E_getfield (by decide +kernel : am_dc 249 35 = some (.getfield 79)) (by decide +kernel) rfl
theorem x_249_38   : am_E d 249 Q (38, L, st, g) ↔ am_K d 249 Q (am_ldI 39 L st g 2) := am_E_iload_n (by decide +kernel : am_dc 249 38 = some (.iload_n 2)) rfl rfl
theorem x_249_39   : am_E d 249 Q (39, L, .int y :: .int x :: st, g) ↔ am_E d 249 Q (40, L, .int (x + y) :: st, g) := am_E_iadd (by decide +kernel : am_dc 249 39 = some (.iadd)) rfl
theorem x_249_40   (hok : (am_ok (am_ft 12 3).1 v && (!(am_ft 12 3).2 || (am_ini 249 && am_co 12 == am_o 249)) && decide (12 < 13)) = true) : am_E d 249 Q (40, L, v :: .ref a :: st, g) ↔ am_kg d 249 Q 43 L st (am_pf g a 12 3 v) := am_E_putfield (by decide +kernel : am_dc 249 40 = some (.putfield 79)) (by decide +kernel) rfl hok
theorem x_249_43   : am_E d 249 Q (43, L, st, g) ↔ am_K d 249 Q (am_ldA 44 L st g 0) := am_E_aload_n (by decide +kernel : am_dc 249 43 = some (.aload_n 0)) rfl rfl
theorem x_249_44  : am_E d 249 Q (44, L, [.ref a], g) ↔ if am_ok ((FieldType.object "java/lang/AbstractStringBuilder")) (.ref a) = true then Q (.inl (some (.ref a))) g else False := am_E_areturn (by decide +kernel : am_dc 249 44 = some (.areturn)) (by decide +kernel)
theorem v_249_204 : am_iv 249 204 = some (7, 250, 1) := by decide +kernel
theorem v_249_32 : am_iv 249 32 = some (1, 280, 1) := by decide +kernel
theorem f_249_79 : am_fl 249 79 = some (12, 3) := by decide +kernel
theorem v_249_100 : am_iv 249 100 = some (7, 252, 2) := by decide +kernel
theorem v_249_208 : am_iv 249 208 = some (7, 258, 3) := by decide +kernel
theorem t_249 : am_t 249 = some ((FieldType.object "java/lang/AbstractStringBuilder")) := by decide +kernel
theorem h_249 : am_h 249 = [] := by decide +kernel
theorem m_249 : am_m 249 = 3 := by decide +kernel
theorem x_251_0   : am_E d 251 Q (0, L, st, g) ↔ am_K d 251 Q (am_ldA 1 L st g 0) := am_E_aload_n (by decide +kernel : am_dc 251 0 = some (.aload_n 0)) rfl rfl
theorem x_251_1   : am_E d 251 Q (1, L, .ref a :: st, g) ↔ am_kv d 251 Q 4 L st g (am_gf g a 12 1) := am_E_getfield (by decide +kernel : am_dc 251 1 = some (.getfield 22)) (by decide +kernel) rfl
theorem x_251_4   : am_E d 251 Q (4, L, st, g) ↔ am_K d 251 Q (am_stI 5 L st g 2) := am_E_istore_n (by decide +kernel : am_dc 251 4 = some (.istore_n 2)) rfl rfl
theorem x_251_5   : am_E d 251 Q (5, L, st, g) ↔ am_K d 251 Q (am_ldA 6 L st g 0) := am_E_aload_n (by decide +kernel : am_dc 251 5 = some (.aload_n 0)) rfl rfl
theorem x_251_6   : am_E d 251 Q (6, L, .ref a :: st, g) ↔ am_kv d 251 Q 9 L st g (am_gf g a 12 0) := am_E_getfield (by decide +kernel : am_dc 251 6 = some (.getfield 15)) (by decide +kernel) rfl
theorem x_251_9   : am_E d 251 Q (9, L, st, g) ↔ am_K d 251 Q (am_stA 10 L st g 3) := am_E_astore_n (by decide +kernel : am_dc 251 9 = some (.astore_n 3)) rfl rfl
theorem x_251_10   : am_E d 251 Q (10, L, st, g) ↔ am_K d 251 Q (am_ldA 11 L st g 0) := am_E_aload_n (by decide +kernel : am_dc 251 10 = some (.aload_n 0)) rfl rfl
theorem x_251_11   : am_E d 251 Q (11, L, .ref a :: st, g) ↔ am_kv d 251 Q 14 L st g (am_gf g a 12 3) := am_E_getfield (by decide +kernel : am_dc 251 11 = some (.getfield 79)) (by decide +kernel) rfl
theorem x_251_14   : am_E d 251 Q (14, L, st, g) ↔ am_K d 251 Q (am_ldA 15 L st g 3) := am_E_aload_n (by decide +kernel : am_dc 251 14 = some (.aload_n 3)) rfl rfl
theorem x_251_15   : am_E d 251 Q (15, L, .ref a :: st, g) ↔ am_kv d 251 Q 16 L st g ((am_sz g a).map fun n => .int (Int32.ofNat n)) := am_E_alen (by decide +kernel : am_dc 251 15 = some (.arraylength)) rfl
theorem x_251_16   : am_E d 251 Q (16, L, st, g) ↔ am_K d 251 Q (am_ldI 17 L st g 2) := am_E_iload_n (by decide +kernel : am_dc 251 16 = some (.iload_n 2)) rfl rfl
theorem x_251_17   : am_E d 251 Q (17, L, .int y :: .int x :: st, g) ↔ am_E d 251 Q (18, L, .int (x >>> (y &&& 31)) :: st, g) := am_E_ishr (by decide +kernel : am_dc 251 17 = some (.ishr)) rfl
theorem x_251_18  : am_E d 251 Q (18, L, st, g) ↔ am_K d 251 Q (am_S 251 (.invokestatic 138) 18 L st g) := am_E_x (by decide +kernel : am_dc 251 18 = some (.invokestatic 138))
theorem x_251_21   : am_E d 251 Q (21, L, st, g) ↔ am_K d 251 Q (am_stI 23 L st g 4) := am_E_istore (by decide +kernel : am_dc 251 21 = some (.istore 4)) rfl
theorem x_251_23   : am_E d 251 Q (23, L, st, g) ↔ am_K d 251 Q (am_ldI 24 L st g 1) := am_E_iload_n (by decide +kernel : am_dc 251 23 = some (.iload_n 1)) rfl rfl
theorem x_251_24   : am_E d 251 Q (24, L, st, g) ↔ am_K d 251 Q (am_ldI 26 L st g 4) := am_E_iload (by decide +kernel : am_dc 251 24 = some (.iload 4)) rfl
theorem x_251_26  : am_E d 251 Q (26, L, st, g) ↔ am_K d 251 Q (am_S 251 (.invokestatic 144) 26 L st g) := am_E_x (by decide +kernel : am_dc 251 26 = some (.invokestatic 144))
theorem x_251_29   : am_E d 251 Q (29, L, st, g) ↔ am_K d 251 Q (am_ldI 30 L st g 2) := am_E_iload_n (by decide +kernel : am_dc 251 29 = some (.iload_n 2)) rfl rfl
theorem x_251_30   : am_E d 251 Q (30, L, .int x :: st, g) ↔ am_E d 251 Q (am_cmp .ne x 0 42 33, L, st, g) := am_E_if (by decide +kernel : am_dc 251 30 = some (.ifCond .ne (12))) rfl rfl
theorem x_251_33   : am_E d 251 Q (33, L, st, g) ↔ am_K d 251 Q (am_ldA 34 L st g 3) := am_E_aload_n (by decide +kernel : am_dc 251 33 = some (.aload_n 3)) rfl rfl
theorem x_251_34   : am_E d 251 Q (34, L, st, g) ↔ am_K d 251 Q (am_ldI 35 L st g 1) := am_E_iload_n (by decide +kernel : am_dc 251 34 = some (.iload_n 1)) rfl rfl
theorem x_251_35   : am_E d 251 Q (35, L, .int x :: .ref a :: st, g) ↔ am_kv d 251 Q 36 L st g (am_iat .baload g a x) := am_E_baload (by decide +kernel : am_dc 251 35 = some (.baload)) rfl
theorem x_251_36   : am_E d 251 Q (36, L, st, g) ↔ am_E d 251 Q (39, L, .int (255) :: st, g) := am_E_sipush (by decide +kernel : am_dc 251 36 = some (.sipush (255))) (by decide) rfl
theorem x_251_39   : am_E d 251 Q (39, L, .int y :: .int x :: st, g) ↔ am_E d 251 Q (40, L, .int (x &&& y) :: st, g) := am_E_iand (by decide +kernel : am_dc 251 39 = some (.iand)) rfl
theorem x_251_40   : am_E d 251 Q (40, L, .int x :: st, g) ↔ am_E d 251 Q (41, L, .int (x.toUInt32 % 65536).toInt32 :: st, g) := am_E_i2c (by decide +kernel : am_dc 251 40 = some (.i2c)) rfl
theorem x_251_41  : am_E d 251 Q (41, L, [.int x], g) ↔ if am_ok (FieldType.char) (.int x) = true then Q (.inl (some (.int x))) g else False := am_E_ireturn (by decide +kernel : am_dc 251 41 = some (.ireturn)) (by decide +kernel)
theorem x_251_42   : am_E d 251 Q (42, L, st, g) ↔ am_K d 251 Q (am_ldA 43 L st g 3) := am_E_aload_n (by decide +kernel : am_dc 251 42 = some (.aload_n 3)) rfl rfl
theorem x_251_43   : am_E d 251 Q (43, L, st, g) ↔ am_K d 251 Q (am_ldI 44 L st g 1) := am_E_iload_n (by decide +kernel : am_dc 251 43 = some (.iload_n 1)) rfl rfl
theorem x_251_44  : am_E d 251 Q (44, L, st, g) ↔ am_K d 251 Q (am_S 251 (.invokestatic 148) 44 L st g) := am_E_x (by decide +kernel : am_dc 251 44 = some (.invokestatic 148))
theorem x_251_47  : am_E d 251 Q (47, L, [.int x], g) ↔ if am_ok (FieldType.char) (.int x) = true then Q (.inl (some (.int x))) g else False := am_E_ireturn (by decide +kernel : am_dc 251 47 = some (.ireturn)) (by decide +kernel)
theorem f_251_22 : am_fl 251 22 = some (12, 1) := by decide +kernel
theorem f_251_15 : am_fl 251 15 = some (12, 0) := by decide +kernel
theorem f_251_79 : am_fl 251 79 = some (12, 3) := by decide +kernel
theorem v_251_138 : am_iv 251 138 = some (0, 269, 2) := by decide +kernel
theorem v_251_144 : am_iv 251 144 = some (0, 274, 2) := by decide +kernel
theorem v_251_148 : am_iv 251 148 = some (0, 295, 2) := by decide +kernel
theorem t_251 : am_t 251 = some (FieldType.char) := by decide +kernel
theorem h_251 : am_h 251 = [] := by decide +kernel
theorem m_251 : am_m 251 = 5 := by decide +kernel
theorem x_252_0   : am_E d 252 Q (0, L, st, g) ↔ am_K d 252 Q (am_ldA 1 L st g 0) := am_E_aload_n (by decide +kernel : am_dc 252 0 = some (.aload_n 0)) rfl rfl
theorem x_252_1   : am_E d 252 Q (1, L, .ref a :: st, g) ↔ am_kv d 252 Q 4 L st g (am_gf g a 12 0) := am_E_getfield (by decide +kernel : am_dc 252 1 = some (.getfield 15)) (by decide +kernel) rfl
theorem x_252_4   : am_E d 252 Q (4, L, .ref a :: st, g) ↔ am_kv d 252 Q 5 L st g ((am_sz g a).map fun n => .int (Int32.ofNat n)) := am_E_alen (by decide +kernel : am_dc 252 4 = some (.arraylength)) rfl
theorem x_252_5   : am_E d 252 Q (5, L, st, g) ↔ am_K d 252 Q (am_ldA 6 L st g 0) := am_E_aload_n (by decide +kernel : am_dc 252 5 = some (.aload_n 0)) rfl rfl
theorem x_252_6   : am_E d 252 Q (6, L, .ref a :: st, g) ↔ am_kv d 252 Q 9 L st g (am_gf g a 12 1) := am_E_getfield (by decide +kernel : am_dc 252 6 = some (.getfield 22)) (by decide +kernel) rfl
theorem x_252_9   : am_E d 252 Q (9, L, .int y :: .int x :: st, g) ↔ am_E d 252 Q (10, L, .int (x >>> (y &&& 31)) :: st, g) := am_E_ishr (by decide +kernel : am_dc 252 9 = some (.ishr)) rfl
theorem x_252_10   : am_E d 252 Q (10, L, st, g) ↔ am_K d 252 Q (am_stI 11 L st g 2) := am_E_istore_n (by decide +kernel : am_dc 252 10 = some (.istore_n 2)) rfl rfl
theorem x_252_11   : am_E d 252 Q (11, L, st, g) ↔ am_K d 252 Q (am_ldI 12 L st g 1) := am_E_iload_n (by decide +kernel : am_dc 252 11 = some (.iload_n 1)) rfl rfl
theorem x_252_12   : am_E d 252 Q (12, L, st, g) ↔ am_K d 252 Q (am_ldI 13 L st g 2) := am_E_iload_n (by decide +kernel : am_dc 252 12 = some (.iload_n 2)) rfl rfl
theorem x_252_13   : am_E d 252 Q (13, L, .int y :: .int x :: st, g) ↔ am_E d 252 Q (14, L, .int (x - y) :: st, g) := am_E_isub (by decide +kernel : am_dc 252 13 = some (.isub)) rfl
theorem x_252_14   : am_E d 252 Q (14, L, .int x :: st, g) ↔ am_E d 252 Q (am_cmp .le x 0 38 17, L, st, g) := am_E_if (by decide +kernel : am_dc 252 14 = some (.ifCond .le (24))) rfl rfl
theorem x_252_17   : am_E d 252 Q (17, L, st, g) ↔ am_K d 252 Q (am_ldA 18 L st g 0) := am_E_aload_n (by decide +kernel : am_dc 252 17 = some (.aload_n 0)) rfl rfl
theorem x_252_18   : am_E d 252 Q (18, L, st, g) ↔ am_K d 252 Q (am_ldA 19 L st g 0) := am_E_aload_n (by decide +kernel : am_dc 252 18 = some (.aload_n 0)) rfl rfl
theorem x_252_19   : am_E d 252 Q (19, L, .ref a :: st, g) ↔ am_kv d 252 Q 22 L st g (am_gf g a 12 0) := am_E_getfield (by decide +kernel : am_dc 252 19 = some (.getfield 15)) (by decide +kernel) rfl
theorem x_252_22   : am_E d 252 Q (22, L, st, g) ↔ am_K d 252 Q (am_ldA 23 L st g 0) := am_E_aload_n (by decide +kernel : am_dc 252 22 = some (.aload_n 0)) rfl rfl
theorem x_252_23   : am_E d 252 Q (23, L, st, g) ↔ am_K d 252 Q (am_ldI 24 L st g 1) := am_E_iload_n (by decide +kernel : am_dc 252 23 = some (.iload_n 1)) rfl rfl
theorem x_252_24  : am_E d 252 Q (24, L, st, g) ↔ am_K d 252 Q (am_S 252 (.invokevirtual 104) 24 L st g) := am_E_x (by decide +kernel : am_dc 252 24 = some (.invokevirtual 104))
theorem x_252_27   : am_E d 252 Q (27, L, st, g) ↔ am_K d 252 Q (am_ldA 28 L st g 0) := am_E_aload_n (by decide +kernel : am_dc 252 27 = some (.aload_n 0)) rfl rfl
theorem x_252_28   : am_E d 252 Q (28, L, .ref a :: st, g) ↔ am_kv d 252 Q 31 L st g (am_gf g a 12 1) := am_E_getfield (by decide +kernel : am_dc 252 28 = some (.getfield 22)) (by decide +kernel) rfl
theorem x_252_31   : am_E d 252 Q (31, L, .int y :: .int x :: st, g) ↔ am_E d 252 Q (32, L, .int (x <<< (y &&& 31)) :: st, g) := am_E_ishl (by decide +kernel : am_dc 252 31 = some (.ishl)) rfl
theorem x_252_32  : am_E d 252 Q (32, L, st, g) ↔ am_K d 252 Q (am_S 252 (.invokestatic 108) 32 L st g) := am_E_x (by decide +kernel : am_dc 252 32 = some (.invokestatic 108))
theorem x_252_35   (hok : (am_ok (am_ft 12 0).1 v && (!(am_ft 12 0).2 || (am_ini 252 && am_co 12 == am_o 252)) && decide (12 < 13)) = true) : am_E d 252 Q (35, L, v :: .ref a :: st, g) ↔ am_kg d 252 Q 38 L st (am_pf g a 12 0 v) := am_E_putfield (by decide +kernel : am_dc 252 35 = some (.putfield 15)) (by decide +kernel) rfl hok
theorem x_252_38  : am_E d 252 Q (38, L, [], g) ↔ Q (.inl none) g := am_E_return (by decide +kernel : am_dc 252 38 = some (.return_)) (by decide +kernel)
theorem f_252_15 : am_fl 252 15 = some (12, 0) := by decide +kernel
theorem f_252_22 : am_fl 252 22 = some (12, 1) := by decide +kernel
theorem v_252_104 : am_iv 252 104 = some (7, 257, 2) := by decide +kernel
theorem v_252_108 : am_iv 252 108 = some (0, 310, 2) := by decide +kernel
theorem t_252 : am_t 252 = none := by decide +kernel
theorem h_252 : am_h 252 = [] := by decide +kernel
theorem m_252 : am_m 252 = 3 := by decide +kernel
theorem x_255_0  : am_E d 255 Q (0, L, st, g) ↔ am_K d 255 Q (am_S 255 (.getstatic 18) 0 L st g) := am_E_x (by decide +kernel : am_dc 255 0 = some (.getstatic 18))
theorem x_255_3   : am_E d 255 Q (3, L, .int x :: st, g) ↔ am_E d 255 Q (am_cmp .eq x 0 17 6, L, st, g) := am_E_if (by decide +kernel : am_dc 255 3 = some (.ifCond .eq (14))) rfl rfl
theorem x_255_6   : am_E d 255 Q (6, L, st, g) ↔ am_K d 255 Q (am_ldA 7 L st g 0) := am_E_aload_n (by decide +kernel : am_dc 255 6 = some (.aload_n 0)) rfl rfl
theorem x_255_7   : am_E d 255 Q (7, L, .ref a :: st, g) ↔ am_kv d 255 Q 10 L st g (am_gf g a 12 1) := am_E_getfield (by decide +kernel : am_dc 255 7 = some (.getfield 22)) (by decide +kernel) rfl
theorem x_255_10   : am_E d 255 Q (10, L, .int x :: st, g) ↔ am_E d 255 Q (am_cmp .ne x 0 17 13, L, st, g) := am_E_if (by decide +kernel : am_dc 255 10 = some (.ifCond .ne (7))) rfl rfl
theorem x_255_13   : am_E d 255 Q (13, L, st, g) ↔ am_E d 255 Q (14, L, .int (1) :: st, g) := am_E_iconst (by decide +kernel : am_dc 255 13 = some (.iconst (1))) (by decide) rfl
theorem x_255_14   : am_E d 255 Q (14, L, st, g) ↔ am_E d 255 Q (18, L, st, g) := am_E_gt (by decide +kernel : am_dc 255 14 = some (.goto (4))) rfl rfl
theorem x_255_17   : am_E d 255 Q (17, L, st, g) ↔ am_E d 255 Q (18, L, .int (0) :: st, g) := am_E_iconst (by decide +kernel : am_dc 255 17 = some (.iconst (0))) (by decide) rfl
theorem x_255_18  : am_E d 255 Q (18, L, [.int x], g) ↔ if am_ok (FieldType.boolean) (.int x) = true then Q (.inl (some (.int x))) g else False := am_E_ireturn (by decide +kernel : am_dc 255 18 = some (.ireturn)) (by decide +kernel)
theorem s_255_18 : am_gs 255 18 = some 101 := by decide +kernel
theorem f_255_22 : am_fl 255 22 = some (12, 1) := by decide +kernel
theorem t_255 : am_t 255 = some (FieldType.boolean) := by decide +kernel
theorem h_255 : am_h 255 = [] := by decide +kernel
theorem m_255 : am_m 255 = 1 := by decide +kernel
theorem x_256_0   : am_E d 256 Q (0, L, st, g) ↔ am_K d 256 Q (am_ldA 1 L st g 0) := am_E_aload_n (by decide +kernel : am_dc 256 0 = some (.aload_n 0)) rfl rfl
theorem x_256_1   : am_E d 256 Q (1, L, .ref a :: st, g) ↔ am_kv d 256 Q 4 L st g (am_gf g a 12 3) := am_E_getfield (by decide +kernel : am_dc 256 1 = some (.getfield 79)) (by decide +kernel) rfl
theorem x_256_4  : am_E d 256 Q (4, L, [.int x], g) ↔ if am_ok (FieldType.int) (.int x) = true then Q (.inl (some (.int x))) g else False := am_E_ireturn (by decide +kernel : am_dc 256 4 = some (.ireturn)) (by decide +kernel)
theorem f_256_79 : am_fl 256 79 = some (12, 3) := by decide +kernel
theorem t_256 : am_t 256 = some (FieldType.int) := by decide +kernel
theorem h_256 : am_h 256 = [] := by decide +kernel
theorem m_256 : am_m 256 = 1 := by decide +kernel
theorem x_258_0   : am_E d 258 Q (0, L, st, g) ↔ am_K d 258 Q (am_ldA 1 L st g 0) := am_E_aload_n (by decide +kernel : am_dc 258 0 = some (.aload_n 0)) rfl rfl
theorem x_258_1   : am_E d 258 Q (1, L, st, g) ↔ am_K d 258 Q (am_ldA 2 L st g 2) := am_E_aload_n (by decide +kernel : am_dc 258 1 = some (.aload_n 2)) rfl rfl
theorem x_258_2  : am_E d 258 Q (2, L, st, g) ↔ am_K d 258 Q (am_S 258 (.invokevirtual 397) 2 L st g) := am_E_x (by decide +kernel : am_dc 258 2 = some (.invokevirtual 397))
theorem x_258_5   : am_E d 258 Q (5, L, st, g) ↔ am_K d 258 Q (am_ldA 6 L st g 2) := am_E_aload_n (by decide +kernel : am_dc 258 5 = some (.aload_n 2)) rfl rfl
theorem x_258_6   : am_E d 258 Q (6, L, st, g) ↔ am_K d 258 Q (am_ldA 7 L st g 0) := am_E_aload_n (by decide +kernel : am_dc 258 6 = some (.aload_n 0)) rfl rfl
theorem x_258_7   : am_E d 258 Q (7, L, .ref a :: st, g) ↔ am_kv d 258 Q 10 L st g (am_gf g a 12 0) := am_E_getfield (by decide +kernel : am_dc 258 7 = some (.getfield 15)) (by decide +kernel) rfl
theorem x_258_10   : am_E d 258 Q (10, L, st, g) ↔ am_K d 258 Q (am_ldI 11 L st g 1) := am_E_iload_n (by decide +kernel : am_dc 258 10 = some (.iload_n 1)) rfl rfl
theorem x_258_11   : am_E d 258 Q (11, L, st, g) ↔ am_K d 258 Q (am_ldA 12 L st g 0) := am_E_aload_n (by decide +kernel : am_dc 258 11 = some (.aload_n 0)) rfl rfl
theorem x_258_12   : am_E d 258 Q (12, L, .ref a :: st, g) ↔ am_kv d 258 Q 15 L st g (am_gf g a 12 1) := am_E_getfield (by decide +kernel : am_dc 258 12 = some (.getfield 22)) (by decide +kernel) rfl
theorem x_258_15  : am_E d 258 Q (15, L, st, g) ↔ am_K d 258 Q (am_S 258 (.invokevirtual 399) 15 L st g) := am_E_x (by decide +kernel : am_dc 258 15 = some (.invokevirtual 399))
theorem x_258_18  : am_E d 258 Q (18, L, [], g) ↔ Q (.inl none) g := am_E_return (by decide +kernel : am_dc 258 18 = some (.return_)) (by decide +kernel)
theorem v_258_397 : am_iv 258 397 = some (7, 254, 2) := by decide +kernel
theorem f_258_15 : am_fl 258 15 = some (12, 0) := by decide +kernel
theorem f_258_22 : am_fl 258 22 = some (12, 1) := by decide +kernel
theorem v_258_399 : am_iv 258 399 = some (1, 276, 4) := by decide +kernel
theorem t_258 : am_t 258 = none := by decide +kernel
theorem h_258 : am_h 258 = [] := by decide +kernel
theorem m_258 : am_m 258 = 3 := by decide +kernel
theorem x_265_0   : am_E d 265 Q (0, L, st, g) ↔ am_K d 265 Q (am_ldI 1 L st g 1) := am_E_iload_n (by decide +kernel : am_dc 265 0 = some (.iload_n 1)) rfl rfl
theorem x_265_1   : am_E d 265 Q (1, L, st, g) ↔ am_K d 265 Q (am_stI 3 L st g 5) := am_E_istore (by decide +kernel : am_dc 265 1 = some (.istore 5)) rfl
theorem x_265_3   : am_E d 265 Q (3, L, st, g) ↔ am_K d 265 Q (am_ldI 4 L st g 0) := am_E_iload_n (by decide +kernel : am_dc 265 3 = some (.iload_n 0)) rfl rfl
theorem x_265_4   : am_E d 265 Q (4, L, .int x :: st, g) ↔ am_E d 265 Q (am_cmp .ge x 0 11 7, L, st, g) := am_E_if (by decide +kernel : am_dc 265 4 = some (.ifCond .ge (7))) rfl rfl
theorem x_265_7   : am_E d 265 Q (7, L, st, g) ↔ am_E d 265 Q (8, L, .int (1) :: st, g) := am_E_iconst (by decide +kernel : am_dc 265 7 = some (.iconst (1))) (by decide) rfl
theorem x_265_8   : am_E d 265 Q (8, L, st, g) ↔ am_E d 265 Q (12, L, st, g) := am_E_gt (by decide +kernel : am_dc 265 8 = some (.goto (4))) rfl rfl
theorem x_265_11   : am_E d 265 Q (11, L, st, g) ↔ am_E d 265 Q (12, L, .int (0) :: st, g) := am_E_iconst (by decide +kernel : am_dc 265 11 = some (.iconst (0))) (by decide) rfl
theorem x_265_12   : am_E d 265 Q (12, L, st, g) ↔ am_K d 265 Q (am_stI 14 L st g 6) := am_E_istore (by decide +kernel : am_dc 265 12 = some (.istore 6)) rfl
theorem x_265_14   : am_E d 265 Q (14, L, st, g) ↔ am_K d 265 Q (am_ldI 16 L st g 6) := am_E_iload (by decide +kernel : am_dc 265 14 = some (.iload 6)) rfl
theorem x_265_16   : am_E d 265 Q (16, L, .int x :: st, g) ↔ am_E d 265 Q (am_cmp .ne x 0 22 19, L, st, g) := am_E_if (by decide +kernel : am_dc 265 16 = some (.ifCond .ne (6))) rfl rfl
theorem x_265_19   : am_E d 265 Q (19, L, st, g) ↔ am_K d 265 Q (am_ldI 20 L st g 0) := am_E_iload_n (by decide +kernel : am_dc 265 19 = some (.iload_n 0)) rfl rfl
theorem x_265_20   : am_E d 265 Q (20, L, .int x :: st, g) ↔ am_E d 265 Q (21, L, .int (-x) :: st, g) := am_E_ineg (by decide +kernel : am_dc 265 20 = some (.ineg)) rfl
theorem x_265_21   : am_E d 265 Q (21, L, st, g) ↔ am_K d 265 Q (am_stI 22 L st g 0) := am_E_istore_n (by decide +kernel : am_dc 265 21 = some (.istore_n 0)) rfl rfl
theorem x_265_22   : am_E d 265 Q (22, L, st, g) ↔ am_K d 265 Q (am_ldI 23 L st g 0) := am_E_iload_n (by decide +kernel : am_dc 265 22 = some (.iload_n 0)) rfl rfl
theorem x_265_23   : am_E d 265 Q (23, L, st, g) ↔ am_E d 265 Q (25, L, .int (-100) :: st, g) := am_E_bipush (by decide +kernel : am_dc 265 23 = some (.bipush (-100))) (by decide) rfl
theorem x_265_25   : am_E d 265 Q (25, L, .int y :: .int x :: st, g) ↔ am_E d 265 Q (am_cmp .gt x y 72 28, L, st, g) := am_E_ic (by decide +kernel : am_dc 265 25 = some (.if_icmp .gt (47))) rfl rfl
theorem x_265_28   : am_E d 265 Q (28, L, st, g) ↔ am_K d 265 Q (am_ldI 29 L st g 0) := am_E_iload_n (by decide +kernel : am_dc 265 28 = some (.iload_n 0)) rfl rfl
theorem x_265_29   : am_E d 265 Q (29, L, st, g) ↔ am_E d 265 Q (31, L, .int (100) :: st, g) := am_E_bipush (by decide +kernel : am_dc 265 29 = some (.bipush (100))) (by decide) rfl
theorem x_265_31   : am_E d 265 Q (31, L, .int y :: .int x :: st, g) ↔ if y = 0 then False else am_E d 265 Q (32, L, .int (x / y) :: st, g) := am_E_idiv (by decide +kernel : am_dc 265 31 = some (.idiv)) rfl
theorem x_265_32   : am_E d 265 Q (32, L, st, g) ↔ am_K d 265 Q (am_stI 33 L st g 3) := am_E_istore_n (by decide +kernel : am_dc 265 32 = some (.istore_n 3)) rfl rfl
theorem x_265_33   : am_E d 265 Q (33, L, st, g) ↔ am_K d 265 Q (am_ldI 34 L st g 3) := am_E_iload_n (by decide +kernel : am_dc 265 33 = some (.iload_n 3)) rfl rfl
theorem x_265_34   : am_E d 265 Q (34, L, st, g) ↔ am_E d 265 Q (36, L, .int (100) :: st, g) := am_E_bipush (by decide +kernel : am_dc 265 34 = some (.bipush (100))) (by decide) rfl
theorem x_265_36   : am_E d 265 Q (36, L, .int y :: .int x :: st, g) ↔ am_E d 265 Q (37, L, .int (x * y) :: st, g) := am_E_imul (by decide +kernel : am_dc 265 36 = some (.imul)) rfl
theorem x_265_37   : am_E d 265 Q (37, L, st, g) ↔ am_K d 265 Q (am_ldI 38 L st g 0) := am_E_iload_n (by decide +kernel : am_dc 265 37 = some (.iload_n 0)) rfl rfl
theorem x_265_38   : am_E d 265 Q (38, L, .int y :: .int x :: st, g) ↔ am_E d 265 Q (39, L, .int (x - y) :: st, g) := am_E_isub (by decide +kernel : am_dc 265 38 = some (.isub)) rfl
theorem x_265_39   : am_E d 265 Q (39, L, st, g) ↔ am_K d 265 Q (am_stI 41 L st g 4) := am_E_istore (by decide +kernel : am_dc 265 39 = some (.istore 4)) rfl
theorem x_265_41   : am_E d 265 Q (41, L, st, g) ↔ am_K d 265 Q (am_ldI 42 L st g 3) := am_E_iload_n (by decide +kernel : am_dc 265 41 = some (.iload_n 3)) rfl rfl
theorem x_265_42   : am_E d 265 Q (42, L, st, g) ↔ am_K d 265 Q (am_stI 43 L st g 0) := am_E_istore_n (by decide +kernel : am_dc 265 42 = some (.istore_n 0)) rfl rfl
theorem x_265_43   : am_E d 265 Q (43, L, st, g) ↔ am_K d 265 Q (am_ldA 44 L st g 2) := am_E_aload_n (by decide +kernel : am_dc 265 43 = some (.aload_n 2)) rfl rfl
theorem x_265_44   (hk : L.getD 5 none = some (.int x)) (hl : 5 < L.length) : am_E d 265 Q (44, L, st, g) ↔ am_E d 265 Q (47, am_s1 L 5 (.int (x + (-1))), st, g) := am_E_iinc (by decide +kernel : am_dc 265 44 = some (.iinc 5 (-1))) (by decide) rfl hk hl
theorem x_265_47   : am_E d 265 Q (47, L, st, g) ↔ am_K d 265 Q (am_ldI 49 L st g 5) := am_E_iload (by decide +kernel : am_dc 265 47 = some (.iload 5)) rfl
theorem x_265_49  : am_E d 265 Q (49, L, st, g) ↔ am_K d 265 Q (am_S 265 (.getstatic 83) 49 L st g) := am_E_x (by decide +kernel : am_dc 265 49 = some (.getstatic 83))
theorem x_265_52   : am_E d 265 Q (52, L, st, g) ↔ am_K d 265 Q (am_ldI 54 L st g 4) := am_E_iload (by decide +kernel : am_dc 265 52 = some (.iload 4)) rfl
theorem x_265_54   : am_E d 265 Q (54, L, .int x :: .ref a :: st, g) ↔ am_kv d 265 Q 55 L st g (am_iat .baload g a x) := am_E_baload (by decide +kernel : am_dc 265 54 = some (.baload)) rfl
theorem x_265_55   : am_E d 265 Q (55, L, v :: .int x :: .ref a :: st, g) ↔ am_kg d 265 Q 56 L st (am_sat .bastore g a x v) := am_E_bastore (by decide +kernel : am_dc 265 55 = some (.bastore)) rfl
theorem x_265_56   : am_E d 265 Q (56, L, st, g) ↔ am_K d 265 Q (am_ldA 57 L st g 2) := am_E_aload_n (by decide +kernel : am_dc 265 56 = some (.aload_n 2)) rfl rfl
theorem x_265_57   (hk : L.getD 5 none = some (.int x)) (hl : 5 < L.length) : am_E d 265 Q (57, L, st, g) ↔ am_E d 265 Q (60, am_s1 L 5 (.int (x + (-1))), st, g) := am_E_iinc (by decide +kernel : am_dc 265 57 = some (.iinc 5 (-1))) (by decide) rfl hk hl
theorem x_265_60   : am_E d 265 Q (60, L, st, g) ↔ am_K d 265 Q (am_ldI 62 L st g 5) := am_E_iload (by decide +kernel : am_dc 265 60 = some (.iload 5)) rfl
theorem x_265_62  : am_E d 265 Q (62, L, st, g) ↔ am_K d 265 Q (am_S 265 (.getstatic 87) 62 L st g) := am_E_x (by decide +kernel : am_dc 265 62 = some (.getstatic 87))
theorem x_265_65   : am_E d 265 Q (65, L, st, g) ↔ am_K d 265 Q (am_ldI 67 L st g 4) := am_E_iload (by decide +kernel : am_dc 265 65 = some (.iload 4)) rfl
theorem x_265_67   : am_E d 265 Q (67, L, .int x :: .ref a :: st, g) ↔ am_kv d 265 Q 68 L st g (am_iat .baload g a x) := am_E_baload (by decide +kernel : am_dc 265 67 = some (.baload)) rfl
theorem x_265_68   : am_E d 265 Q (68, L, v :: .int x :: .ref a :: st, g) ↔ am_kg d 265 Q 69 L st (am_sat .bastore g a x v) := am_E_bastore (by decide +kernel : am_dc 265 68 = some (.bastore)) rfl
theorem x_265_69   : am_E d 265 Q (69, L, st, g) ↔ am_E d 265 Q (22, L, st, g) := am_E_gt (by decide +kernel : am_dc 265 69 = some (.goto (-47))) rfl rfl
theorem x_265_72   : am_E d 265 Q (72, L, st, g) ↔ am_K d 265 Q (am_ldA 73 L st g 2) := am_E_aload_n (by decide +kernel : am_dc 265 72 = some (.aload_n 2)) rfl rfl
theorem x_265_73   (hk : L.getD 5 none = some (.int x)) (hl : 5 < L.length) : am_E d 265 Q (73, L, st, g) ↔ am_E d 265 Q (76, am_s1 L 5 (.int (x + (-1))), st, g) := am_E_iinc (by decide +kernel : am_dc 265 73 = some (.iinc 5 (-1))) (by decide) rfl hk hl
theorem x_265_76   : am_E d 265 Q (76, L, st, g) ↔ am_K d 265 Q (am_ldI 78 L st g 5) := am_E_iload (by decide +kernel : am_dc 265 76 = some (.iload 5)) rfl
theorem x_265_78  : am_E d 265 Q (78, L, st, g) ↔ am_K d 265 Q (am_S 265 (.getstatic 83) 78 L st g) := am_E_x (by decide +kernel : am_dc 265 78 = some (.getstatic 83))
theorem x_265_81   : am_E d 265 Q (81, L, st, g) ↔ am_K d 265 Q (am_ldI 82 L st g 0) := am_E_iload_n (by decide +kernel : am_dc 265 81 = some (.iload_n 0)) rfl rfl
theorem x_265_82   : am_E d 265 Q (82, L, .int x :: st, g) ↔ am_E d 265 Q (83, L, .int (-x) :: st, g) := am_E_ineg (by decide +kernel : am_dc 265 82 = some (.ineg)) rfl
theorem x_265_83   : am_E d 265 Q (83, L, .int x :: .ref a :: st, g) ↔ am_kv d 265 Q 84 L st g (am_iat .baload g a x) := am_E_baload (by decide +kernel : am_dc 265 83 = some (.baload)) rfl
theorem x_265_84   : am_E d 265 Q (84, L, v :: .int x :: .ref a :: st, g) ↔ am_kg d 265 Q 85 L st (am_sat .bastore g a x v) := am_E_bastore (by decide +kernel : am_dc 265 84 = some (.bastore)) rfl
theorem x_265_85   : am_E d 265 Q (85, L, st, g) ↔ am_K d 265 Q (am_ldI 86 L st g 0) := am_E_iload_n (by decide +kernel : am_dc 265 85 = some (.iload_n 0)) rfl rfl
theorem x_265_86   : am_E d 265 Q (86, L, st, g) ↔ am_E d 265 Q (88, L, .int (-9) :: st, g) := am_E_bipush (by decide +kernel : am_dc 265 86 = some (.bipush (-9))) (by decide) rfl
theorem x_265_88   : am_E d 265 Q (88, L, .int y :: .int x :: st, g) ↔ am_E d 265 Q (am_cmp .ge x y 104 91, L, st, g) := am_E_ic (by decide +kernel : am_dc 265 88 = some (.if_icmp .ge (16))) rfl rfl
theorem x_265_91   : am_E d 265 Q (91, L, st, g) ↔ am_K d 265 Q (am_ldA 92 L st g 2) := am_E_aload_n (by decide +kernel : am_dc 265 91 = some (.aload_n 2)) rfl rfl
theorem x_265_92   (hk : L.getD 5 none = some (.int x)) (hl : 5 < L.length) : am_E d 265 Q (92, L, st, g) ↔ am_E d 265 Q (95, am_s1 L 5 (.int (x + (-1))), st, g) := am_E_iinc (by decide +kernel : am_dc 265 92 = some (.iinc 5 (-1))) (by decide) rfl hk hl
theorem x_265_95   : am_E d 265 Q (95, L, st, g) ↔ am_K d 265 Q (am_ldI 97 L st g 5) := am_E_iload (by decide +kernel : am_dc 265 95 = some (.iload 5)) rfl
theorem x_265_97  : am_E d 265 Q (97, L, st, g) ↔ am_K d 265 Q (am_S 265 (.getstatic 87) 97 L st g) := am_E_x (by decide +kernel : am_dc 265 97 = some (.getstatic 87))
theorem x_265_100   : am_E d 265 Q (100, L, st, g) ↔ am_K d 265 Q (am_ldI 101 L st g 0) := am_E_iload_n (by decide +kernel : am_dc 265 100 = some (.iload_n 0)) rfl rfl
theorem x_265_101   : am_E d 265 Q (101, L, .int x :: st, g) ↔ am_E d 265 Q (102, L, .int (-x) :: st, g) := am_E_ineg (by decide +kernel : am_dc 265 101 = some (.ineg)) rfl
theorem x_265_102   : am_E d 265 Q (102, L, .int x :: .ref a :: st, g) ↔ am_kv d 265 Q 103 L st g (am_iat .baload g a x) := am_E_baload (by decide +kernel : am_dc 265 102 = some (.baload)) rfl
theorem x_265_103   : am_E d 265 Q (103, L, v :: .int x :: .ref a :: st, g) ↔ am_kg d 265 Q 104 L st (am_sat .bastore g a x v) := am_E_bastore (by decide +kernel : am_dc 265 103 = some (.bastore)) rfl
theorem x_265_104   : am_E d 265 Q (104, L, st, g) ↔ am_K d 265 Q (am_ldI 106 L st g 6) := am_E_iload (by decide +kernel : am_dc 265 104 = some (.iload 6)) rfl
theorem x_265_106   : am_E d 265 Q (106, L, .int x :: st, g) ↔ am_E d 265 Q (am_cmp .eq x 0 118 109, L, st, g) := am_E_if (by decide +kernel : am_dc 265 106 = some (.ifCond .eq (12))) rfl rfl
theorem x_265_109   : am_E d 265 Q (109, L, st, g) ↔ am_K d 265 Q (am_ldA 110 L st g 2) := am_E_aload_n (by decide +kernel : am_dc 265 109 = some (.aload_n 2)) rfl rfl
theorem x_265_110   (hk : L.getD 5 none = some (.int x)) (hl : 5 < L.length) : am_E d 265 Q (110, L, st, g) ↔ am_E d 265 Q (113, am_s1 L 5 (.int (x + (-1))), st, g) := am_E_iinc (by decide +kernel : am_dc 265 110 = some (.iinc 5 (-1))) (by decide) rfl hk hl
theorem x_265_113   : am_E d 265 Q (113, L, st, g) ↔ am_K d 265 Q (am_ldI 115 L st g 5) := am_E_iload (by decide +kernel : am_dc 265 113 = some (.iload 5)) rfl
theorem x_265_115   : am_E d 265 Q (115, L, st, g) ↔ am_E d 265 Q (117, L, .int (45) :: st, g) := am_E_bipush (by decide +kernel : am_dc 265 115 = some (.bipush (45))) (by decide) rfl
theorem x_265_117   : am_E d 265 Q (117, L, v :: .int x :: .ref a :: st, g) ↔ am_kg d 265 Q 118 L st (am_sat .bastore g a x v) := am_E_bastore (by decide +kernel : am_dc 265 117 = some (.bastore)) rfl
theorem x_265_118   : am_E d 265 Q (118, L, st, g) ↔ am_K d 265 Q (am_ldI 120 L st g 5) := am_E_iload (by decide +kernel : am_dc 265 118 = some (.iload 5)) rfl
theorem x_265_120  : am_E d 265 Q (120, L, [.int x], g) ↔ if am_ok (FieldType.int) (.int x) = true then Q (.inl (some (.int x))) g else False := am_E_ireturn (by decide +kernel : am_dc 265 120 = some (.ireturn)) (by decide +kernel)
theorem s_265_83 : am_gs 265 83 = some 19 := by decide +kernel
theorem s_265_87 : am_gs 265 87 = some 20 := by decide +kernel
theorem t_265 : am_t 265 = some (FieldType.int) := by decide +kernel
theorem h_265 : am_h 265 = [] := by decide +kernel
theorem m_265 : am_m 265 = 7 := by decide +kernel
theorem x_266_0   : am_E d 266 Q (0, L, st, g) ↔ am_E d 266 Q (1, L, .int (1) :: st, g) := am_E_iconst (by decide +kernel : am_dc 266 0 = some (.iconst (1))) (by decide) rfl
theorem x_266_1   : am_E d 266 Q (1, L, st, g) ↔ am_K d 266 Q (am_stI 2 L st g 1) := am_E_istore_n (by decide +kernel : am_dc 266 1 = some (.istore_n 1)) rfl rfl
theorem x_266_2   : am_E d 266 Q (2, L, st, g) ↔ am_K d 266 Q (am_ldI 3 L st g 0) := am_E_iload_n (by decide +kernel : am_dc 266 2 = some (.iload_n 0)) rfl rfl
theorem x_266_3   : am_E d 266 Q (3, L, .int x :: st, g) ↔ am_E d 266 Q (am_cmp .lt x 0 11 6, L, st, g) := am_E_if (by decide +kernel : am_dc 266 3 = some (.ifCond .lt (8))) rfl rfl
theorem x_266_6   : am_E d 266 Q (6, L, st, g) ↔ am_E d 266 Q (7, L, .int (0) :: st, g) := am_E_iconst (by decide +kernel : am_dc 266 6 = some (.iconst (0))) (by decide) rfl
theorem x_266_7   : am_E d 266 Q (7, L, st, g) ↔ am_K d 266 Q (am_stI 8 L st g 1) := am_E_istore_n (by decide +kernel : am_dc 266 7 = some (.istore_n 1)) rfl rfl
theorem x_266_8   : am_E d 266 Q (8, L, st, g) ↔ am_K d 266 Q (am_ldI 9 L st g 0) := am_E_iload_n (by decide +kernel : am_dc 266 8 = some (.iload_n 0)) rfl rfl
theorem x_266_9   : am_E d 266 Q (9, L, .int x :: st, g) ↔ am_E d 266 Q (10, L, .int (-x) :: st, g) := am_E_ineg (by decide +kernel : am_dc 266 9 = some (.ineg)) rfl
theorem x_266_10   : am_E d 266 Q (10, L, st, g) ↔ am_K d 266 Q (am_stI 11 L st g 0) := am_E_istore_n (by decide +kernel : am_dc 266 10 = some (.istore_n 0)) rfl rfl
theorem x_266_11   : am_E d 266 Q (11, L, st, g) ↔ am_E d 266 Q (13, L, .int (-10) :: st, g) := am_E_bipush (by decide +kernel : am_dc 266 11 = some (.bipush (-10))) (by decide) rfl
theorem x_266_13   : am_E d 266 Q (13, L, st, g) ↔ am_K d 266 Q (am_stI 14 L st g 2) := am_E_istore_n (by decide +kernel : am_dc 266 13 = some (.istore_n 2)) rfl rfl
theorem x_266_14   : am_E d 266 Q (14, L, st, g) ↔ am_E d 266 Q (15, L, .int (1) :: st, g) := am_E_iconst (by decide +kernel : am_dc 266 14 = some (.iconst (1))) (by decide) rfl
theorem x_266_15   : am_E d 266 Q (15, L, st, g) ↔ am_K d 266 Q (am_stI 16 L st g 3) := am_E_istore_n (by decide +kernel : am_dc 266 15 = some (.istore_n 3)) rfl rfl
theorem x_266_16   : am_E d 266 Q (16, L, st, g) ↔ am_K d 266 Q (am_ldI 17 L st g 3) := am_E_iload_n (by decide +kernel : am_dc 266 16 = some (.iload_n 3)) rfl rfl
theorem x_266_17   : am_E d 266 Q (17, L, st, g) ↔ am_E d 266 Q (19, L, .int (10) :: st, g) := am_E_bipush (by decide +kernel : am_dc 266 17 = some (.bipush (10))) (by decide) rfl
theorem x_266_19   : am_E d 266 Q (19, L, .int y :: .int x :: st, g) ↔ am_E d 266 Q (am_cmp .ge x y 42 22, L, st, g) := am_E_ic (by decide +kernel : am_dc 266 19 = some (.if_icmp .ge (23))) rfl rfl
theorem x_266_22   : am_E d 266 Q (22, L, st, g) ↔ am_K d 266 Q (am_ldI 23 L st g 0) := am_E_iload_n (by decide +kernel : am_dc 266 22 = some (.iload_n 0)) rfl rfl
theorem x_266_23   : am_E d 266 Q (23, L, st, g) ↔ am_K d 266 Q (am_ldI 24 L st g 2) := am_E_iload_n (by decide +kernel : am_dc 266 23 = some (.iload_n 2)) rfl rfl
theorem x_266_24   : am_E d 266 Q (24, L, .int y :: .int x :: st, g) ↔ am_E d 266 Q (am_cmp .le x y 31 27, L, st, g) := am_E_ic (by decide +kernel : am_dc 266 24 = some (.if_icmp .le (7))) rfl rfl
theorem x_266_27   : am_E d 266 Q (27, L, st, g) ↔ am_K d 266 Q (am_ldI 28 L st g 3) := am_E_iload_n (by decide +kernel : am_dc 266 27 = some (.iload_n 3)) rfl rfl
theorem x_266_28   : am_E d 266 Q (28, L, st, g) ↔ am_K d 266 Q (am_ldI 29 L st g 1) := am_E_iload_n (by decide +kernel : am_dc 266 28 = some (.iload_n 1)) rfl rfl
theorem x_266_29   : am_E d 266 Q (29, L, .int y :: .int x :: st, g) ↔ am_E d 266 Q (30, L, .int (x + y) :: st, g) := am_E_iadd (by decide +kernel : am_dc 266 29 = some (.iadd)) rfl
theorem x_266_30  : am_E d 266 Q (30, L, [.int x], g) ↔ if am_ok (FieldType.int) (.int x) = true then Q (.inl (some (.int x))) g else False := am_E_ireturn (by decide +kernel : am_dc 266 30 = some (.ireturn)) (by decide +kernel)
theorem x_266_31   : am_E d 266 Q (31, L, st, g) ↔ am_E d 266 Q (33, L, .int (10) :: st, g) := am_E_bipush (by decide +kernel : am_dc 266 31 = some (.bipush (10))) (by decide) rfl
theorem x_266_33   : am_E d 266 Q (33, L, st, g) ↔ am_K d 266 Q (am_ldI 34 L st g 2) := am_E_iload_n (by decide +kernel : am_dc 266 33 = some (.iload_n 2)) rfl rfl
theorem x_266_34   : am_E d 266 Q (34, L, .int y :: .int x :: st, g) ↔ am_E d 266 Q (35, L, .int (x * y) :: st, g) := am_E_imul (by decide +kernel : am_dc 266 34 = some (.imul)) rfl
theorem x_266_35   : am_E d 266 Q (35, L, st, g) ↔ am_K d 266 Q (am_stI 36 L st g 2) := am_E_istore_n (by decide +kernel : am_dc 266 35 = some (.istore_n 2)) rfl rfl
theorem x_266_36   (hk : L.getD 3 none = some (.int x)) (hl : 3 < L.length) : am_E d 266 Q (36, L, st, g) ↔ am_E d 266 Q (39, am_s1 L 3 (.int (x + (1))), st, g) := am_E_iinc (by decide +kernel : am_dc 266 36 = some (.iinc 3 (1))) (by decide) rfl hk hl
theorem x_266_39   : am_E d 266 Q (39, L, st, g) ↔ am_E d 266 Q (16, L, st, g) := am_E_gt (by decide +kernel : am_dc 266 39 = some (.goto (-23))) rfl rfl
theorem x_266_42   : am_E d 266 Q (42, L, st, g) ↔ am_E d 266 Q (44, L, .int (10) :: st, g) := am_E_bipush (by decide +kernel : am_dc 266 42 = some (.bipush (10))) (by decide) rfl
theorem x_266_44   : am_E d 266 Q (44, L, st, g) ↔ am_K d 266 Q (am_ldI 45 L st g 1) := am_E_iload_n (by decide +kernel : am_dc 266 44 = some (.iload_n 1)) rfl rfl
theorem x_266_45   : am_E d 266 Q (45, L, .int y :: .int x :: st, g) ↔ am_E d 266 Q (46, L, .int (x + y) :: st, g) := am_E_iadd (by decide +kernel : am_dc 266 45 = some (.iadd)) rfl
theorem x_266_46  : am_E d 266 Q (46, L, [.int x], g) ↔ if am_ok (FieldType.int) (.int x) = true then Q (.inl (some (.int x))) g else False := am_E_ireturn (by decide +kernel : am_dc 266 46 = some (.ireturn)) (by decide +kernel)
theorem t_266 : am_t 266 = some (FieldType.int) := by decide +kernel
theorem h_266 : am_h 266 = [] := by decide +kernel
theorem m_266 : am_m 266 = 4 := by decide +kernel
theorem x_267_0   : am_E d 267 Q (0, L, st, g) ↔ am_K d 267 Q (am_ldL 1 L st g 0) := am_E_lload_n (by decide +kernel : am_dc 267 0 = some (.lload_n 0)) rfl rfl
theorem x_267_1   : am_E d 267 Q (1, L, st, g) ↔ am_E d 267 Q (2, L, .long (0) :: st, g) := am_E_lconst (by decide +kernel : am_dc 267 1 = some (.lconst 0)) (by decide) rfl
theorem x_267_2   : am_E d 267 Q (2, L, .long w :: .long u :: st, g) ↔ am_E d 267 Q (3, L, .int (lg_cmp u w) :: st, g) := am_E_lcmp (by decide +kernel : am_dc 267 2 = some (.lcmp)) rfl
theorem x_267_3   : am_E d 267 Q (3, L, .int x :: st, g) ↔ am_E d 267 Q (am_cmp .ge x 0 11 6, L, st, g) := am_E_if (by decide +kernel : am_dc 267 3 = some (.ifCond .ge (8))) rfl rfl
theorem x_267_6   : am_E d 267 Q (6, L, st, g) ↔ am_K d 267 Q (am_ldL 7 L st g 0) := am_E_lload_n (by decide +kernel : am_dc 267 6 = some (.lload_n 0)) rfl rfl
theorem x_267_7   : am_E d 267 Q (7, L, .long u :: st, g) ↔ am_E d 267 Q (8, L, .long (-u) :: st, g) := am_E_lneg (by decide +kernel : am_dc 267 7 = some (.lneg)) rfl
theorem x_267_8   : am_E d 267 Q (8, L, st, g) ↔ am_E d 267 Q (12, L, st, g) := am_E_gt (by decide +kernel : am_dc 267 8 = some (.goto (4))) rfl rfl
theorem x_267_11   : am_E d 267 Q (11, L, st, g) ↔ am_K d 267 Q (am_ldL 12 L st g 0) := am_E_lload_n (by decide +kernel : am_dc 267 11 = some (.lload_n 0)) rfl rfl
theorem x_267_12  : am_E d 267 Q (12, L, [.long u], g) ↔ Q (.inl (some (.long u))) g := am_E_lreturn (by decide +kernel : am_dc 267 12 = some (.lreturn)) (by decide +kernel)
theorem t_267 : am_t 267 = some (FieldType.long) := by decide +kernel
theorem h_267 : am_h 267 = [] := by decide +kernel
theorem m_267 : am_m 267 = 2 := by decide +kernel
theorem x_268_0   : am_E d 268 Q (0, L, st, g) ↔ am_K d 268 Q (am_ldI 1 L st g 0) := am_E_iload_n (by decide +kernel : am_dc 268 0 = some (.iload_n 0)) rfl rfl
theorem x_268_1   : am_E d 268 Q (1, L, st, g) ↔ am_K d 268 Q (am_ldI 2 L st g 1) := am_E_iload_n (by decide +kernel : am_dc 268 1 = some (.iload_n 1)) rfl rfl
theorem x_268_2   : am_E d 268 Q (2, L, .int y :: .int x :: st, g) ↔ am_E d 268 Q (am_cmp .lt x y 9 5, L, st, g) := am_E_ic (by decide +kernel : am_dc 268 2 = some (.if_icmp .lt (7))) rfl rfl
theorem x_268_5   : am_E d 268 Q (5, L, st, g) ↔ am_K d 268 Q (am_ldI 6 L st g 0) := am_E_iload_n (by decide +kernel : am_dc 268 5 = some (.iload_n 0)) rfl rfl
theorem x_268_6   : am_E d 268 Q (6, L, st, g) ↔ am_E d 268 Q (10, L, st, g) := am_E_gt (by decide +kernel : am_dc 268 6 = some (.goto (4))) rfl rfl
theorem x_268_9   : am_E d 268 Q (9, L, st, g) ↔ am_K d 268 Q (am_ldI 10 L st g 1) := am_E_iload_n (by decide +kernel : am_dc 268 9 = some (.iload_n 1)) rfl rfl
theorem x_268_10  : am_E d 268 Q (10, L, [.int x], g) ↔ if am_ok (FieldType.int) (.int x) = true then Q (.inl (some (.int x))) g else False := am_E_ireturn (by decide +kernel : am_dc 268 10 = some (.ireturn)) (by decide +kernel)
theorem t_268 : am_t 268 = some (FieldType.int) := by decide +kernel
theorem h_268 : am_h 268 = [] := by decide +kernel
theorem m_268 : am_m 268 = 2 := by decide +kernel
theorem x_269_0   : am_E d 269 Q (0, L, st, g) ↔ am_K d 269 Q (am_ldI 1 L st g 0) := am_E_iload_n (by decide +kernel : am_dc 269 0 = some (.iload_n 0)) rfl rfl
theorem x_269_1   : am_E d 269 Q (1, L, st, g) ↔ am_K d 269 Q (am_ldI 2 L st g 1) := am_E_iload_n (by decide +kernel : am_dc 269 1 = some (.iload_n 1)) rfl rfl
theorem x_269_2   : am_E d 269 Q (2, L, .int y :: .int x :: st, g) ↔ am_E d 269 Q (am_cmp .gt x y 9 5, L, st, g) := am_E_ic (by decide +kernel : am_dc 269 2 = some (.if_icmp .gt (7))) rfl rfl
theorem x_269_5   : am_E d 269 Q (5, L, st, g) ↔ am_K d 269 Q (am_ldI 6 L st g 0) := am_E_iload_n (by decide +kernel : am_dc 269 5 = some (.iload_n 0)) rfl rfl
theorem x_269_6   : am_E d 269 Q (6, L, st, g) ↔ am_E d 269 Q (10, L, st, g) := am_E_gt (by decide +kernel : am_dc 269 6 = some (.goto (4))) rfl rfl
theorem x_269_9   : am_E d 269 Q (9, L, st, g) ↔ am_K d 269 Q (am_ldI 10 L st g 1) := am_E_iload_n (by decide +kernel : am_dc 269 9 = some (.iload_n 1)) rfl rfl
theorem x_269_10  : am_E d 269 Q (10, L, [.int x], g) ↔ if am_ok (FieldType.int) (.int x) = true then Q (.inl (some (.int x))) g else False := am_E_ireturn (by decide +kernel : am_dc 269 10 = some (.ireturn)) (by decide +kernel)
theorem t_269 : am_t 269 = some (FieldType.int) := by decide +kernel
theorem h_269 : am_h 269 = [] := by decide +kernel
theorem m_269 : am_m 269 = 2 := by decide +kernel
theorem x_274_0   : am_E d 274 Q (0, L, st, g) ↔ am_K d 274 Q (am_ldI 1 L st g 0) := am_E_iload_n (by decide +kernel : am_dc 274 0 = some (.iload_n 0)) rfl rfl
theorem x_274_1   : am_E d 274 Q (1, L, st, g) ↔ am_K d 274 Q (am_ldI 2 L st g 1) := am_E_iload_n (by decide +kernel : am_dc 274 1 = some (.iload_n 1)) rfl rfl
theorem x_274_2  : am_E d 274 Q (2, L, st, g) ↔ am_K d 274 Q (am_S 274 (.getstatic 1053) 2 L st g) := am_E_x (by decide +kernel : am_dc 274 2 = some (.getstatic 1053))
theorem x_274_5  : am_E d 274 Q (5, L, st, g) ↔ am_K d 274 Q (am_S 274 (.invokestatic 1059) 5 L st g) := am_E_x (by decide +kernel : am_dc 274 5 = some (.invokestatic 1059))
theorem x_274_8   : am_E d 274 Q (8, L, v :: st, g) ↔ if v.category = 1 then am_E d 274 Q (9, L, st, g) else False := am_E_pop (by decide +kernel : am_dc 274 8 = some (.pop)) rfl
theorem x_274_9  : am_E d 274 Q (9, L, [], g) ↔ Q (.inl none) g := am_E_return (by decide +kernel : am_dc 274 9 = some (.return_)) (by decide +kernel)
theorem s_274_1053 : am_gs 274 1053 = some 102 := by decide +kernel
theorem v_274_1059 : am_iv 274 1059 = some (0, 317, 3) := by decide +kernel
theorem t_274 : am_t 274 = none := by decide +kernel
theorem h_274 : am_h 274 = [] := by decide +kernel
theorem m_274 : am_m 274 = 2 := by decide +kernel
theorem x_275_0  : am_E d 275 Q (0, L, st, g) ↔ am_K d 275 Q (am_S 275 (.getstatic 38) 0 L st g) := am_E_x (by decide +kernel : am_dc 275 0 = some (.getstatic 38))
theorem x_275_3   : am_E d 275 Q (3, L, .int x :: st, g) ↔ am_E d 275 Q (am_cmp .eq x 0 13 6, L, st, g) := am_E_if (by decide +kernel : am_dc 275 3 = some (.ifCond .eq (10))) rfl rfl
theorem x_275_6   : am_E d 275 Q (6, L, st, g) ↔ am_K d 275 Q (am_ldA 7 L st g 0) := am_E_aload_n (by decide +kernel : am_dc 275 6 = some (.aload_n 0)) rfl rfl
theorem x_275_7   : am_E d 275 Q (7, L, .ref a :: st, g) ↔ am_kv d 275 Q 10 L st g (am_gf g a 13 1) := am_E_getfield (by decide +kernel : am_dc 275 7 = some (.getfield 15)) (by decide +kernel) rfl
theorem x_275_10   : am_E d 275 Q (10, L, st, g) ↔ am_E d 275 Q (14, L, st, g) := am_E_gt (by decide +kernel : am_dc 275 10 = some (.goto (4))) rfl rfl
theorem x_275_13   : am_E d 275 Q (13, L, st, g) ↔ am_E d 275 Q (14, L, .int (1) :: st, g) := am_E_iconst (by decide +kernel : am_dc 275 13 = some (.iconst (1))) (by decide) rfl
theorem x_275_14  : am_E d 275 Q (14, L, [.int x], g) ↔ if am_ok (FieldType.byte) (.int x) = true then Q (.inl (some (.int x))) g else False := am_E_ireturn (by decide +kernel : am_dc 275 14 = some (.ireturn)) (by decide +kernel)
theorem s_275_38 : am_gs 275 38 = some 101 := by decide +kernel
theorem f_275_15 : am_fl 275 15 = some (13, 1) := by decide +kernel
theorem t_275 : am_t 275 = some (FieldType.byte) := by decide +kernel
theorem h_275 : am_h 275 = [] := by decide +kernel
theorem m_275 : am_m 275 = 1 := by decide +kernel
theorem x_276_0   : am_E d 276 Q (0, L, st, g) ↔ am_K d 276 Q (am_ldA 1 L st g 0) := am_E_aload_n (by decide +kernel : am_dc 276 0 = some (.aload_n 0)) rfl rfl
theorem x_276_1  : am_E d 276 Q (1, L, st, g) ↔ am_K d 276 Q (am_S 276 (.invokevirtual 335) 1 L st g) := am_E_x (by decide +kernel : am_dc 276 1 = some (.invokevirtual 335))
theorem x_276_4   : am_E d 276 Q (4, L, st, g) ↔ am_K d 276 Q (am_ldI 5 L st g 3) := am_E_iload_n (by decide +kernel : am_dc 276 4 = some (.iload_n 3)) rfl rfl
theorem x_276_5   : am_E d 276 Q (5, L, .int y :: .int x :: st, g) ↔ am_E d 276 Q (am_cmp .ne x y 28 8, L, st, g) := am_E_ic (by decide +kernel : am_dc 276 5 = some (.if_icmp .ne (23))) rfl rfl
theorem x_276_8   : am_E d 276 Q (8, L, st, g) ↔ am_K d 276 Q (am_ldA 9 L st g 0) := am_E_aload_n (by decide +kernel : am_dc 276 8 = some (.aload_n 0)) rfl rfl
theorem x_276_9   : am_E d 276 Q (9, L, .ref a :: st, g) ↔ am_kv d 276 Q 12 L st g (am_gf g a 13 0) := am_E_getfield (by decide +kernel : am_dc 276 9 = some (.getfield 9)) (by decide +kernel) rfl
theorem x_276_12   : am_E d 276 Q (12, L, st, g) ↔ am_E d 276 Q (13, L, .int (0) :: st, g) := am_E_iconst (by decide +kernel : am_dc 276 12 = some (.iconst (0))) (by decide) rfl
theorem x_276_13   : am_E d 276 Q (13, L, st, g) ↔ am_K d 276 Q (am_ldA 14 L st g 1) := am_E_aload_n (by decide +kernel : am_dc 276 13 = some (.aload_n 1)) rfl rfl
theorem x_276_14   : am_E d 276 Q (14, L, st, g) ↔ am_K d 276 Q (am_ldI 15 L st g 2) := am_E_iload_n (by decide +kernel : am_dc 276 14 = some (.iload_n 2)) rfl rfl
theorem x_276_15   : am_E d 276 Q (15, L, st, g) ↔ am_K d 276 Q (am_ldI 16 L st g 3) := am_E_iload_n (by decide +kernel : am_dc 276 15 = some (.iload_n 3)) rfl rfl
theorem x_276_16   : am_E d 276 Q (16, L, .int y :: .int x :: st, g) ↔ am_E d 276 Q (17, L, .int (x <<< (y &&& 31)) :: st, g) := am_E_ishl (by decide +kernel : am_dc 276 16 = some (.ishl)) rfl
theorem x_276_17   : am_E d 276 Q (17, L, st, g) ↔ am_K d 276 Q (am_ldA 18 L st g 0) := am_E_aload_n (by decide +kernel : am_dc 276 17 = some (.aload_n 0)) rfl rfl
theorem x_276_18   : am_E d 276 Q (18, L, .ref a :: st, g) ↔ am_kv d 276 Q 21 L st g (am_gf g a 13 0) := am_E_getfield (by decide +kernel : am_dc 276 18 = some (.getfield 9)) (by decide +kernel) rfl
theorem x_276_21   : am_E d 276 Q (21, L, .ref a :: st, g) ↔ am_kv d 276 Q 22 L st g ((am_sz g a).map fun n => .int (Int32.ofNat n)) := am_E_alen (by decide +kernel : am_dc 276 21 = some (.arraylength)) rfl
theorem x_276_22  : am_E d 276 Q (22, L, st, g) ↔ am_K d 276 Q (am_S 276 (.invokestatic 212) 22 L st g) := am_E_x (by decide +kernel : am_dc 276 22 = some (.invokestatic 212))
theorem x_276_25   : am_E d 276 Q (25, L, st, g) ↔ am_E d 276 Q (43, L, st, g) := am_E_gt (by decide +kernel : am_dc 276 25 = some (.goto (18))) rfl rfl
theorem x_276_28   : am_E d 276 Q (28, L, st, g) ↔ am_K d 276 Q (am_ldA 29 L st g 0) := am_E_aload_n (by decide +kernel : am_dc 276 28 = some (.aload_n 0)) rfl rfl
theorem x_276_29   : am_E d 276 Q (29, L, .ref a :: st, g) ↔ am_kv d 276 Q 32 L st g (am_gf g a 13 0) := am_E_getfield (by decide +kernel : am_dc 276 29 = some (.getfield 9)) (by decide +kernel) rfl
theorem x_276_32   : am_E d 276 Q (32, L, st, g) ↔ am_E d 276 Q (33, L, .int (0) :: st, g) := am_E_iconst (by decide +kernel : am_dc 276 32 = some (.iconst (0))) (by decide) rfl
theorem x_276_33   : am_E d 276 Q (33, L, st, g) ↔ am_K d 276 Q (am_ldA 34 L st g 1) := am_E_aload_n (by decide +kernel : am_dc 276 33 = some (.aload_n 1)) rfl rfl
theorem x_276_34   : am_E d 276 Q (34, L, st, g) ↔ am_K d 276 Q (am_ldI 35 L st g 2) := am_E_iload_n (by decide +kernel : am_dc 276 34 = some (.iload_n 2)) rfl rfl
theorem x_276_35   : am_E d 276 Q (35, L, st, g) ↔ am_K d 276 Q (am_ldA 36 L st g 0) := am_E_aload_n (by decide +kernel : am_dc 276 35 = some (.aload_n 0)) rfl rfl
theorem x_276_36   : am_E d 276 Q (36, L, .ref a :: st, g) ↔ am_kv d 276 Q 39 L st g (am_gf g a 13 0) := am_E_getfield (by decide +kernel : am_dc 276 36 = some (.getfield 9)) (by decide +kernel) rfl
theorem x_276_39   : am_E d 276 Q (39, L, .ref a :: st, g) ↔ am_kv d 276 Q 40 L st g ((am_sz g a).map fun n => .int (Int32.ofNat n)) := am_E_alen (by decide +kernel : am_dc 276 39 = some (.arraylength)) rfl
theorem x_276_40  : am_E d 276 Q (40, L, st, g) ↔ am_K d 276 Q (am_S 276 (.invokestatic 106) 40 L st g) := am_E_x (by decide +kernel : am_dc 276 40 = some (.invokestatic 106))
theorem x_276_43  : am_E d 276 Q (43, L, [], g) ↔ Q (.inl none) g := am_E_return (by decide +kernel : am_dc 276 43 = some (.return_)) (by decide +kernel)
theorem v_276_335 : am_iv 276 335 = some (1, 275, 1) := by decide +kernel
theorem f_276_9 : am_fl 276 9 = some (13, 0) := by decide +kernel
theorem v_276_212 : am_iv 276 212 = some (4, 0, 5) := by decide +kernel
theorem v_276_106 : am_iv 276 106 = some (0, 291, 5) := by decide +kernel
theorem t_276 : am_t 276 = none := by decide +kernel
theorem h_276 : am_h 276 = [] := by decide +kernel
theorem m_276 : am_m 276 = 4 := by decide +kernel
theorem x_277_0   : am_E d 277 Q (0, L, st, g) ↔ am_K d 277 Q (am_ldA 1 L st g 0) := am_E_aload_n (by decide +kernel : am_dc 277 0 = some (.aload_n 0)) rfl rfl
theorem x_277_1   : am_E d 277 Q (1, L, st, g) ↔ am_K d 277 Q (am_ldI 2 L st g 1) := am_E_iload_n (by decide +kernel : am_dc 277 1 = some (.iload_n 1)) rfl rfl
theorem x_277_2   : am_E d 277 Q (2, L, st, g) ↔ am_E d 277 Q (3, L, .int (0) :: st, g) := am_E_iconst (by decide +kernel : am_dc 277 2 = some (.iconst (0))) (by decide) rfl
theorem x_277_3  : am_E d 277 Q (3, L, st, g) ↔ am_K d 277 Q (am_S 277 (.invokevirtual 633) 3 L st g) := am_E_x (by decide +kernel : am_dc 277 3 = some (.invokevirtual 633))
theorem x_277_6  : am_E d 277 Q (6, L, [.int x], g) ↔ if am_ok (FieldType.int) (.int x) = true then Q (.inl (some (.int x))) g else False := am_E_ireturn (by decide +kernel : am_dc 277 6 = some (.ireturn)) (by decide +kernel)
theorem v_277_633 : am_iv 277 633 = some (1, 278, 3) := by decide +kernel
theorem t_277 : am_t 277 = some (FieldType.int) := by decide +kernel
theorem h_277 : am_h 277 = [] := by decide +kernel
theorem m_277 : am_m 277 = 2 := by decide +kernel
theorem x_278_0   : am_E d 278 Q (0, L, st, g) ↔ am_K d 278 Q (am_ldA 1 L st g 0) := am_E_aload_n (by decide +kernel : am_dc 278 0 = some (.aload_n 0)) rfl rfl
theorem x_278_1  : am_E d 278 Q (1, L, st, g) ↔ am_K d 278 Q (am_S 278 (.invokevirtual 492) 1 L st g) := am_E_x (by decide +kernel : am_dc 278 1 = some (.invokevirtual 492))
theorem x_278_4   : am_E d 278 Q (4, L, .int x :: st, g) ↔ am_E d 278 Q (am_cmp .eq x 0 23 7, L, st, g) := am_E_if (by decide +kernel : am_dc 278 4 = some (.ifCond .eq (19))) rfl rfl
theorem x_278_7   : am_E d 278 Q (7, L, st, g) ↔ am_K d 278 Q (am_ldA 8 L st g 0) := am_E_aload_n (by decide +kernel : am_dc 278 7 = some (.aload_n 0)) rfl rfl
theorem x_278_8   : am_E d 278 Q (8, L, .ref a :: st, g) ↔ am_kv d 278 Q 11 L st g (am_gf g a 13 0) := am_E_getfield (by decide +kernel : am_dc 278 8 = some (.getfield 9)) (by decide +kernel) rfl
theorem x_278_11   : am_E d 278 Q (11, L, st, g) ↔ am_K d 278 Q (am_ldI 12 L st g 1) := am_E_iload_n (by decide +kernel : am_dc 278 11 = some (.iload_n 1)) rfl rfl
theorem x_278_12   : am_E d 278 Q (12, L, st, g) ↔ am_K d 278 Q (am_ldI 13 L st g 2) := am_E_iload_n (by decide +kernel : am_dc 278 12 = some (.iload_n 2)) rfl rfl
theorem x_278_13   : am_E d 278 Q (13, L, st, g) ↔ am_K d 278 Q (am_ldA 14 L st g 0) := am_E_aload_n (by decide +kernel : am_dc 278 13 = some (.aload_n 0)) rfl rfl
theorem x_278_14  : am_E d 278 Q (14, L, st, g) ↔ am_K d 278 Q (am_S 278 (.invokevirtual 505) 14 L st g) := am_E_x (by decide +kernel : am_dc 278 14 = some (.invokevirtual 505))
theorem x_278_17  : am_E d 278 Q (17, L, st, g) ↔ am_K d 278 Q (am_S 278 (.invokestatic 637) 17 L st g) := am_E_x (by decide +kernel : am_dc 278 17 = some (.invokestatic 637))
theorem x_278_20   : am_E d 278 Q (20, L, st, g) ↔ am_E d 278 Q (36, L, st, g) := am_E_gt (by decide +kernel : am_dc 278 20 = some (.goto (16))) rfl rfl
theorem x_278_23   : am_E d 278 Q (23, L, st, g) ↔ am_K d 278 Q (am_ldA 24 L st g 0) := am_E_aload_n (by decide +kernel : am_dc 278 23 = some (.aload_n 0)) rfl rfl
theorem x_278_24   : am_E d 278 Q (24, L, .ref a :: st, g) ↔ am_kv d 278 Q 27 L st g (am_gf g a 13 0) := am_E_getfield (by decide +kernel : am_dc 278 24 = some (.getfield 9)) (by decide +kernel) rfl
theorem x_278_27   : am_E d 278 Q (27, L, st, g) ↔ am_K d 278 Q (am_ldI 28 L st g 1) := am_E_iload_n (by decide +kernel : am_dc 278 27 = some (.iload_n 1)) rfl rfl
theorem x_278_28   : am_E d 278 Q (28, L, st, g) ↔ am_K d 278 Q (am_ldI 29 L st g 2) := am_E_iload_n (by decide +kernel : am_dc 278 28 = some (.iload_n 2)) rfl rfl
theorem x_278_29   : am_E d 278 Q (29, L, st, g) ↔ am_K d 278 Q (am_ldA 30 L st g 0) := am_E_aload_n (by decide +kernel : am_dc 278 29 = some (.aload_n 0)) rfl rfl
theorem x_278_30  : am_E d 278 Q (30, L, st, g) ↔ am_K d 278 Q (am_S 278 (.invokevirtual 505) 30 L st g) := am_E_x (by decide +kernel : am_dc 278 30 = some (.invokevirtual 505))
theorem x_278_33  : am_E d 278 Q (33, L, st, g) ↔ am_K d 278 Q (am_S 278 (.invokestatic 640) 33 L st g) := am_E_x (by decide +kernel : am_dc 278 33 = some (.invokestatic 640))
theorem x_278_36  : am_E d 278 Q (36, L, [.int x], g) ↔ if am_ok (FieldType.int) (.int x) = true then Q (.inl (some (.int x))) g else False := am_E_ireturn (by decide +kernel : am_dc 278 36 = some (.ireturn)) (by decide +kernel)
theorem v_278_492 : am_iv 278 492 = some (1, 279, 1) := by decide +kernel
theorem f_278_9 : am_fl 278 9 = some (13, 0) := by decide +kernel
theorem v_278_505 : am_iv 278 505 = some (1, 280, 1) := by decide +kernel
theorem v_278_637 : am_iv 278 637 = some (0, 289, 4) := by decide +kernel
theorem v_278_640 : am_iv 278 640 = some (0, 298, 4) := by decide +kernel
theorem t_278 : am_t 278 = some (FieldType.int) := by decide +kernel
theorem h_278 : am_h 278 = [] := by decide +kernel
theorem m_278 : am_m 278 = 3 := by decide +kernel
theorem x_279_0  : am_E d 279 Q (0, L, st, g) ↔ am_K d 279 Q (am_S 279 (.getstatic 38) 0 L st g) := am_E_x (by decide +kernel : am_dc 279 0 = some (.getstatic 38))
theorem x_279_3   : am_E d 279 Q (3, L, .int x :: st, g) ↔ am_E d 279 Q (am_cmp .eq x 0 17 6, L, st, g) := am_E_if (by decide +kernel : am_dc 279 3 = some (.ifCond .eq (14))) rfl rfl
theorem x_279_6   : am_E d 279 Q (6, L, st, g) ↔ am_K d 279 Q (am_ldA 7 L st g 0) := am_E_aload_n (by decide +kernel : am_dc 279 6 = some (.aload_n 0)) rfl rfl
theorem x_279_7   : am_E d 279 Q (7, L, .ref a :: st, g) ↔ am_kv d 279 Q 10 L st g (am_gf g a 13 1) := am_E_getfield (by decide +kernel : am_dc 279 7 = some (.getfield 15)) (by decide +kernel) rfl
theorem x_279_10   : am_E d 279 Q (10, L, .int x :: st, g) ↔ am_E d 279 Q (am_cmp .ne x 0 17 13, L, st, g) := am_E_if (by decide +kernel : am_dc 279 10 = some (.ifCond .ne (7))) rfl rfl
theorem x_279_13   : am_E d 279 Q (13, L, st, g) ↔ am_E d 279 Q (14, L, .int (1) :: st, g) := am_E_iconst (by decide +kernel : am_dc 279 13 = some (.iconst (1))) (by decide) rfl
theorem x_279_14   : am_E d 279 Q (14, L, st, g) ↔ am_E d 279 Q (18, L, st, g) := am_E_gt (by decide +kernel : am_dc 279 14 = some (.goto (4))) rfl rfl
theorem x_279_17   : am_E d 279 Q (17, L, st, g) ↔ am_E d 279 Q (18, L, .int (0) :: st, g) := am_E_iconst (by decide +kernel : am_dc 279 17 = some (.iconst (0))) (by decide) rfl
theorem x_279_18  : am_E d 279 Q (18, L, [.int x], g) ↔ if am_ok (FieldType.boolean) (.int x) = true then Q (.inl (some (.int x))) g else False := am_E_ireturn (by decide +kernel : am_dc 279 18 = some (.ireturn)) (by decide +kernel)
theorem s_279_38 : am_gs 279 38 = some 101 := by decide +kernel
theorem f_279_15 : am_fl 279 15 = some (13, 1) := by decide +kernel
theorem t_279 : am_t 279 = some (FieldType.boolean) := by decide +kernel
theorem h_279 : am_h 279 = [] := by decide +kernel
theorem m_279 : am_m 279 = 1 := by decide +kernel
theorem x_280_0   : am_E d 280 Q (0, L, st, g) ↔ am_K d 280 Q (am_ldA 1 L st g 0) := am_E_aload_n (by decide +kernel : am_dc 280 0 = some (.aload_n 0)) rfl rfl
theorem x_280_1   : am_E d 280 Q (1, L, .ref a :: st, g) ↔ am_kv d 280 Q 4 L st g (am_gf g a 13 0) := am_E_getfield (by decide +kernel : am_dc 280 1 = some (.getfield 9)) (by decide +kernel) rfl
theorem x_280_4   : am_E d 280 Q (4, L, .ref a :: st, g) ↔ am_kv d 280 Q 5 L st g ((am_sz g a).map fun n => .int (Int32.ofNat n)) := am_E_alen (by decide +kernel : am_dc 280 4 = some (.arraylength)) rfl
theorem x_280_5   : am_E d 280 Q (5, L, st, g) ↔ am_K d 280 Q (am_ldA 6 L st g 0) := am_E_aload_n (by decide +kernel : am_dc 280 5 = some (.aload_n 0)) rfl rfl
theorem x_280_6  : am_E d 280 Q (6, L, st, g) ↔ am_K d 280 Q (am_S 280 (.invokevirtual 335) 6 L st g) := am_E_x (by decide +kernel : am_dc 280 6 = some (.invokevirtual 335))
theorem x_280_9   : am_E d 280 Q (9, L, .int y :: .int x :: st, g) ↔ am_E d 280 Q (10, L, .int (x >>> (y &&& 31)) :: st, g) := am_E_ishr (by decide +kernel : am_dc 280 9 = some (.ishr)) rfl
theorem x_280_10  : am_E d 280 Q (10, L, [.int x], g) ↔ if am_ok (FieldType.int) (.int x) = true then Q (.inl (some (.int x))) g else False := am_E_ireturn (by decide +kernel : am_dc 280 10 = some (.ireturn)) (by decide +kernel)
theorem f_280_9 : am_fl 280 9 = some (13, 0) := by decide +kernel
theorem v_280_335 : am_iv 280 335 = some (1, 275, 1) := by decide +kernel
theorem t_280 : am_t 280 = some (FieldType.int) := by decide +kernel
theorem h_280 : am_h 280 = [] := by decide +kernel
theorem m_280 : am_m 280 = 1 := by decide +kernel
theorem x_281_0   : am_E d 281 Q (0, L, st, g) ↔ am_K d 281 Q (am_ldA 1 L st g 0) := am_E_aload_n (by decide +kernel : am_dc 281 0 = some (.aload_n 0)) rfl rfl
theorem x_281_1   : am_E d 281 Q (1, L, st, g) ↔ am_E d 281 Q (3, L, .int (16) :: st, g) := am_E_bipush (by decide +kernel : am_dc 281 1 = some (.bipush (16))) (by decide) rfl
theorem x_281_3  : am_E d 281 Q (3, L, st, g) ↔ am_K d 281 Q (am_S 281 (.invokespecial 1) 3 L st g) := am_E_x (by decide +kernel : am_dc 281 3 = some (.invokespecial 1))
theorem x_281_6  : am_E d 281 Q (6, L, [], g) ↔ Q (.inl none) g := am_E_return (by decide +kernel : am_dc 281 6 = some (.return_)) (by decide +kernel)
theorem v_281_1 : am_iv 281 1 = some (2, 246, 2) := by decide +kernel
theorem t_281 : am_t 281 = none := by decide +kernel
theorem h_281 : am_h 281 = [] := by decide +kernel
theorem m_281 : am_m 281 = 1 := by decide +kernel
theorem x_282_0   : am_E d 282 Q (0, L, st, g) ↔ am_K d 282 Q (am_ldA 1 L st g 0) := am_E_aload_n (by decide +kernel : am_dc 282 0 = some (.aload_n 0)) rfl rfl
theorem x_282_1   : am_E d 282 Q (1, L, st, g) ↔ am_K d 282 Q (am_ldI 2 L st g 1) := am_E_iload_n (by decide +kernel : am_dc 282 1 = some (.iload_n 1)) rfl rfl
theorem x_282_2  : am_E d 282 Q (2, L, st, g) ↔ am_K d 282 Q (am_S 282 (.invokespecial 50) 2 L st g) := am_E_x (by decide +kernel : am_dc 282 2 = some (.invokespecial 50))
theorem x_282_5   : am_E d 282 Q (5, L, v :: st, g) ↔ if v.category = 1 then am_E d 282 Q (6, L, st, g) else False := am_E_pop (by decide +kernel : am_dc 282 5 = some (.pop)) rfl
theorem x_282_6   : am_E d 282 Q (6, L, st, g) ↔ am_K d 282 Q (am_ldA 7 L st g 0) := am_E_aload_n (by decide +kernel : am_dc 282 6 = some (.aload_n 0)) rfl rfl
theorem x_282_7  : am_E d 282 Q (7, L, [.ref a], g) ↔ if am_ok ((FieldType.object "java/lang/StringBuilder")) (.ref a) = true then Q (.inl (some (.ref a))) g else False := am_E_areturn (by decide +kernel : am_dc 282 7 = some (.areturn)) (by decide +kernel)
theorem v_282_50 : am_iv 282 50 = some (8, 247, 2) := by decide +kernel
theorem t_282 : am_t 282 = some ((FieldType.object "java/lang/StringBuilder")) := by decide +kernel
theorem h_282 : am_h 282 = [] := by decide +kernel
theorem m_282 : am_m 282 = 2 := by decide +kernel
theorem x_283_0   : am_E d 283 Q (0, L, st, g) ↔ am_K d 283 Q (am_ldA 1 L st g 0) := am_E_aload_n (by decide +kernel : am_dc 283 0 = some (.aload_n 0)) rfl rfl
theorem x_283_1   : am_E d 283 Q (1, L, st, g) ↔ am_K d 283 Q (am_ldI 2 L st g 1) := am_E_iload_n (by decide +kernel : am_dc 283 1 = some (.iload_n 1)) rfl rfl
theorem x_283_2  : am_E d 283 Q (2, L, st, g) ↔ am_K d 283 Q (am_S 283 (.invokespecial 53) 2 L st g) := am_E_x (by decide +kernel : am_dc 283 2 = some (.invokespecial 53))
theorem x_283_5   : am_E d 283 Q (5, L, v :: st, g) ↔ if v.category = 1 then am_E d 283 Q (6, L, st, g) else False := am_E_pop (by decide +kernel : am_dc 283 5 = some (.pop)) rfl
theorem x_283_6   : am_E d 283 Q (6, L, st, g) ↔ am_K d 283 Q (am_ldA 7 L st g 0) := am_E_aload_n (by decide +kernel : am_dc 283 6 = some (.aload_n 0)) rfl rfl
theorem x_283_7  : am_E d 283 Q (7, L, [.ref a], g) ↔ if am_ok ((FieldType.object "java/lang/StringBuilder")) (.ref a) = true then Q (.inl (some (.ref a))) g else False := am_E_areturn (by decide +kernel : am_dc 283 7 = some (.areturn)) (by decide +kernel)
theorem v_283_53 : am_iv 283 53 = some (8, 248, 2) := by decide +kernel
theorem t_283 : am_t 283 = some ((FieldType.object "java/lang/StringBuilder")) := by decide +kernel
theorem h_283 : am_h 283 = [] := by decide +kernel
theorem m_283 : am_m 283 = 2 := by decide +kernel
theorem x_284_0   : am_E d 284 Q (0, L, st, g) ↔ am_K d 284 Q (am_ldA 1 L st g 0) := am_E_aload_n (by decide +kernel : am_dc 284 0 = some (.aload_n 0)) rfl rfl
theorem x_284_1   : am_E d 284 Q (1, L, st, g) ↔ am_K d 284 Q (am_ldA 2 L st g 1) := am_E_aload_n (by decide +kernel : am_dc 284 1 = some (.aload_n 1)) rfl rfl
theorem x_284_2  : am_E d 284 Q (2, L, st, g) ↔ am_K d 284 Q (am_S 284 (.invokespecial 29) 2 L st g) := am_E_x (by decide +kernel : am_dc 284 2 = some (.invokespecial 29))
theorem x_284_5   : am_E d 284 Q (5, L, v :: st, g) ↔ if v.category = 1 then am_E d 284 Q (6, L, st, g) else False := am_E_pop (by decide +kernel : am_dc 284 5 = some (.pop)) rfl
theorem x_284_6   : am_E d 284 Q (6, L, st, g) ↔ am_K d 284 Q (am_ldA 7 L st g 0) := am_E_aload_n (by decide +kernel : am_dc 284 6 = some (.aload_n 0)) rfl rfl
theorem x_284_7  : am_E d 284 Q (7, L, [.ref a], g) ↔ if am_ok ((FieldType.object "java/lang/StringBuilder")) (.ref a) = true then Q (.inl (some (.ref a))) g else False := am_E_areturn (by decide +kernel : am_dc 284 7 = some (.areturn)) (by decide +kernel)
theorem v_284_29 : am_iv 284 29 = some (8, 249, 2) := by decide +kernel
theorem t_284 : am_t 284 = some ((FieldType.object "java/lang/StringBuilder")) := by decide +kernel
theorem h_284 : am_h 284 = [] := by decide +kernel
theorem m_284 : am_m 284 = 2 := by decide +kernel
theorem x_285_0   : am_E d 285 Q (0, L, st, g) ↔ am_K d 285 Q (am_ldA 1 L st g 0) := am_E_aload_n (by decide +kernel : am_dc 285 0 = some (.aload_n 0)) rfl rfl
theorem x_285_1   : am_E d 285 Q (1, L, st, g) ↔ am_K d 285 Q (am_ldI 2 L st g 1) := am_E_iload_n (by decide +kernel : am_dc 285 1 = some (.iload_n 1)) rfl rfl
theorem x_285_2  : am_E d 285 Q (2, L, st, g) ↔ am_K d 285 Q (am_S 285 (.invokespecial 329) 2 L st g) := am_E_x (by decide +kernel : am_dc 285 2 = some (.invokespecial 329))
theorem x_285_5  : am_E d 285 Q (5, L, [.int x], g) ↔ if am_ok (FieldType.char) (.int x) = true then Q (.inl (some (.int x))) g else False := am_E_ireturn (by decide +kernel : am_dc 285 5 = some (.ireturn)) (by decide +kernel)
theorem v_285_329 : am_iv 285 329 = some (8, 251, 2) := by decide +kernel
theorem t_285 : am_t 285 = some (FieldType.char) := by decide +kernel
theorem h_285 : am_h 285 = [] := by decide +kernel
theorem m_285 : am_m 285 = 2 := by decide +kernel
theorem x_286_0   : am_E d 286 Q (0, L, st, g) ↔ am_K d 286 Q (am_ldA 1 L st g 0) := am_E_aload_n (by decide +kernel : am_dc 286 0 = some (.aload_n 0)) rfl rfl
theorem x_286_1  : am_E d 286 Q (1, L, st, g) ↔ am_K d 286 Q (am_S 286 (.invokespecial 343) 1 L st g) := am_E_x (by decide +kernel : am_dc 286 1 = some (.invokespecial 343))
theorem x_286_4  : am_E d 286 Q (4, L, [.int x], g) ↔ if am_ok (FieldType.int) (.int x) = true then Q (.inl (some (.int x))) g else False := am_E_ireturn (by decide +kernel : am_dc 286 4 = some (.ireturn)) (by decide +kernel)
theorem v_286_343 : am_iv 286 343 = some (8, 256, 1) := by decide +kernel
theorem t_286 : am_t 286 = some (FieldType.int) := by decide +kernel
theorem h_286 : am_h 286 = [] := by decide +kernel
theorem m_286 : am_m 286 = 1 := by decide +kernel
theorem x_287_0   : am_E d 287 Q (0, L, st, g) ↔ am_K d 287 Q (am_ldI 1 L st g 0) := am_E_iload_n (by decide +kernel : am_dc 287 0 = some (.iload_n 0)) rfl rfl
theorem x_287_1   : am_E d 287 Q (1, L, st, g) ↔ am_E d 287 Q (4, L, .int (255) :: st, g) := am_E_sipush (by decide +kernel : am_dc 287 1 = some (.sipush (255))) (by decide) rfl
theorem x_287_4   : am_E d 287 Q (4, L, .int y :: .int x :: st, g) ↔ am_E d 287 Q (am_cmp .gt x y 11 7, L, st, g) := am_E_ic (by decide +kernel : am_dc 287 4 = some (.if_icmp .gt (7))) rfl rfl
theorem x_287_7   : am_E d 287 Q (7, L, st, g) ↔ am_E d 287 Q (8, L, .int (1) :: st, g) := am_E_iconst (by decide +kernel : am_dc 287 7 = some (.iconst (1))) (by decide) rfl
theorem x_287_8   : am_E d 287 Q (8, L, st, g) ↔ am_E d 287 Q (12, L, st, g) := am_E_gt (by decide +kernel : am_dc 287 8 = some (.goto (4))) rfl rfl
theorem x_287_11   : am_E d 287 Q (11, L, st, g) ↔ am_E d 287 Q (12, L, .int (0) :: st, g) := am_E_iconst (by decide +kernel : am_dc 287 11 = some (.iconst (0))) (by decide) rfl
theorem x_287_12  : am_E d 287 Q (12, L, [.int x], g) ↔ if am_ok (FieldType.boolean) (.int x) = true then Q (.inl (some (.int x))) g else False := am_E_ireturn (by decide +kernel : am_dc 287 12 = some (.ireturn)) (by decide +kernel)
theorem t_287 : am_t 287 = some (FieldType.boolean) := by decide +kernel
theorem h_287 : am_h 287 = [] := by decide +kernel
theorem m_287 : am_m 287 = 1 := by decide +kernel
theorem x_288_0   : am_E d 288 Q (0, L, st, g) ↔ am_K d 288 Q (am_ldI 1 L st g 0) := am_E_iload_n (by decide +kernel : am_dc 288 0 = some (.iload_n 0)) rfl rfl
theorem x_288_1   : am_E d 288 Q (1, L, .int x :: st, g) ↔ am_E d 288 Q (am_cmp .lt x 0 15 4, L, st, g) := am_E_if (by decide +kernel : am_dc 288 1 = some (.ifCond .lt (14))) rfl rfl
theorem x_288_4   : am_E d 288 Q (4, L, st, g) ↔ am_K d 288 Q (am_ldI 5 L st g 0) := am_E_iload_n (by decide +kernel : am_dc 288 4 = some (.iload_n 0)) rfl rfl
theorem x_288_5   : am_E d 288 Q (5, L, st, g) ↔ am_E d 288 Q (8, L, .int (255) :: st, g) := am_E_sipush (by decide +kernel : am_dc 288 5 = some (.sipush (255))) (by decide) rfl
theorem x_288_8   : am_E d 288 Q (8, L, .int y :: .int x :: st, g) ↔ am_E d 288 Q (am_cmp .gt x y 15 11, L, st, g) := am_E_ic (by decide +kernel : am_dc 288 8 = some (.if_icmp .gt (7))) rfl rfl
theorem x_288_11   : am_E d 288 Q (11, L, st, g) ↔ am_E d 288 Q (12, L, .int (1) :: st, g) := am_E_iconst (by decide +kernel : am_dc 288 11 = some (.iconst (1))) (by decide) rfl
theorem x_288_12   : am_E d 288 Q (12, L, st, g) ↔ am_E d 288 Q (16, L, st, g) := am_E_gt (by decide +kernel : am_dc 288 12 = some (.goto (4))) rfl rfl
theorem x_288_15   : am_E d 288 Q (15, L, st, g) ↔ am_E d 288 Q (16, L, .int (0) :: st, g) := am_E_iconst (by decide +kernel : am_dc 288 15 = some (.iconst (0))) (by decide) rfl
theorem x_288_16  : am_E d 288 Q (16, L, [.int x], g) ↔ if am_ok (FieldType.boolean) (.int x) = true then Q (.inl (some (.int x))) g else False := am_E_ireturn (by decide +kernel : am_dc 288 16 = some (.ireturn)) (by decide +kernel)
theorem t_288 : am_t 288 = some (FieldType.boolean) := by decide +kernel
theorem h_288 : am_h 288 = [] := by decide +kernel
theorem m_288 : am_m 288 = 1 := by decide +kernel
theorem x_289_0   : am_E d 289 Q (0, L, st, g) ↔ am_K d 289 Q (am_ldI 1 L st g 1) := am_E_iload_n (by decide +kernel : am_dc 289 0 = some (.iload_n 1)) rfl rfl
theorem x_289_1  : am_E d 289 Q (1, L, st, g) ↔ am_K d 289 Q (am_S 289 (.invokestatic 88) 1 L st g) := am_E_x (by decide +kernel : am_dc 289 1 = some (.invokestatic 88))
theorem x_289_4   : am_E d 289 Q (4, L, .int x :: st, g) ↔ am_E d 289 Q (am_cmp .ne x 0 9 7, L, st, g) := am_E_if (by decide +kernel : am_dc 289 4 = some (.ifCond .ne (5))) rfl rfl
theorem x_289_7   : am_E d 289 Q (7, L, st, g) ↔ am_E d 289 Q (8, L, .int (-1) :: st, g) := am_E_iconst (by decide +kernel : am_dc 289 7 = some (.iconst (-1))) (by decide) rfl
theorem x_289_8  : am_E d 289 Q (8, L, [.int x], g) ↔ if am_ok (FieldType.int) (.int x) = true then Q (.inl (some (.int x))) g else False := am_E_ireturn (by decide +kernel : am_dc 289 8 = some (.ireturn)) (by decide +kernel)
theorem x_289_9   : am_E d 289 Q (9, L, st, g) ↔ am_K d 289 Q (am_ldI 10 L st g 2) := am_E_iload_n (by decide +kernel : am_dc 289 9 = some (.iload_n 2)) rfl rfl
theorem x_289_10   : am_E d 289 Q (10, L, st, g) ↔ am_E d 289 Q (11, L, .int (0) :: st, g) := am_E_iconst (by decide +kernel : am_dc 289 10 = some (.iconst (0))) (by decide) rfl
theorem x_289_11  : am_E d 289 Q (11, L, st, g) ↔ am_K d 289 Q (am_S 289 (.invokestatic 92) 11 L st g) := am_E_x (by decide +kernel : am_dc 289 11 = some (.invokestatic 92))
theorem x_289_14   : am_E d 289 Q (14, L, st, g) ↔ am_K d 289 Q (am_stI 15 L st g 2) := am_E_istore_n (by decide +kernel : am_dc 289 14 = some (.istore_n 2)) rfl rfl
theorem x_289_15   : am_E d 289 Q (15, L, st, g) ↔ am_K d 289 Q (am_ldI 16 L st g 3) := am_E_iload_n (by decide +kernel : am_dc 289 15 = some (.iload_n 3)) rfl rfl
theorem x_289_16   : am_E d 289 Q (16, L, st, g) ↔ am_K d 289 Q (am_ldA 17 L st g 0) := am_E_aload_n (by decide +kernel : am_dc 289 16 = some (.aload_n 0)) rfl rfl
theorem x_289_17   : am_E d 289 Q (17, L, .ref a :: st, g) ↔ am_kv d 289 Q 18 L st g ((am_sz g a).map fun n => .int (Int32.ofNat n)) := am_E_alen (by decide +kernel : am_dc 289 17 = some (.arraylength)) rfl
theorem x_289_18  : am_E d 289 Q (18, L, st, g) ↔ am_K d 289 Q (am_S 289 (.invokestatic 38) 18 L st g) := am_E_x (by decide +kernel : am_dc 289 18 = some (.invokestatic 38))
theorem x_289_21   : am_E d 289 Q (21, L, st, g) ↔ am_K d 289 Q (am_stI 22 L st g 3) := am_E_istore_n (by decide +kernel : am_dc 289 21 = some (.istore_n 3)) rfl rfl
theorem x_289_22   : am_E d 289 Q (22, L, st, g) ↔ am_K d 289 Q (am_ldI 23 L st g 2) := am_E_iload_n (by decide +kernel : am_dc 289 22 = some (.iload_n 2)) rfl rfl
theorem x_289_23   : am_E d 289 Q (23, L, st, g) ↔ am_K d 289 Q (am_ldI 24 L st g 3) := am_E_iload_n (by decide +kernel : am_dc 289 23 = some (.iload_n 3)) rfl rfl
theorem x_289_24   : am_E d 289 Q (24, L, .int y :: .int x :: st, g) ↔ am_E d 289 Q (am_cmp .lt x y 29 27, L, st, g) := am_E_ic (by decide +kernel : am_dc 289 24 = some (.if_icmp .lt (5))) rfl rfl
theorem x_289_27   : am_E d 289 Q (27, L, st, g) ↔ am_E d 289 Q (28, L, .int (-1) :: st, g) := am_E_iconst (by decide +kernel : am_dc 289 27 = some (.iconst (-1))) (by decide) rfl
theorem x_289_28  : am_E d 289 Q (28, L, [.int x], g) ↔ if am_ok (FieldType.int) (.int x) = true then Q (.inl (some (.int x))) g else False := am_E_ireturn (by decide +kernel : am_dc 289 28 = some (.ireturn)) (by decide +kernel)
theorem x_289_29   : am_E d 289 Q (29, L, st, g) ↔ am_K d 289 Q (am_ldA 30 L st g 0) := am_E_aload_n (by decide +kernel : am_dc 289 29 = some (.aload_n 0)) rfl rfl
theorem x_289_30   : am_E d 289 Q (30, L, st, g) ↔ am_K d 289 Q (am_ldI 31 L st g 1) := am_E_iload_n (by decide +kernel : am_dc 289 30 = some (.iload_n 1)) rfl rfl
theorem x_289_31   : am_E d 289 Q (31, L, st, g) ↔ am_K d 289 Q (am_ldI 32 L st g 2) := am_E_iload_n (by decide +kernel : am_dc 289 31 = some (.iload_n 2)) rfl rfl
theorem x_289_32   : am_E d 289 Q (32, L, st, g) ↔ am_K d 289 Q (am_ldI 33 L st g 3) := am_E_iload_n (by decide +kernel : am_dc 289 32 = some (.iload_n 3)) rfl rfl
theorem x_289_33  : am_E d 289 Q (33, L, st, g) ↔ am_K d 289 Q (am_S 289 (.invokestatic 95) 33 L st g) := am_E_x (by decide +kernel : am_dc 289 33 = some (.invokestatic 95))
theorem x_289_36  : am_E d 289 Q (36, L, [.int x], g) ↔ if am_ok (FieldType.int) (.int x) = true then Q (.inl (some (.int x))) g else False := am_E_ireturn (by decide +kernel : am_dc 289 36 = some (.ireturn)) (by decide +kernel)
theorem v_289_88 : am_iv 289 88 = some (0, 288, 1) := by decide +kernel
theorem v_289_92 : am_iv 289 92 = some (0, 268, 2) := by decide +kernel
theorem v_289_38 : am_iv 289 38 = some (0, 269, 2) := by decide +kernel
theorem v_289_95 : am_iv 289 95 = some (0, 290, 4) := by decide +kernel
theorem t_289 : am_t 289 = some (FieldType.int) := by decide +kernel
theorem h_289 : am_h 289 = [] := by decide +kernel
theorem m_289 : am_m 289 = 4 := by decide +kernel
theorem x_290_0   : am_E d 290 Q (0, L, st, g) ↔ am_K d 290 Q (am_ldI 1 L st g 1) := am_E_iload_n (by decide +kernel : am_dc 290 0 = some (.iload_n 1)) rfl rfl
theorem x_290_1   : am_E d 290 Q (1, L, .int x :: st, g) ↔ am_E d 290 Q (2, L, .int x.toInt8.toInt32 :: st, g) := am_E_i2b (by decide +kernel : am_dc 290 1 = some (.i2b)) rfl
theorem x_290_2   : am_E d 290 Q (2, L, st, g) ↔ am_K d 290 Q (am_stI 4 L st g 4) := am_E_istore (by decide +kernel : am_dc 290 2 = some (.istore 4)) rfl
theorem x_290_4   : am_E d 290 Q (4, L, st, g) ↔ am_K d 290 Q (am_ldI 5 L st g 2) := am_E_iload_n (by decide +kernel : am_dc 290 4 = some (.iload_n 2)) rfl rfl
theorem x_290_5   : am_E d 290 Q (5, L, st, g) ↔ am_K d 290 Q (am_stI 7 L st g 5) := am_E_istore (by decide +kernel : am_dc 290 5 = some (.istore 5)) rfl
theorem x_290_7   : am_E d 290 Q (7, L, st, g) ↔ am_K d 290 Q (am_ldI 9 L st g 5) := am_E_iload (by decide +kernel : am_dc 290 7 = some (.iload 5)) rfl
theorem x_290_9   : am_E d 290 Q (9, L, st, g) ↔ am_K d 290 Q (am_ldI 10 L st g 3) := am_E_iload_n (by decide +kernel : am_dc 290 9 = some (.iload_n 3)) rfl rfl
theorem x_290_10   : am_E d 290 Q (10, L, .int y :: .int x :: st, g) ↔ am_E d 290 Q (am_cmp .ge x y 31 13, L, st, g) := am_E_ic (by decide +kernel : am_dc 290 10 = some (.if_icmp .ge (21))) rfl rfl
theorem x_290_13   : am_E d 290 Q (13, L, st, g) ↔ am_K d 290 Q (am_ldA 14 L st g 0) := am_E_aload_n (by decide +kernel : am_dc 290 13 = some (.aload_n 0)) rfl rfl
theorem x_290_14   : am_E d 290 Q (14, L, st, g) ↔ am_K d 290 Q (am_ldI 16 L st g 5) := am_E_iload (by decide +kernel : am_dc 290 14 = some (.iload 5)) rfl
theorem x_290_16   : am_E d 290 Q (16, L, .int x :: .ref a :: st, g) ↔ am_kv d 290 Q 17 L st g (am_iat .baload g a x) := am_E_baload (by decide +kernel : am_dc 290 16 = some (.baload)) rfl
theorem x_290_17   : am_E d 290 Q (17, L, st, g) ↔ am_K d 290 Q (am_ldI 19 L st g 4) := am_E_iload (by decide +kernel : am_dc 290 17 = some (.iload 4)) rfl
theorem x_290_19   : am_E d 290 Q (19, L, .int y :: .int x :: st, g) ↔ am_E d 290 Q (am_cmp .ne x y 25 22, L, st, g) := am_E_ic (by decide +kernel : am_dc 290 19 = some (.if_icmp .ne (6))) rfl rfl
theorem x_290_22   : am_E d 290 Q (22, L, st, g) ↔ am_K d 290 Q (am_ldI 24 L st g 5) := am_E_iload (by decide +kernel : am_dc 290 22 = some (.iload 5)) rfl
theorem x_290_24  : am_E d 290 Q (24, L, [.int x], g) ↔ if am_ok (FieldType.int) (.int x) = true then Q (.inl (some (.int x))) g else False := am_E_ireturn (by decide +kernel : am_dc 290 24 = some (.ireturn)) (by decide +kernel)
theorem x_290_25   (hk : L.getD 5 none = some (.int x)) (hl : 5 < L.length) : am_E d 290 Q (25, L, st, g) ↔ am_E d 290 Q (28, am_s1 L 5 (.int (x + (1))), st, g) := am_E_iinc (by decide +kernel : am_dc 290 25 = some (.iinc 5 (1))) (by decide) rfl hk hl
theorem x_290_28   : am_E d 290 Q (28, L, st, g) ↔ am_E d 290 Q (7, L, st, g) := am_E_gt (by decide +kernel : am_dc 290 28 = some (.goto (-21))) rfl rfl
theorem x_290_31   : am_E d 290 Q (31, L, st, g) ↔ am_E d 290 Q (32, L, .int (-1) :: st, g) := am_E_iconst (by decide +kernel : am_dc 290 31 = some (.iconst (-1))) (by decide) rfl
theorem x_290_32  : am_E d 290 Q (32, L, [.int x], g) ↔ if am_ok (FieldType.int) (.int x) = true then Q (.inl (some (.int x))) g else False := am_E_ireturn (by decide +kernel : am_dc 290 32 = some (.ireturn)) (by decide +kernel)
theorem t_290 : am_t 290 = some (FieldType.int) := by decide +kernel
theorem h_290 : am_h 290 = [] := by decide +kernel
theorem m_290 : am_m 290 = 6 := by decide +kernel
theorem x_311_0   : am_E d 311 Q (0, L, st, g) ↔ am_E d 311 Q (1, L, .int (0) :: st, g) := am_E_iconst (by decide +kernel : am_dc 311 0 = some (.iconst (0))) (by decide) rfl
theorem x_311_1   : am_E d 311 Q (1, L, st, g) ↔ am_K d 311 Q (am_stI 2 L st g 2) := am_E_istore_n (by decide +kernel : am_dc 311 1 = some (.istore_n 2)) rfl rfl
theorem x_311_2   : am_E d 311 Q (2, L, st, g) ↔ am_K d 311 Q (am_ldA 3 L st g 0) := am_E_aload_n (by decide +kernel : am_dc 311 2 = some (.aload_n 0)) rfl rfl
theorem x_311_3   : am_E d 311 Q (3, L, .ref a :: st, g) ↔ am_kv d 311 Q 4 L st g ((am_sz g a).map fun n => .int (Int32.ofNat n)) := am_E_alen (by decide +kernel : am_dc 311 3 = some (.arraylength)) rfl
theorem x_311_4   : am_E d 311 Q (4, L, st, g) ↔ am_K d 311 Q (am_stI 5 L st g 3) := am_E_istore_n (by decide +kernel : am_dc 311 4 = some (.istore_n 3)) rfl rfl
theorem x_311_5   : am_E d 311 Q (5, L, st, g) ↔ am_K d 311 Q (am_ldI 6 L st g 2) := am_E_iload_n (by decide +kernel : am_dc 311 5 = some (.iload_n 2)) rfl rfl
theorem x_311_6   : am_E d 311 Q (6, L, st, g) ↔ am_K d 311 Q (am_ldI 7 L st g 3) := am_E_iload_n (by decide +kernel : am_dc 311 6 = some (.iload_n 3)) rfl rfl
theorem x_311_7   : am_E d 311 Q (7, L, .int y :: .int x :: st, g) ↔ am_E d 311 Q (am_cmp .ge x y 20 10, L, st, g) := am_E_ic (by decide +kernel : am_dc 311 7 = some (.if_icmp .ge (13))) rfl rfl
theorem x_311_10   : am_E d 311 Q (10, L, st, g) ↔ am_K d 311 Q (am_ldA 11 L st g 0) := am_E_aload_n (by decide +kernel : am_dc 311 10 = some (.aload_n 0)) rfl rfl
theorem x_311_11   : am_E d 311 Q (11, L, st, g) ↔ am_K d 311 Q (am_ldI 12 L st g 2) := am_E_iload_n (by decide +kernel : am_dc 311 11 = some (.iload_n 2)) rfl rfl
theorem x_311_12   : am_E d 311 Q (12, L, st, g) ↔ am_K d 311 Q (am_ldI 13 L st g 1) := am_E_iload_n (by decide +kernel : am_dc 311 12 = some (.iload_n 1)) rfl rfl
theorem x_311_13   : am_E d 311 Q (13, L, v :: .int x :: .ref a :: st, g) ↔ am_kg d 311 Q 14 L st (am_sat .iastore g a x v) := am_E_iastore (by decide +kernel : am_dc 311 13 = some (.iastore)) rfl
theorem x_311_14   (hk : L.getD 2 none = some (.int x)) (hl : 2 < L.length) : am_E d 311 Q (14, L, st, g) ↔ am_E d 311 Q (17, am_s1 L 2 (.int (x + (1))), st, g) := am_E_iinc (by decide +kernel : am_dc 311 14 = some (.iinc 2 (1))) (by decide) rfl hk hl
theorem x_311_17   : am_E d 311 Q (17, L, st, g) ↔ am_E d 311 Q (5, L, st, g) := am_E_gt (by decide +kernel : am_dc 311 17 = some (.goto (-12))) rfl rfl
theorem x_311_20  : am_E d 311 Q (20, L, [], g) ↔ Q (.inl none) g := am_E_return (by decide +kernel : am_dc 311 20 = some (.return_)) (by decide +kernel)
theorem t_311 : am_t 311 = none := by decide +kernel
theorem h_311 : am_h 311 = [] := by decide +kernel
theorem m_311 : am_m 311 = 4 := by decide +kernel
theorem x_317_0   : am_E d 317 Q (0, L, st, g) ↔ am_K d 317 Q (am_ldI 1 L st g 0) := am_E_iload_n (by decide +kernel : am_dc 317 0 = some (.iload_n 0)) rfl rfl
theorem x_317_1   : am_E d 317 Q (1, L, .int x :: st, g) ↔ am_E d 317 Q (am_cmp .lt x 0 9 4, L, st, g) := am_E_if (by decide +kernel : am_dc 317 1 = some (.ifCond .lt (8))) rfl rfl
theorem x_317_4   : am_E d 317 Q (4, L, st, g) ↔ am_K d 317 Q (am_ldI 5 L st g 0) := am_E_iload_n (by decide +kernel : am_dc 317 4 = some (.iload_n 0)) rfl rfl
theorem x_317_5   : am_E d 317 Q (5, L, st, g) ↔ am_K d 317 Q (am_ldI 6 L st g 1) := am_E_iload_n (by decide +kernel : am_dc 317 5 = some (.iload_n 1)) rfl rfl
theorem x_317_6   : am_E d 317 Q (6, L, .int y :: .int x :: st, g) ↔ am_E d 317 Q (am_cmp .lt x y 16 9, L, st, g) := am_E_ic (by decide +kernel : am_dc 317 6 = some (.if_icmp .lt (10))) rfl rfl
theorem x_317_9   : am_E d 317 Q (9, L, st, g) ↔ am_K d 317 Q (am_ldA 10 L st g 2) := am_E_aload_n (by decide +kernel : am_dc 317 9 = some (.aload_n 2)) rfl rfl
theorem x_317_10   : am_E d 317 Q (10, L, st, g) ↔ am_K d 317 Q (am_ldI 11 L st g 0) := am_E_iload_n (by decide +kernel : am_dc 317 10 = some (.iload_n 0)) rfl rfl
theorem x_317_11   : am_E d 317 Q (11, L, st, g) ↔ am_K d 317 Q (am_ldI 12 L st g 1) := am_E_iload_n (by decide +kernel : am_dc 317 11 = some (.iload_n 1)) rfl rfl
theorem x_317_12  : am_E d 317 Q (12, L, st, g) ↔ am_K d 317 Q (am_S 317 (.invokestatic 95) 12 L st g) := am_E_x (by decide +kernel : am_dc 317 12 = some (.invokestatic 95))
theorem x_317_16   : am_E d 317 Q (16, L, st, g) ↔ am_K d 317 Q (am_ldI 17 L st g 0) := am_E_iload_n (by decide +kernel : am_dc 317 16 = some (.iload_n 0)) rfl rfl
theorem x_317_17  : am_E d 317 Q (17, L, [.int x], g) ↔ if am_ok (FieldType.int) (.int x) = true then Q (.inl (some (.int x))) g else False := am_E_ireturn (by decide +kernel : am_dc 317 17 = some (.ireturn)) (by decide +kernel)
theorem t_317 : am_t 317 = some (FieldType.int) := by decide +kernel
theorem h_317 : am_h 317 = [] := by decide +kernel
theorem m_317 : am_m 317 = 3 := by decide +kernel
end AMZ
