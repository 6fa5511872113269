/-! Rules of the machine, an instruction each. Written by program (wip/gen/genx.py). -/
section AMZ
variable {d : Nat} {Q : am_Ou → am_G → Prop} {L : am_Lo} {st : List Value} {g : am_G} {x y : Int32} {u w : Int64} {e1 : UInt32} {a : Nat} {v v1 : Value}
theorem x_223_0   : am_E d 223 Q (0, L, st, g) ↔ am_K d 223 Q (am_ldA 1 L st g 0) := am_E_aload_n (by decide +kernel : am_dc 223 0 = some (.aload_n 0)) rfl rfl
theorem x_223_1   : am_E d 223 Q (1, L, st, g) ↔ am_K d 223 Q (am_ldI 2 L st g 1) := am_E_iload_n (by decide +kernel : am_dc 223 1 = some (.iload_n 1)) rfl rfl
theorem x_223_2   : am_E d 223 Q (2, L, .int x :: st, g) ↔ am_E d 223 Q (am_cmp .ne x 0 16 5, L, st, g) := am_E_if (by decide +kernel : am_dc 223 2 = some (.ifCond .ne (14))) rfl rfl
theorem x_223_5   : am_E d 223 Q (5, L, st, g) ↔ am_K d 223 Q (am_ldL 6 L st g 2) := am_E_lload_n (by decide +kernel : am_dc 223 5 = some (.lload_n 2)) rfl rfl
theorem x_223_6  : am_E d 223 Q (6, L, st, g) ↔ am_K d 223 Q (am_S 223 (.invokestatic 301) 6 L st g) := am_E_x (by decide +kernel : am_dc 223 6 = some (.invokestatic 301))
theorem x_223_9   : am_E d 223 Q (9, L, .int x :: st, g) ↔ am_E d 223 Q (am_cmp .ne x 0 16 12, L, st, g) := am_E_if (by decide +kernel : am_dc 223 9 = some (.ifCond .ne (7))) rfl rfl
theorem x_223_12   : am_E d 223 Q (12, L, st, g) ↔ am_E d 223 Q (13, L, .int (3) :: st, g) := am_E_iconst (by decide +kernel : am_dc 223 12 = some (.iconst (3))) (by decide) rfl
theorem x_223_13   : am_E d 223 Q (13, L, st, g) ↔ am_E d 223 Q (17, L, st, g) := am_E_gt (by decide +kernel : am_dc 223 13 = some (.goto (4))) rfl rfl
theorem x_223_16   : am_E d 223 Q (16, L, st, g) ↔ am_K d 223 Q (am_ldI 17 L st g 1) := am_E_iload_n (by decide +kernel : am_dc 223 16 = some (.iload_n 1)) rfl rfl
theorem x_223_17   (hok : (am_ok (am_ft 11 62).1 v && (!(am_ft 11 62).2 || (am_ini 223 && am_co 11 == am_o 223)) && decide (11 < 13)) = true) : am_E d 223 Q (17, L, v :: .ref a :: st, g) ↔ am_kg d 223 Q 20 L st (am_pf g a 11 62 v) := am_E_putfield (by decide +kernel : am_dc 223 17 = some (.putfield 305)) (by decide +kernel) rfl hok
theorem x_223_20   : am_E d 223 Q (20, L, st, g) ↔ am_K d 223 Q (am_ldA 21 L st g 0) := am_E_aload_n (by decide +kernel : am_dc 223 20 = some (.aload_n 0)) rfl rfl
theorem x_223_21   : am_E d 223 Q (21, L, st, g) ↔ am_K d 223 Q (am_ldA 22 L st g 0) := am_E_aload_n (by decide +kernel : am_dc 223 21 = some (.aload_n 0)) rfl rfl
theorem x_223_22   : am_E d 223 Q (22, L, .ref a :: st, g) ↔ am_kv d 223 Q 25 L st g (am_gf g a 11 62) := am_E_getfield (by decide +kernel : am_dc 223 22 = some (.getfield 305)) (by decide +kernel) rfl
theorem x_223_25   : am_E d 223 Q (25, L, .int x :: st, g) ↔ am_E d 223 Q (am_cmp .ne x 0 32 28, L, st, g) := am_E_if (by decide +kernel : am_dc 223 25 = some (.ifCond .ne (7))) rfl rfl
theorem x_223_28   : am_E d 223 Q (28, L, st, g) ↔ am_K d 223 Q (am_ldL 29 L st g 2) := am_E_lload_n (by decide +kernel : am_dc 223 28 = some (.lload_n 2)) rfl rfl
theorem x_223_29   : am_E d 223 Q (29, L, st, g) ↔ am_E d 223 Q (33, L, st, g) := am_E_gt (by decide +kernel : am_dc 223 29 = some (.goto (4))) rfl rfl
theorem x_223_32   : am_E d 223 Q (32, L, st, g) ↔ am_E d 223 Q (33, L, .long (0) :: st, g) := am_E_lconst (by decide +kernel : am_dc 223 32 = some (.lconst 0)) (by decide) rfl
theorem x_223_33   (hok : (am_ok (am_ft 11 63).1 v && (!(am_ft 11 63).2 || (am_ini 223 && am_co 11 == am_o 223)) && decide (11 < 13)) = true) : am_E d 223 Q (33, L, v :: .ref a :: st, g) ↔ am_kg d 223 Q 36 L st (am_pf g a 11 63 v) := am_E_putfield (by decide +kernel : am_dc 223 33 = some (.putfield 308)) (by decide +kernel) rfl hok
theorem x_223_36  : am_E d 223 Q (36, L, [], g) ↔ Q (.inl none) g := am_E_return (by decide +kernel : am_dc 223 36 = some (.return_)) (by decide +kernel)
theorem v_223_301 : am_iv 223 301 = some (0, 197, 1) := by decide +kernel
theorem f_223_305 : am_fl 223 305 = some (11, 62) := by decide +kernel
theorem f_223_308 : am_fl 223 308 = some (11, 63) := by decide +kernel
theorem t_223 : am_t 223 = none := by decide +kernel
theorem h_223 : am_h 223 = [] := by decide +kernel
theorem m_223 : am_m 223 = 4 := by decide +kernel
theorem x_224_0   : am_E d 224 Q (0, L, st, g) ↔ am_K d 224 Q (am_ldL 1 L st g 0) := am_E_lload_n (by decide +kernel : am_dc 224 0 = some (.lload_n 0)) rfl rfl
theorem x_224_1   : am_E d 224 Q (1, L, st, g) ↔ am_E d 224 Q (2, L, .long (0) :: st, g) := am_E_lconst (by decide +kernel : am_dc 224 1 = some (.lconst 0)) (by decide) rfl
theorem x_224_2   : am_E d 224 Q (2, L, .long w :: .long u :: st, g) ↔ am_E d 224 Q (3, L, .int (lg_cmp u w) :: st, g) := am_E_lcmp (by decide +kernel : am_dc 224 2 = some (.lcmp)) rfl
theorem x_224_3   : am_E d 224 Q (3, L, .int x :: st, g) ↔ am_E d 224 Q (am_cmp .ge x 0 12 6, L, st, g) := am_E_if (by decide +kernel : am_dc 224 3 = some (.ifCond .ge (9))) rfl rfl
theorem x_224_6   : am_E d 224 Q (6, L, st, g) ↔ am_E d 224 Q (7, L, .long (0) :: st, g) := am_E_lconst (by decide +kernel : am_dc 224 6 = some (.lconst 0)) (by decide) rfl
theorem x_224_7   : am_E d 224 Q (7, L, st, g) ↔ am_K d 224 Q (am_ldL 8 L st g 0) := am_E_lload_n (by decide +kernel : am_dc 224 7 = some (.lload_n 0)) rfl rfl
theorem x_224_8   : am_E d 224 Q (8, L, .long w :: .long u :: st, g) ↔ am_E d 224 Q (9, L, .long (u - w) :: st, g) := am_E_lsub (by decide +kernel : am_dc 224 8 = some (.lsub)) rfl
theorem x_224_9   : am_E d 224 Q (9, L, st, g) ↔ am_E d 224 Q (13, L, st, g) := am_E_gt (by decide +kernel : am_dc 224 9 = some (.goto (4))) rfl rfl
theorem x_224_12   : am_E d 224 Q (12, L, st, g) ↔ am_K d 224 Q (am_ldL 13 L st g 0) := am_E_lload_n (by decide +kernel : am_dc 224 12 = some (.lload_n 0)) rfl rfl
theorem x_224_13   : am_E d 224 Q (13, L, st, g) ↔ am_K d 224 Q (am_stL 15 L st g 4) := am_E_lstore (by decide +kernel : am_dc 224 13 = some (.lstore 4)) rfl
theorem x_224_15   : am_E d 224 Q (15, L, st, g) ↔ am_K d 224 Q (am_ldL 16 L st g 2) := am_E_lload_n (by decide +kernel : am_dc 224 15 = some (.lload_n 2)) rfl rfl
theorem x_224_16   : am_E d 224 Q (16, L, st, g) ↔ am_E d 224 Q (17, L, .long (0) :: st, g) := am_E_lconst (by decide +kernel : am_dc 224 16 = some (.lconst 0)) (by decide) rfl
theorem x_224_17   : am_E d 224 Q (17, L, .long w :: .long u :: st, g) ↔ am_E d 224 Q (18, L, .int (lg_cmp u w) :: st, g) := am_E_lcmp (by decide +kernel : am_dc 224 17 = some (.lcmp)) rfl
theorem x_224_18   : am_E d 224 Q (18, L, .int x :: st, g) ↔ am_E d 224 Q (am_cmp .ge x 0 27 21, L, st, g) := am_E_if (by decide +kernel : am_dc 224 18 = some (.ifCond .ge (9))) rfl rfl
theorem x_224_21   : am_E d 224 Q (21, L, st, g) ↔ am_E d 224 Q (22, L, .long (0) :: st, g) := am_E_lconst (by decide +kernel : am_dc 224 21 = some (.lconst 0)) (by decide) rfl
theorem x_224_22   : am_E d 224 Q (22, L, st, g) ↔ am_K d 224 Q (am_ldL 23 L st g 2) := am_E_lload_n (by decide +kernel : am_dc 224 22 = some (.lload_n 2)) rfl rfl
theorem x_224_23   : am_E d 224 Q (23, L, .long w :: .long u :: st, g) ↔ am_E d 224 Q (24, L, .long (u - w) :: st, g) := am_E_lsub (by decide +kernel : am_dc 224 23 = some (.lsub)) rfl
theorem x_224_24   : am_E d 224 Q (24, L, st, g) ↔ am_E d 224 Q (28, L, st, g) := am_E_gt (by decide +kernel : am_dc 224 24 = some (.goto (4))) rfl rfl
theorem x_224_27   : am_E d 224 Q (27, L, st, g) ↔ am_K d 224 Q (am_ldL 28 L st g 2) := am_E_lload_n (by decide +kernel : am_dc 224 27 = some (.lload_n 2)) rfl rfl
theorem x_224_28   : am_E d 224 Q (28, L, st, g) ↔ am_K d 224 Q (am_stL 30 L st g 6) := am_E_lstore (by decide +kernel : am_dc 224 28 = some (.lstore 6)) rfl
theorem x_224_30  : am_E d 224 Q (30, L, st, g) ↔ am_K d 224 Q (am_S 224 (.ldc2_w 299) 30 L st g) := am_E_x (by decide +kernel : am_dc 224 30 = some (.ldc2_w 299))
theorem x_224_33   : am_E d 224 Q (33, L, st, g) ↔ am_K d 224 Q (am_ldL 35 L st g 4) := am_E_lload (by decide +kernel : am_dc 224 33 = some (.lload 4)) rfl
theorem x_224_35   : am_E d 224 Q (35, L, .long w :: .long u :: st, g) ↔ am_E d 224 Q (36, L, .long (u * w) :: st, g) := am_E_lmul (by decide +kernel : am_dc 224 35 = some (.lmul)) rfl
theorem x_224_36   : am_E d 224 Q (36, L, st, g) ↔ am_K d 224 Q (am_ldL 38 L st g 6) := am_E_lload (by decide +kernel : am_dc 224 36 = some (.lload 6)) rfl
theorem x_224_38   : am_E d 224 Q (38, L, .long w :: .long u :: st, g) ↔ am_E d 224 Q (39, L, .long (u + w) :: st, g) := am_E_ladd (by decide +kernel : am_dc 224 38 = some (.ladd)) rfl
theorem x_224_39  : am_E d 224 Q (39, L, st, g) ↔ am_K d 224 Q (am_S 224 (.ldc2_w 299) 39 L st g) := am_E_x (by decide +kernel : am_dc 224 39 = some (.ldc2_w 299))
theorem x_224_42   : am_E d 224 Q (42, L, st, g) ↔ am_K d 224 Q (am_ldL 44 L st g 6) := am_E_lload (by decide +kernel : am_dc 224 42 = some (.lload 6)) rfl
theorem x_224_44   : am_E d 224 Q (44, L, .long w :: .long u :: st, g) ↔ am_E d 224 Q (45, L, .long (u * w) :: st, g) := am_E_lmul (by decide +kernel : am_dc 224 44 = some (.lmul)) rfl
theorem x_224_45   : am_E d 224 Q (45, L, .long w :: .long u :: st, g) ↔ if w = 0 then False else am_E d 224 Q (46, L, .long (u / w) :: st, g) := am_E_ldiv (by decide +kernel : am_dc 224 45 = some (.ldiv)) rfl
theorem x_224_46   : am_E d 224 Q (46, L, st, g) ↔ am_K d 224 Q (am_stL 48 L st g 8) := am_E_lstore (by decide +kernel : am_dc 224 46 = some (.lstore 8)) rfl
theorem x_224_48   : am_E d 224 Q (48, L, st, g) ↔ am_K d 224 Q (am_ldL 49 L st g 0) := am_E_lload_n (by decide +kernel : am_dc 224 48 = some (.lload_n 0)) rfl rfl
theorem x_224_49   : am_E d 224 Q (49, L, st, g) ↔ am_E d 224 Q (50, L, .long (0) :: st, g) := am_E_lconst (by decide +kernel : am_dc 224 49 = some (.lconst 0)) (by decide) rfl
theorem x_224_50   : am_E d 224 Q (50, L, .long w :: .long u :: st, g) ↔ am_E d 224 Q (51, L, .int (lg_cmp u w) :: st, g) := am_E_lcmp (by decide +kernel : am_dc 224 50 = some (.lcmp)) rfl
theorem x_224_51   : am_E d 224 Q (51, L, .int x :: st, g) ↔ am_E d 224 Q (am_cmp .ge x 0 58 54, L, st, g) := am_E_if (by decide +kernel : am_dc 224 51 = some (.ifCond .ge (7))) rfl rfl
theorem x_224_54   : am_E d 224 Q (54, L, st, g) ↔ am_E d 224 Q (55, L, .int (1) :: st, g) := am_E_iconst (by decide +kernel : am_dc 224 54 = some (.iconst (1))) (by decide) rfl
theorem x_224_55   : am_E d 224 Q (55, L, st, g) ↔ am_E d 224 Q (59, L, st, g) := am_E_gt (by decide +kernel : am_dc 224 55 = some (.goto (4))) rfl rfl
theorem x_224_58   : am_E d 224 Q (58, L, st, g) ↔ am_E d 224 Q (59, L, .int (0) :: st, g) := am_E_iconst (by decide +kernel : am_dc 224 58 = some (.iconst (0))) (by decide) rfl
theorem x_224_59   : am_E d 224 Q (59, L, st, g) ↔ am_K d 224 Q (am_ldL 60 L st g 2) := am_E_lload_n (by decide +kernel : am_dc 224 59 = some (.lload_n 2)) rfl rfl
theorem x_224_60   : am_E d 224 Q (60, L, st, g) ↔ am_E d 224 Q (61, L, .long (0) :: st, g) := am_E_lconst (by decide +kernel : am_dc 224 60 = some (.lconst 0)) (by decide) rfl
theorem x_224_61   : am_E d 224 Q (61, L, .long w :: .long u :: st, g) ↔ am_E d 224 Q (62, L, .int (lg_cmp u w) :: st, g) := am_E_lcmp (by decide +kernel : am_dc 224 61 = some (.lcmp)) rfl
theorem x_224_62   : am_E d 224 Q (62, L, .int x :: st, g) ↔ am_E d 224 Q (am_cmp .ge x 0 69 65, L, st, g) := am_E_if (by decide +kernel : am_dc 224 62 = some (.ifCond .ge (7))) rfl rfl
theorem x_224_65   : am_E d 224 Q (65, L, st, g) ↔ am_E d 224 Q (66, L, .int (1) :: st, g) := am_E_iconst (by decide +kernel : am_dc 224 65 = some (.iconst (1))) (by decide) rfl
theorem x_224_66   : am_E d 224 Q (66, L, st, g) ↔ am_E d 224 Q (70, L, st, g) := am_E_gt (by decide +kernel : am_dc 224 66 = some (.goto (4))) rfl rfl
theorem x_224_69   : am_E d 224 Q (69, L, st, g) ↔ am_E d 224 Q (70, L, .int (0) :: st, g) := am_E_iconst (by decide +kernel : am_dc 224 69 = some (.iconst (0))) (by decide) rfl
theorem x_224_70   : am_E d 224 Q (70, L, .int y :: .int x :: st, g) ↔ am_E d 224 Q (am_cmp .ne x y 78 73, L, st, g) := am_E_ic (by decide +kernel : am_dc 224 70 = some (.if_icmp .ne (8))) rfl rfl
theorem x_224_73   : am_E d 224 Q (73, L, st, g) ↔ am_K d 224 Q (am_ldL 75 L st g 8) := am_E_lload (by decide +kernel : am_dc 224 73 = some (.lload 8)) rfl
theorem x_224_75   : am_E d 224 Q (75, L, st, g) ↔ am_E d 224 Q (82, L, st, g) := am_E_gt (by decide +kernel : am_dc 224 75 = some (.goto (7))) rfl rfl
theorem x_224_78   : am_E d 224 Q (78, L, st, g) ↔ am_E d 224 Q (79, L, .long (0) :: st, g) := am_E_lconst (by decide +kernel : am_dc 224 78 = some (.lconst 0)) (by decide) rfl
theorem x_224_79   : am_E d 224 Q (79, L, st, g) ↔ am_K d 224 Q (am_ldL 81 L st g 8) := am_E_lload (by decide +kernel : am_dc 224 79 = some (.lload 8)) rfl
theorem x_224_81   : am_E d 224 Q (81, L, .long w :: .long u :: st, g) ↔ am_E d 224 Q (82, L, .long (u - w) :: st, g) := am_E_lsub (by decide +kernel : am_dc 224 81 = some (.lsub)) rfl
theorem x_224_82  : am_E d 224 Q (82, L, [.long u], g) ↔ Q (.inl (some (.long u))) g := am_E_lreturn (by decide +kernel : am_dc 224 82 = some (.lreturn)) (by decide +kernel)
theorem k_224_299 : am_cl8 224 299 = some (2) := by decide +kernel
theorem t_224 : am_t 224 = some (FieldType.long) := by decide +kernel
theorem h_224 : am_h 224 = [] := by decide +kernel
theorem m_224 : am_m 224 = 10 := by decide +kernel
theorem x_225_0   : am_E d 225 Q (0, L, st, g) ↔ am_K d 225 Q (am_ldA 1 L st g 0) := am_E_aload_n (by decide +kernel : am_dc 225 0 = some (.aload_n 0)) rfl rfl
theorem x_225_1   : am_E d 225 Q (1, L, st, g) ↔ am_K d 225 Q (am_ldA 2 L st g 0) := am_E_aload_n (by decide +kernel : am_dc 225 1 = some (.aload_n 0)) rfl rfl
theorem x_225_2   : am_E d 225 Q (2, L, .ref a :: st, g) ↔ am_kv d 225 Q 5 L st g (am_gf g a 11 11) := am_E_getfield (by decide +kernel : am_dc 225 2 = some (.getfield 211)) (by decide +kernel) rfl
theorem x_225_5   : am_E d 225 Q (5, L, st, g) ↔ am_E d 225 Q (7, L, .int (8) :: st, g) := am_E_bipush (by decide +kernel : am_dc 225 5 = some (.bipush (8))) (by decide) rfl
theorem x_225_7   : am_E d 225 Q (7, L, .int y :: .int x :: st, g) ↔ am_E d 225 Q (am_cmp .ge x y 14 10, L, st, g) := am_E_ic (by decide +kernel : am_dc 225 7 = some (.if_icmp .ge (7))) rfl rfl
theorem x_225_10   : am_E d 225 Q (10, L, st, g) ↔ am_E d 225 Q (11, L, .int (1) :: st, g) := am_E_iconst (by decide +kernel : am_dc 225 10 = some (.iconst (1))) (by decide) rfl
theorem x_225_11   : am_E d 225 Q (11, L, st, g) ↔ am_E d 225 Q (15, L, st, g) := am_E_gt (by decide +kernel : am_dc 225 11 = some (.goto (4))) rfl rfl
theorem x_225_14   : am_E d 225 Q (14, L, st, g) ↔ am_E d 225 Q (15, L, .int (0) :: st, g) := am_E_iconst (by decide +kernel : am_dc 225 14 = some (.iconst (0))) (by decide) rfl
theorem x_225_15   : am_E d 225 Q (15, L, st, g) ↔ am_E d 225 Q (16, L, .int (1) :: st, g) := am_E_iconst (by decide +kernel : am_dc 225 15 = some (.iconst (1))) (by decide) rfl
theorem x_225_16   : am_E d 225 Q (16, L, st, g) ↔ am_E d 225 Q (17, L, .int (1) :: st, g) := am_E_iconst (by decide +kernel : am_dc 225 16 = some (.iconst (1))) (by decide) rfl
theorem x_225_17  : am_E d 225 Q (17, L, st, g) ↔ am_K d 225 Q (am_S 225 (.invokevirtual 196) 17 L st g) := am_E_x (by decide +kernel : am_dc 225 17 = some (.invokevirtual 196))
theorem x_225_20   : am_E d 225 Q (20, L, .int x :: st, g) ↔ am_E d 225 Q (am_cmp .ne x 0 25 23, L, st, g) := am_E_if (by decide +kernel : am_dc 225 20 = some (.ifCond .ne (5))) rfl rfl
theorem x_225_23   : am_E d 225 Q (23, L, st, g) ↔ am_E d 225 Q (24, L, .int (0) :: st, g) := am_E_iconst (by decide +kernel : am_dc 225 23 = some (.iconst (0))) (by decide) rfl
theorem x_225_24  : am_E d 225 Q (24, L, [.int x], g) ↔ if am_ok (FieldType.int) (.int x) = true then Q (.inl (some (.int x))) g else False := am_E_ireturn (by decide +kernel : am_dc 225 24 = some (.ireturn)) (by decide +kernel)
theorem x_225_25   : am_E d 225 Q (25, L, st, g) ↔ am_K d 225 Q (am_ldA 26 L st g 0) := am_E_aload_n (by decide +kernel : am_dc 225 25 = some (.aload_n 0)) rfl rfl
theorem x_225_26  : am_E d 225 Q (26, L, st, g) ↔ am_K d 225 Q (am_S 225 (.invokevirtual 286) 26 L st g) := am_E_x (by decide +kernel : am_dc 225 26 = some (.invokevirtual 286))
theorem x_225_29   : am_E d 225 Q (29, L, st, g) ↔ am_K d 225 Q (am_stI 30 L st g 1) := am_E_istore_n (by decide +kernel : am_dc 225 29 = some (.istore_n 1)) rfl rfl
theorem x_225_30   : am_E d 225 Q (30, L, st, g) ↔ am_E d 225 Q (31, L, .int (0) :: st, g) := am_E_iconst (by decide +kernel : am_dc 225 30 = some (.iconst (0))) (by decide) rfl
theorem x_225_31   : am_E d 225 Q (31, L, st, g) ↔ am_K d 225 Q (am_stI 32 L st g 2) := am_E_istore_n (by decide +kernel : am_dc 225 31 = some (.istore_n 2)) rfl rfl
theorem x_225_32   : am_E d 225 Q (32, L, st, g) ↔ am_K d 225 Q (am_ldI 33 L st g 2) := am_E_iload_n (by decide +kernel : am_dc 225 32 = some (.iload_n 2)) rfl rfl
theorem x_225_33   : am_E d 225 Q (33, L, st, g) ↔ am_E d 225 Q (34, L, .int (3) :: st, g) := am_E_iconst (by decide +kernel : am_dc 225 33 = some (.iconst (3))) (by decide) rfl
theorem x_225_34   : am_E d 225 Q (34, L, .int y :: .int x :: st, g) ↔ am_E d 225 Q (am_cmp .ge x y 88 37, L, st, g) := am_E_ic (by decide +kernel : am_dc 225 34 = some (.if_icmp .ge (54))) rfl rfl
theorem x_225_37   : am_E d 225 Q (37, L, st, g) ↔ am_K d 225 Q (am_ldA 38 L st g 0) := am_E_aload_n (by decide +kernel : am_dc 225 37 = some (.aload_n 0)) rfl rfl
theorem x_225_38   : am_E d 225 Q (38, L, .ref a :: st, g) ↔ am_kv d 225 Q 41 L st g (am_gf g a 11 12) := am_E_getfield (by decide +kernel : am_dc 225 38 = some (.getfield 42)) (by decide +kernel) rfl
theorem x_225_41   : am_E d 225 Q (41, L, st, g) ↔ am_E d 225 Q (42, L, .int (3) :: st, g) := am_E_iconst (by decide +kernel : am_dc 225 41 = some (.iconst (3))) (by decide) rfl
theorem x_225_42   : am_E d 225 Q (42, L, st, g) ↔ am_K d 225 Q (am_ldA 43 L st g 0) := am_E_aload_n (by decide +kernel : am_dc 225 42 = some (.aload_n 0)) rfl rfl
theorem x_225_43   : am_E d 225 Q (43, L, .ref a :: st, g) ↔ am_kv d 225 Q 46 L st g (am_gf g a 11 11) := am_E_getfield (by decide +kernel : am_dc 225 43 = some (.getfield 211)) (by decide +kernel) rfl
theorem x_225_46   : am_E d 225 Q (46, L, .int y :: .int x :: st, g) ↔ am_E d 225 Q (47, L, .int (x * y) :: st, g) := am_E_imul (by decide +kernel : am_dc 225 46 = some (.imul)) rfl
theorem x_225_47   : am_E d 225 Q (47, L, st, g) ↔ am_K d 225 Q (am_ldI 48 L st g 2) := am_E_iload_n (by decide +kernel : am_dc 225 47 = some (.iload_n 2)) rfl rfl
theorem x_225_48   : am_E d 225 Q (48, L, .int y :: .int x :: st, g) ↔ am_E d 225 Q (49, L, .int (x + y) :: st, g) := am_E_iadd (by decide +kernel : am_dc 225 48 = some (.iadd)) rfl
theorem x_225_49   : am_E d 225 Q (49, L, st, g) ↔ am_K d 225 Q (am_ldA 50 L st g 0) := am_E_aload_n (by decide +kernel : am_dc 225 49 = some (.aload_n 0)) rfl rfl
theorem x_225_50   : am_E d 225 Q (50, L, .ref a :: st, g) ↔ am_kv d 225 Q 53 L st g (am_gf g a 11 21) := am_E_getfield (by decide +kernel : am_dc 225 50 = some (.getfield 69)) (by decide +kernel) rfl
theorem x_225_53   : am_E d 225 Q (53, L, st, g) ↔ am_K d 225 Q (am_ldI 54 L st g 2) := am_E_iload_n (by decide +kernel : am_dc 225 53 = some (.iload_n 2)) rfl rfl
theorem x_225_54   : am_E d 225 Q (54, L, .int x :: .ref a :: st, g) ↔ am_kv d 225 Q 55 L st g (am_iat .iaload g a x) := am_E_iaload (by decide +kernel : am_dc 225 54 = some (.iaload)) rfl
theorem x_225_55   : am_E d 225 Q (55, L, v :: .int x :: .ref a :: st, g) ↔ am_kg d 225 Q 56 L st (am_sat .iastore g a x v) := am_E_iastore (by decide +kernel : am_dc 225 55 = some (.iastore)) rfl
theorem x_225_56   : am_E d 225 Q (56, L, st, g) ↔ am_K d 225 Q (am_ldA 57 L st g 0) := am_E_aload_n (by decide +kernel : am_dc 225 56 = some (.aload_n 0)) rfl rfl
theorem x_225_57   : am_E d 225 Q (57, L, .ref a :: st, g) ↔ am_kv d 225 Q 60 L st g (am_gf g a 11 13) := am_E_getfield (by decide +kernel : am_dc 225 57 = some (.getfield 45)) (by decide +kernel) rfl
theorem x_225_60   : am_E d 225 Q (60, L, st, g) ↔ am_E d 225 Q (61, L, .int (3) :: st, g) := am_E_iconst (by decide +kernel : am_dc 225 60 = some (.iconst (3))) (by decide) rfl
theorem x_225_61   : am_E d 225 Q (61, L, st, g) ↔ am_K d 225 Q (am_ldA 62 L st g 0) := am_E_aload_n (by decide +kernel : am_dc 225 61 = some (.aload_n 0)) rfl rfl
theorem x_225_62   : am_E d 225 Q (62, L, .ref a :: st, g) ↔ am_kv d 225 Q 65 L st g (am_gf g a 11 11) := am_E_getfield (by decide +kernel : am_dc 225 62 = some (.getfield 211)) (by decide +kernel) rfl
theorem x_225_65   : am_E d 225 Q (65, L, .int y :: .int x :: st, g) ↔ am_E d 225 Q (66, L, .int (x * y) :: st, g) := am_E_imul (by decide +kernel : am_dc 225 65 = some (.imul)) rfl
theorem x_225_66   : am_E d 225 Q (66, L, st, g) ↔ am_K d 225 Q (am_ldI 67 L st g 2) := am_E_iload_n (by decide +kernel : am_dc 225 66 = some (.iload_n 2)) rfl rfl
theorem x_225_67   : am_E d 225 Q (67, L, .int y :: .int x :: st, g) ↔ am_E d 225 Q (68, L, .int (x + y) :: st, g) := am_E_iadd (by decide +kernel : am_dc 225 67 = some (.iadd)) rfl
theorem x_225_68   : am_E d 225 Q (68, L, st, g) ↔ am_K d 225 Q (am_ldA 69 L st g 0) := am_E_aload_n (by decide +kernel : am_dc 225 68 = some (.aload_n 0)) rfl rfl
theorem x_225_69   : am_E d 225 Q (69, L, .ref a :: st, g) ↔ am_kv d 225 Q 72 L st g (am_gf g a 11 22) := am_E_getfield (by decide +kernel : am_dc 225 69 = some (.getfield 72)) (by decide +kernel) rfl
theorem x_225_72   : am_E d 225 Q (72, L, st, g) ↔ am_K d 225 Q (am_ldI 73 L st g 2) := am_E_iload_n (by decide +kernel : am_dc 225 72 = some (.iload_n 2)) rfl rfl
theorem x_225_73   : am_E d 225 Q (73, L, .int x :: .ref a :: st, g) ↔ am_kv d 225 Q 74 L st g (am_iat .iaload g a x) := am_E_iaload (by decide +kernel : am_dc 225 73 = some (.iaload)) rfl
theorem x_225_74   : am_E d 225 Q (74, L, v :: .int x :: .ref a :: st, g) ↔ am_kg d 225 Q 75 L st (am_sat .iastore g a x v) := am_E_iastore (by decide +kernel : am_dc 225 74 = some (.iastore)) rfl
theorem x_225_75   : am_E d 225 Q (75, L, st, g) ↔ am_K d 225 Q (am_ldA 76 L st g 0) := am_E_aload_n (by decide +kernel : am_dc 225 75 = some (.aload_n 0)) rfl rfl
theorem x_225_76   : am_E d 225 Q (76, L, .ref a :: st, g) ↔ am_kv d 225 Q 79 L st g (am_gf g a 11 21) := am_E_getfield (by decide +kernel : am_dc 225 76 = some (.getfield 69)) (by decide +kernel) rfl
theorem x_225_79   : am_E d 225 Q (79, L, st, g) ↔ am_K d 225 Q (am_ldI 80 L st g 2) := am_E_iload_n (by decide +kernel : am_dc 225 79 = some (.iload_n 2)) rfl rfl
theorem x_225_80   : am_E d 225 Q (80, L, st, g) ↔ am_E d 225 Q (81, L, .int (0) :: st, g) := am_E_iconst (by decide +kernel : am_dc 225 80 = some (.iconst (0))) (by decide) rfl
theorem x_225_81   : am_E d 225 Q (81, L, v :: .int x :: .ref a :: st, g) ↔ am_kg d 225 Q 82 L st (am_sat .iastore g a x v) := am_E_iastore (by decide +kernel : am_dc 225 81 = some (.iastore)) rfl
theorem x_225_82   (hk : L.getD 2 none = some (.int x)) (hl : 2 < L.length) : am_E d 225 Q (82, L, st, g) ↔ am_E d 225 Q (85, am_s1 L 2 (.int (x + (1))), st, g) := am_E_iinc (by decide +kernel : am_dc 225 82 = some (.iinc 2 (1))) (by decide) rfl hk hl
theorem x_225_85   : am_E d 225 Q (85, L, st, g) ↔ am_E d 225 Q (32, L, st, g) := am_E_gt (by decide +kernel : am_dc 225 85 = some (.goto (-53))) rfl rfl
theorem x_225_88   : am_E d 225 Q (88, L, st, g) ↔ am_K d 225 Q (am_ldA 89 L st g 0) := am_E_aload_n (by decide +kernel : am_dc 225 88 = some (.aload_n 0)) rfl rfl
theorem x_225_89   : am_E d 225 Q (89, L, st, g) ↔ am_E d 225 Q (90, L, .int (0) :: st, g) := am_E_iconst (by decide +kernel : am_dc 225 89 = some (.iconst (0))) (by decide) rfl
theorem x_225_90   (hok : (am_ok (am_ft 11 23).1 v && (!(am_ft 11 23).2 || (am_ini 225 && am_co 11 == am_o 225)) && decide (11 < 13)) = true) : am_E d 225 Q (90, L, v :: .ref a :: st, g) ↔ am_kg d 225 Q 93 L st (am_pf g a 11 23 v) := am_E_putfield (by decide +kernel : am_dc 225 90 = some (.putfield 230)) (by decide +kernel) rfl hok
theorem x_225_93   : am_E d 225 Q (93, L, st, g) ↔ am_K d 225 Q (am_ldI 94 L st g 1) := am_E_iload_n (by decide +kernel : am_dc 225 93 = some (.iload_n 1)) rfl rfl
theorem x_225_94   : am_E d 225 Q (94, L, .int x :: st, g) ↔ am_E d 225 Q (am_cmp .ge x 0 111 97, L, st, g) := am_E_if (by decide +kernel : am_dc 225 94 = some (.ifCond .ge (17))) rfl rfl
theorem x_225_97   : am_E d 225 Q (97, L, st, g) ↔ am_K d 225 Q (am_ldA 98 L st g 0) := am_E_aload_n (by decide +kernel : am_dc 225 97 = some (.aload_n 0)) rfl rfl
theorem x_225_98   : am_E d 225 Q (98, L, v :: st, g) ↔ if v.category = 1 then am_E d 225 Q (99, L, v :: v :: st, g) else False := am_E_dup (by decide +kernel : am_dc 225 98 = some (.dup)) rfl
theorem x_225_99   : am_E d 225 Q (99, L, .ref a :: st, g) ↔ am_kv d 225 Q 102 L st g (am_gf g a 11 11) := am_E_getfield (by decide +kernel : am_dc 225 99 = some (.getfield 211)) (by decide +kernel) rfl
theorem x_225_102   : am_E d 225 Q (102, L, st, g) ↔ am_E d 225 Q (103, L, .int (1) :: st, g) := am_E_iconst (by decide +kernel : am_dc 225 102 = some (.iconst (1))) (by decide) rfl
theorem x_225_103   : am_E d 225 Q (103, L, .int y :: .int x :: st, g) ↔ am_E d 225 Q (104, L, .int (x + y) :: st, g) := am_E_iadd (by decide +kernel : am_dc 225 103 = some (.iadd)) rfl
theorem x_225_104   (hok : (am_ok (am_ft 11 11).1 v && (!(am_ft 11 11).2 || (am_ini 225 && am_co 11 == am_o 225)) && decide (11 < 13)) = true) : am_E d 225 Q (104, L, v :: .ref a :: st, g) ↔ am_kg d 225 Q 107 L st (am_pf g a 11 11 v) := am_E_putfield (by decide +kernel : am_dc 225 104 = some (.putfield 211)) (by decide +kernel) rfl hok
theorem x_225_107   : am_E d 225 Q (107, L, st, g) ↔ am_K d 225 Q (am_ldA 108 L st g 0) := am_E_aload_n (by decide +kernel : am_dc 225 107 = some (.aload_n 0)) rfl rfl
theorem x_225_108  : am_E d 225 Q (108, L, st, g) ↔ am_K d 225 Q (am_S 225 (.invokevirtual 200) 108 L st g) := am_E_x (by decide +kernel : am_dc 225 108 = some (.invokevirtual 200))
theorem x_225_111   : am_E d 225 Q (111, L, st, g) ↔ am_E d 225 Q (112, L, .int (1) :: st, g) := am_E_iconst (by decide +kernel : am_dc 225 111 = some (.iconst (1))) (by decide) rfl
theorem x_225_112   : am_E d 225 Q (112, L, st, g) ↔ am_K d 225 Q (am_ldI 113 L st g 1) := am_E_iload_n (by decide +kernel : am_dc 225 112 = some (.iload_n 1)) rfl rfl
theorem x_225_113   : am_E d 225 Q (113, L, .int y :: .int x :: st, g) ↔ am_E d 225 Q (114, L, .int (x + y) :: st, g) := am_E_iadd (by decide +kernel : am_dc 225 113 = some (.iadd)) rfl
theorem x_225_114  : am_E d 225 Q (114, L, [.int x], g) ↔ if am_ok (FieldType.int) (.int x) = true then Q (.inl (some (.int x))) g else False := am_E_ireturn (by decide +kernel : am_dc 225 114 = some (.ireturn)) (by decide +kernel)
theorem f_225_211 : am_fl 225 211 = some (11, 11) := by decide +kernel
theorem v_225_196 : am_iv 225 196 = some (1, 185, 4) := by decide +kernel
theorem v_225_286 : am_iv 225 286 = some (1, 220, 1) := by decide +kernel
theorem f_225_42 : am_fl 225 42 = some (11, 12) := by decide +kernel
theorem f_225_69 : am_fl 225 69 = some (11, 21) := by decide +kernel
theorem f_225_45 : am_fl 225 45 = some (11, 13) := by decide +kernel
theorem f_225_72 : am_fl 225 72 = some (11, 22) := by decide +kernel
theorem f_225_230 : am_fl 225 230 = some (11, 23) := by decide +kernel
theorem v_225_200 : am_iv 225 200 = some (1, 182, 1) := by decide +kernel
theorem t_225 : am_t 225 = some (FieldType.int) := by decide +kernel
theorem h_225 : am_h 225 = [] := by decide +kernel
theorem m_225 : am_m 225 = 3 := by decide +kernel
theorem x_226_0   : am_E d 226 Q (0, L, st, g) ↔ am_K d 226 Q (am_ldI 1 L st g 1) := am_E_iload_n (by decide +kernel : am_dc 226 0 = some (.iload_n 1)) rfl rfl
theorem x_226_1   : am_E d 226 Q (1, L, st, g) ↔ am_E d 226 Q (3, L, .int (60) :: st, g) := am_E_bipush (by decide +kernel : am_dc 226 1 = some (.bipush (60))) (by decide) rfl
theorem x_226_3   : am_E d 226 Q (3, L, .int y :: .int x :: st, g) ↔ am_E d 226 Q (am_cmp .eq x y 36 6, L, st, g) := am_E_ic (by decide +kernel : am_dc 226 3 = some (.if_icmp .eq (33))) rfl rfl
theorem x_226_6   : am_E d 226 Q (6, L, st, g) ↔ am_K d 226 Q (am_ldI 7 L st g 1) := am_E_iload_n (by decide +kernel : am_dc 226 6 = some (.iload_n 1)) rfl rfl
theorem x_226_7   : am_E d 226 Q (7, L, st, g) ↔ am_E d 226 Q (9, L, .int (62) :: st, g) := am_E_bipush (by decide +kernel : am_dc 226 7 = some (.bipush (62))) (by decide) rfl
theorem x_226_9   : am_E d 226 Q (9, L, .int y :: .int x :: st, g) ↔ am_E d 226 Q (am_cmp .eq x y 36 12, L, st, g) := am_E_ic (by decide +kernel : am_dc 226 9 = some (.if_icmp .eq (27))) rfl rfl
theorem x_226_12   : am_E d 226 Q (12, L, st, g) ↔ am_K d 226 Q (am_ldI 13 L st g 1) := am_E_iload_n (by decide +kernel : am_dc 226 12 = some (.iload_n 1)) rfl rfl
theorem x_226_13   : am_E d 226 Q (13, L, st, g) ↔ am_E d 226 Q (15, L, .int (94) :: st, g) := am_E_bipush (by decide +kernel : am_dc 226 13 = some (.bipush (94))) (by decide) rfl
theorem x_226_15   : am_E d 226 Q (15, L, .int y :: .int x :: st, g) ↔ am_E d 226 Q (am_cmp .eq x y 36 18, L, st, g) := am_E_ic (by decide +kernel : am_dc 226 15 = some (.if_icmp .eq (21))) rfl rfl
theorem x_226_18   : am_E d 226 Q (18, L, st, g) ↔ am_K d 226 Q (am_ldI 19 L st g 1) := am_E_iload_n (by decide +kernel : am_dc 226 18 = some (.iload_n 1)) rfl rfl
theorem x_226_19   : am_E d 226 Q (19, L, st, g) ↔ am_E d 226 Q (21, L, .int (36) :: st, g) := am_E_bipush (by decide +kernel : am_dc 226 19 = some (.bipush (36))) (by decide) rfl
theorem x_226_21   : am_E d 226 Q (21, L, .int y :: .int x :: st, g) ↔ am_E d 226 Q (am_cmp .eq x y 36 24, L, st, g) := am_E_ic (by decide +kernel : am_dc 226 21 = some (.if_icmp .eq (15))) rfl rfl
theorem x_226_24   : am_E d 226 Q (24, L, st, g) ↔ am_K d 226 Q (am_ldI 25 L st g 1) := am_E_iload_n (by decide +kernel : am_dc 226 24 = some (.iload_n 1)) rfl rfl
theorem x_226_25   : am_E d 226 Q (25, L, st, g) ↔ am_E d 226 Q (27, L, .int (48) :: st, g) := am_E_bipush (by decide +kernel : am_dc 226 25 = some (.bipush (48))) (by decide) rfl
theorem x_226_27   : am_E d 226 Q (27, L, .int y :: .int x :: st, g) ↔ am_E d 226 Q (am_cmp .lt x y 40 30, L, st, g) := am_E_ic (by decide +kernel : am_dc 226 27 = some (.if_icmp .lt (13))) rfl rfl
theorem x_226_30   : am_E d 226 Q (30, L, st, g) ↔ am_K d 226 Q (am_ldI 31 L st g 1) := am_E_iload_n (by decide +kernel : am_dc 226 30 = some (.iload_n 1)) rfl rfl
theorem x_226_31   : am_E d 226 Q (31, L, st, g) ↔ am_E d 226 Q (33, L, .int (53) :: st, g) := am_E_bipush (by decide +kernel : am_dc 226 31 = some (.bipush (53))) (by decide) rfl
theorem x_226_33   : am_E d 226 Q (33, L, .int y :: .int x :: st, g) ↔ am_E d 226 Q (am_cmp .gt x y 40 36, L, st, g) := am_E_ic (by decide +kernel : am_dc 226 33 = some (.if_icmp .gt (7))) rfl rfl
theorem x_226_36   : am_E d 226 Q (36, L, st, g) ↔ am_E d 226 Q (37, L, .int (1) :: st, g) := am_E_iconst (by decide +kernel : am_dc 226 36 = some (.iconst (1))) (by decide) rfl
theorem x_226_37   : am_E d 226 Q (37, L, st, g) ↔ am_E d 226 Q (41, L, st, g) := am_E_gt (by decide +kernel : am_dc 226 37 = some (.goto (4))) rfl rfl
theorem x_226_40   : am_E d 226 Q (40, L, st, g) ↔ am_E d 226 Q (41, L, .int (0) :: st, g) := am_E_iconst (by decide +kernel : am_dc 226 40 = some (.iconst (0))) (by decide) rfl
theorem x_226_41   : am_E d 226 Q (41, L, st, g) ↔ am_K d 226 Q (am_stI 42 L st g 2) := am_E_istore_n (by decide +kernel : am_dc 226 41 = some (.istore_n 2)) rfl rfl
theorem x_226_42   : am_E d 226 Q (42, L, st, g) ↔ am_K d 226 Q (am_ldI 43 L st g 2) := am_E_iload_n (by decide +kernel : am_dc 226 42 = some (.iload_n 2)) rfl rfl
theorem x_226_43   : am_E d 226 Q (43, L, .int x :: st, g) ↔ am_E d 226 Q (am_cmp .eq x 0 97 46, L, st, g) := am_E_if (by decide +kernel : am_dc 226 43 = some (.ifCond .eq (54))) rfl rfl
theorem x_226_46   : am_E d 226 Q (46, L, st, g) ↔ am_K d 226 Q (am_ldA 47 L st g 0) := am_E_aload_n (by decide +kernel : am_dc 226 46 = some (.aload_n 0)) rfl rfl
theorem x_226_47   : am_E d 226 Q (47, L, .ref a :: st, g) ↔ am_kv d 226 Q 50 L st g (am_gf g a 11 20) := am_E_getfield (by decide +kernel : am_dc 226 47 = some (.getfield 66)) (by decide +kernel) rfl
theorem x_226_50   : am_E d 226 Q (50, L, st, g) ↔ am_E d 226 Q (52, L, .int (24) :: st, g) := am_E_bipush (by decide +kernel : am_dc 226 50 = some (.bipush (24))) (by decide) rfl
theorem x_226_52   : am_E d 226 Q (52, L, st, g) ↔ am_K d 226 Q (am_ldA 53 L st g 0) := am_E_aload_n (by decide +kernel : am_dc 226 52 = some (.aload_n 0)) rfl rfl
theorem x_226_53   : am_E d 226 Q (53, L, .ref a :: st, g) ↔ am_kv d 226 Q 56 L st g (am_gf g a 11 11) := am_E_getfield (by decide +kernel : am_dc 226 53 = some (.getfield 211)) (by decide +kernel) rfl
theorem x_226_56   : am_E d 226 Q (56, L, .int y :: .int x :: st, g) ↔ am_E d 226 Q (57, L, .int (x * y) :: st, g) := am_E_imul (by decide +kernel : am_dc 226 56 = some (.imul)) rfl
theorem x_226_57   : am_E d 226 Q (57, L, st, g) ↔ am_K d 226 Q (am_ldA 58 L st g 0) := am_E_aload_n (by decide +kernel : am_dc 226 57 = some (.aload_n 0)) rfl rfl
theorem x_226_58   : am_E d 226 Q (58, L, .ref a :: st, g) ↔ am_kv d 226 Q 61 L st g (am_gf g a 11 18) := am_E_getfield (by decide +kernel : am_dc 226 58 = some (.getfield 60)) (by decide +kernel) rfl
theorem x_226_61   : am_E d 226 Q (61, L, st, g) ↔ am_K d 226 Q (am_ldA 62 L st g 0) := am_E_aload_n (by decide +kernel : am_dc 226 61 = some (.aload_n 0)) rfl rfl
theorem x_226_62   : am_E d 226 Q (62, L, .ref a :: st, g) ↔ am_kv d 226 Q 65 L st g (am_gf g a 11 11) := am_E_getfield (by decide +kernel : am_dc 226 62 = some (.getfield 211)) (by decide +kernel) rfl
theorem x_226_65   : am_E d 226 Q (65, L, .int x :: .ref a :: st, g) ↔ am_kv d 226 Q 66 L st g (am_iat .iaload g a x) := am_E_iaload (by decide +kernel : am_dc 226 65 = some (.iaload)) rfl
theorem x_226_66   : am_E d 226 Q (66, L, .int y :: .int x :: st, g) ↔ am_E d 226 Q (67, L, .int (x + y) :: st, g) := am_E_iadd (by decide +kernel : am_dc 226 66 = some (.iadd)) rfl
theorem x_226_67   : am_E d 226 Q (67, L, st, g) ↔ am_K d 226 Q (am_ldI 68 L st g 1) := am_E_iload_n (by decide +kernel : am_dc 226 67 = some (.iload_n 1)) rfl rfl
theorem x_226_68   : am_E d 226 Q (68, L, v :: .int x :: .ref a :: st, g) ↔ am_kg d 226 Q 69 L st (am_sat .iastore g a x v) := am_E_iastore (by decide +kernel : am_dc 226 68 = some (.iastore)) rfl
theorem x_226_69   : am_E d 226 Q (69, L, st, g) ↔ am_K d 226 Q (am_ldA 70 L st g 0) := am_E_aload_n (by decide +kernel : am_dc 226 69 = some (.aload_n 0)) rfl rfl
theorem x_226_70   : am_E d 226 Q (70, L, .ref a :: st, g) ↔ am_kv d 226 Q 73 L st g (am_gf g a 11 18) := am_E_getfield (by decide +kernel : am_dc 226 70 = some (.getfield 60)) (by decide +kernel) rfl
theorem x_226_73   : am_E d 226 Q (73, L, st, g) ↔ am_K d 226 Q (am_ldA 74 L st g 0) := am_E_aload_n (by decide +kernel : am_dc 226 73 = some (.aload_n 0)) rfl rfl
theorem x_226_74   : am_E d 226 Q (74, L, .ref a :: st, g) ↔ am_kv d 226 Q 77 L st g (am_gf g a 11 11) := am_E_getfield (by decide +kernel : am_dc 226 74 = some (.getfield 211)) (by decide +kernel) rfl
theorem x_226_77   : am_E d 226 Q (77, L, v :: v1 :: st, g) ↔ if v.category = 1 ∧ v1.category = 1 then am_E d 226 Q (78, L, v :: v1 :: v :: v1 :: st, g) else False := am_E_dup2 (by decide +kernel : am_dc 226 77 = some (.dup2)) rfl
theorem x_226_78   : am_E d 226 Q (78, L, .int x :: .ref a :: st, g) ↔ am_kv d 226 Q 79 L st g (am_iat .iaload g a x) := am_E_iaload (by decide +kernel : am_dc 226 78 = some (.iaload)) rfl
theorem x_226_79   : am_E d 226 Q (79, L, st, g) ↔ am_E d 226 Q (80, L, .int (1) :: st, g) := am_E_iconst (by decide +kernel : am_dc 226 79 = some (.iconst (1))) (by decide) rfl
theorem x_226_80   : am_E d 226 Q (80, L, .int y :: .int x :: st, g) ↔ am_E d 226 Q (81, L, .int (x + y) :: st, g) := am_E_iadd (by decide +kernel : am_dc 226 80 = some (.iadd)) rfl
theorem x_226_81   : am_E d 226 Q (81, L, v :: .int x :: .ref a :: st, g) ↔ am_kg d 226 Q 82 L st (am_sat .iastore g a x v) := am_E_iastore (by decide +kernel : am_dc 226 81 = some (.iastore)) rfl
theorem x_226_82   : am_E d 226 Q (82, L, st, g) ↔ am_K d 226 Q (am_ldA 83 L st g 0) := am_E_aload_n (by decide +kernel : am_dc 226 82 = some (.aload_n 0)) rfl rfl
theorem x_226_83   : am_E d 226 Q (83, L, st, g) ↔ am_E d 226 Q (84, L, .int (3) :: st, g) := am_E_iconst (by decide +kernel : am_dc 226 83 = some (.iconst (3))) (by decide) rfl
theorem x_226_84   (hok : (am_ok (am_ft 11 33).1 v && (!(am_ft 11 33).2 || (am_ini 226 && am_co 11 == am_o 226)) && decide (11 < 13)) = true) : am_E d 226 Q (84, L, v :: .ref a :: st, g) ↔ am_kg d 226 Q 87 L st (am_pf g a 11 33 v) := am_E_putfield (by decide +kernel : am_dc 226 84 = some (.putfield 248)) (by decide +kernel) rfl hok
theorem x_226_87   : am_E d 226 Q (87, L, st, g) ↔ am_K d 226 Q (am_ldI 88 L st g 1) := am_E_iload_n (by decide +kernel : am_dc 226 87 = some (.iload_n 1)) rfl rfl
theorem x_226_88   : am_E d 226 Q (88, L, st, g) ↔ am_E d 226 Q (90, L, .int (36) :: st, g) := am_E_bipush (by decide +kernel : am_dc 226 88 = some (.bipush (36))) (by decide) rfl
theorem x_226_90   : am_E d 226 Q (90, L, .int y :: .int x :: st, g) ↔ am_E d 226 Q (am_cmp .ne x y 97 93, L, st, g) := am_E_ic (by decide +kernel : am_dc 226 90 = some (.if_icmp .ne (7))) rfl rfl
theorem x_226_93   : am_E d 226 Q (93, L, st, g) ↔ am_K d 226 Q (am_ldA 94 L st g 0) := am_E_aload_n (by decide +kernel : am_dc 226 93 = some (.aload_n 0)) rfl rfl
theorem x_226_94  : am_E d 226 Q (94, L, st, g) ↔ am_K d 226 Q (am_S 226 (.invokevirtual 264) 94 L st g) := am_E_x (by decide +kernel : am_dc 226 94 = some (.invokevirtual 264))
theorem x_226_97   : am_E d 226 Q (97, L, st, g) ↔ am_K d 226 Q (am_ldI 98 L st g 2) := am_E_iload_n (by decide +kernel : am_dc 226 97 = some (.iload_n 2)) rfl rfl
theorem x_226_98  : am_E d 226 Q (98, L, [.int x], g) ↔ if am_ok (FieldType.boolean) (.int x) = true then Q (.inl (some (.int x))) g else False := am_E_ireturn (by decide +kernel : am_dc 226 98 = some (.ireturn)) (by decide +kernel)
theorem f_226_66 : am_fl 226 66 = some (11, 20) := by decide +kernel
theorem f_226_211 : am_fl 226 211 = some (11, 11) := by decide +kernel
theorem f_226_60 : am_fl 226 60 = some (11, 18) := by decide +kernel
theorem f_226_248 : am_fl 226 248 = some (11, 33) := by decide +kernel
theorem v_226_264 : am_iv 226 264 = some (1, 175, 1) := by decide +kernel
theorem t_226 : am_t 226 = some (FieldType.boolean) := by decide +kernel
theorem h_226 : am_h 226 = [] := by decide +kernel
theorem m_226 : am_m 226 = 3 := by decide +kernel
theorem x_227_0   : am_E d 227 Q (0, L, st, g) ↔ am_K d 227 Q (am_ldA 1 L st g 0) := am_E_aload_n (by decide +kernel : am_dc 227 0 = some (.aload_n 0)) rfl rfl
theorem x_227_1   : am_E d 227 Q (1, L, st, g) ↔ am_K d 227 Q (am_ldI 2 L st g 1) := am_E_iload_n (by decide +kernel : am_dc 227 1 = some (.iload_n 1)) rfl rfl
theorem x_227_2  : am_E d 227 Q (2, L, st, g) ↔ am_K d 227 Q (am_S 227 (.invokevirtual 418) 2 L st g) := am_E_x (by decide +kernel : am_dc 227 2 = some (.invokevirtual 418))
theorem x_227_5   : am_E d 227 Q (5, L, .int x :: st, g) ↔ am_E d 227 Q (am_cmp .ne x 0 10 8, L, st, g) := am_E_if (by decide +kernel : am_dc 227 5 = some (.ifCond .ne (5))) rfl rfl
theorem x_227_8   : am_E d 227 Q (8, L, st, g) ↔ am_E d 227 Q (9, L, .int (0) :: st, g) := am_E_iconst (by decide +kernel : am_dc 227 8 = some (.iconst (0))) (by decide) rfl
theorem x_227_9  : am_E d 227 Q (9, L, [.int x], g) ↔ if am_ok (FieldType.int) (.int x) = true then Q (.inl (some (.int x))) g else False := am_E_ireturn (by decide +kernel : am_dc 227 9 = some (.ireturn)) (by decide +kernel)
theorem x_227_10   : am_E d 227 Q (10, L, st, g) ↔ am_K d 227 Q (am_ldA 11 L st g 0) := am_E_aload_n (by decide +kernel : am_dc 227 10 = some (.aload_n 0)) rfl rfl
theorem x_227_11   : am_E d 227 Q (11, L, .ref a :: st, g) ↔ am_kv d 227 Q 14 L st g (am_gf g a 11 62) := am_E_getfield (by decide +kernel : am_dc 227 11 = some (.getfield 305)) (by decide +kernel) rfl
theorem x_227_14   : am_E d 227 Q (14, L, .int x :: st, g) ↔ am_E d 227 Q (am_cmp .eq x 0 26 17, L, st, g) := am_E_if (by decide +kernel : am_dc 227 14 = some (.ifCond .eq (12))) rfl rfl
theorem x_227_17   : am_E d 227 Q (17, L, st, g) ↔ am_K d 227 Q (am_ldI 18 L st g 2) := am_E_iload_n (by decide +kernel : am_dc 227 17 = some (.iload_n 2)) rfl rfl
theorem x_227_18   : am_E d 227 Q (18, L, st, g) ↔ am_K d 227 Q (am_ldA 19 L st g 0) := am_E_aload_n (by decide +kernel : am_dc 227 18 = some (.aload_n 0)) rfl rfl
theorem x_227_19   : am_E d 227 Q (19, L, .ref a :: st, g) ↔ am_kv d 227 Q 22 L st g (am_gf g a 11 62) := am_E_getfield (by decide +kernel : am_dc 227 19 = some (.getfield 305)) (by decide +kernel) rfl
theorem x_227_22  : am_E d 227 Q (22, L, st, g) ↔ am_K d 227 Q (am_S 227 (.invokestatic 421) 22 L st g) := am_E_x (by decide +kernel : am_dc 227 22 = some (.invokestatic 421))
theorem x_227_25  : am_E d 227 Q (25, L, [.int x], g) ↔ if am_ok (FieldType.int) (.int x) = true then Q (.inl (some (.int x))) g else False := am_E_ireturn (by decide +kernel : am_dc 227 25 = some (.ireturn)) (by decide +kernel)
theorem x_227_26   : am_E d 227 Q (26, L, st, g) ↔ am_K d 227 Q (am_ldA 27 L st g 0) := am_E_aload_n (by decide +kernel : am_dc 227 26 = some (.aload_n 0)) rfl rfl
theorem x_227_27   : am_E d 227 Q (27, L, .ref a :: st, g) ↔ am_kv d 227 Q 30 L st g (am_gf g a 11 63) := am_E_getfield (by decide +kernel : am_dc 227 27 = some (.getfield 308)) (by decide +kernel) rfl
theorem x_227_30   : am_E d 227 Q (30, L, st, g) ↔ am_E d 227 Q (31, L, .long (0) :: st, g) := am_E_lconst (by decide +kernel : am_dc 227 30 = some (.lconst 0)) (by decide) rfl
theorem x_227_31   : am_E d 227 Q (31, L, .long w :: .long u :: st, g) ↔ am_E d 227 Q (32, L, .int (lg_cmp u w) :: st, g) := am_E_lcmp (by decide +kernel : am_dc 227 31 = some (.lcmp)) rfl
theorem x_227_32   : am_E d 227 Q (32, L, .int x :: st, g) ↔ am_E d 227 Q (am_cmp .ge x 0 44 35, L, st, g) := am_E_if (by decide +kernel : am_dc 227 32 = some (.ifCond .ge (12))) rfl rfl
theorem x_227_35   : am_E d 227 Q (35, L, st, g) ↔ am_E d 227 Q (36, L, .long (0) :: st, g) := am_E_lconst (by decide +kernel : am_dc 227 35 = some (.lconst 0)) (by decide) rfl
theorem x_227_36   : am_E d 227 Q (36, L, st, g) ↔ am_K d 227 Q (am_ldA 37 L st g 0) := am_E_aload_n (by decide +kernel : am_dc 227 36 = some (.aload_n 0)) rfl rfl
theorem x_227_37   : am_E d 227 Q (37, L, .ref a :: st, g) ↔ am_kv d 227 Q 40 L st g (am_gf g a 11 63) := am_E_getfield (by decide +kernel : am_dc 227 37 = some (.getfield 308)) (by decide +kernel) rfl
theorem x_227_40   : am_E d 227 Q (40, L, .long w :: .long u :: st, g) ↔ am_E d 227 Q (41, L, .long (u - w) :: st, g) := am_E_lsub (by decide +kernel : am_dc 227 40 = some (.lsub)) rfl
theorem x_227_41   : am_E d 227 Q (41, L, st, g) ↔ am_E d 227 Q (48, L, st, g) := am_E_gt (by decide +kernel : am_dc 227 41 = some (.goto (7))) rfl rfl
theorem x_227_44   : am_E d 227 Q (44, L, st, g) ↔ am_K d 227 Q (am_ldA 45 L st g 0) := am_E_aload_n (by decide +kernel : am_dc 227 44 = some (.aload_n 0)) rfl rfl
theorem x_227_45   : am_E d 227 Q (45, L, .ref a :: st, g) ↔ am_kv d 227 Q 48 L st g (am_gf g a 11 63) := am_E_getfield (by decide +kernel : am_dc 227 45 = some (.getfield 308)) (by decide +kernel) rfl
theorem x_227_48   : am_E d 227 Q (48, L, st, g) ↔ am_K d 227 Q (am_stL 49 L st g 3) := am_E_lstore_n (by decide +kernel : am_dc 227 48 = some (.lstore_n 3)) rfl rfl
theorem x_227_49   : am_E d 227 Q (49, L, st, g) ↔ am_E d 227 Q (50, L, .int (0) :: st, g) := am_E_iconst (by decide +kernel : am_dc 227 49 = some (.iconst (0))) (by decide) rfl
theorem x_227_50   : am_E d 227 Q (50, L, st, g) ↔ am_K d 227 Q (am_stI 52 L st g 5) := am_E_istore (by decide +kernel : am_dc 227 50 = some (.istore 5)) rfl
theorem x_227_52   : am_E d 227 Q (52, L, st, g) ↔ am_K d 227 Q (am_ldA 53 L st g 0) := am_E_aload_n (by decide +kernel : am_dc 227 52 = some (.aload_n 0)) rfl rfl
theorem x_227_53   : am_E d 227 Q (53, L, .ref a :: st, g) ↔ am_kv d 227 Q 56 L st g (am_gf g a 11 63) := am_E_getfield (by decide +kernel : am_dc 227 53 = some (.getfield 308)) (by decide +kernel) rfl
theorem x_227_56   : am_E d 227 Q (56, L, st, g) ↔ am_E d 227 Q (57, L, .long (0) :: st, g) := am_E_lconst (by decide +kernel : am_dc 227 56 = some (.lconst 0)) (by decide) rfl
theorem x_227_57   : am_E d 227 Q (57, L, .long w :: .long u :: st, g) ↔ am_E d 227 Q (58, L, .int (lg_cmp u w) :: st, g) := am_E_lcmp (by decide +kernel : am_dc 227 57 = some (.lcmp)) rfl
theorem x_227_58   : am_E d 227 Q (58, L, .int x :: st, g) ↔ am_E d 227 Q (am_cmp .ge x 0 73 61, L, st, g) := am_E_if (by decide +kernel : am_dc 227 58 = some (.ifCond .ge (15))) rfl rfl
theorem x_227_61   : am_E d 227 Q (61, L, st, g) ↔ am_K d 227 Q (am_ldA 62 L st g 0) := am_E_aload_n (by decide +kernel : am_dc 227 61 = some (.aload_n 0)) rfl rfl
theorem x_227_62   : am_E d 227 Q (62, L, .ref a :: st, g) ↔ am_kv d 227 Q 65 L st g (am_gf g a 11 68) := am_E_getfield (by decide +kernel : am_dc 227 62 = some (.getfield 161)) (by decide +kernel) rfl
theorem x_227_65   : am_E d 227 Q (65, L, st, g) ↔ am_K d 227 Q (am_ldI 67 L st g 5) := am_E_iload (by decide +kernel : am_dc 227 65 = some (.iload 5)) rfl
theorem x_227_67   : am_E d 227 Q (67, L, st, g) ↔ am_E d 227 Q (69, L, .int (45) :: st, g) := am_E_bipush (by decide +kernel : am_dc 227 67 = some (.bipush (45))) (by decide) rfl
theorem x_227_69   : am_E d 227 Q (69, L, v :: .int x :: .ref a :: st, g) ↔ am_kg d 227 Q 70 L st (am_sat .castore g a x v) := am_E_castore (by decide +kernel : am_dc 227 69 = some (.castore)) rfl
theorem x_227_70   (hk : L.getD 5 none = some (.int x)) (hl : 5 < L.length) : am_E d 227 Q (70, L, st, g) ↔ am_E d 227 Q (73, am_s1 L 5 (.int (x + (1))), st, g) := am_E_iinc (by decide +kernel : am_dc 227 70 = some (.iinc 5 (1))) (by decide) rfl hk hl
theorem x_227_73  : am_E d 227 Q (73, L, st, g) ↔ am_K d 227 Q (am_S 227 (.ldc2_w 382) 73 L st g) := am_E_x (by decide +kernel : am_dc 227 73 = some (.ldc2_w 382))
theorem x_227_76   : am_E d 227 Q (76, L, st, g) ↔ am_K d 227 Q (am_stL 78 L st g 6) := am_E_lstore (by decide +kernel : am_dc 227 76 = some (.lstore 6)) rfl
theorem x_227_78   : am_E d 227 Q (78, L, st, g) ↔ am_K d 227 Q (am_ldL 79 L st g 3) := am_E_lload_n (by decide +kernel : am_dc 227 78 = some (.lload_n 3)) rfl rfl
theorem x_227_79   : am_E d 227 Q (79, L, st, g) ↔ am_K d 227 Q (am_ldL 81 L st g 6) := am_E_lload (by decide +kernel : am_dc 227 79 = some (.lload 6)) rfl
theorem x_227_81   : am_E d 227 Q (81, L, .long w :: .long u :: st, g) ↔ if w = 0 then False else am_E d 227 Q (82, L, .long (u / w) :: st, g) := am_E_ldiv (by decide +kernel : am_dc 227 81 = some (.ldiv)) rfl
theorem x_227_82  : am_E d 227 Q (82, L, st, g) ↔ am_K d 227 Q (am_S 227 (.ldc2_w 424) 82 L st g) := am_E_x (by decide +kernel : am_dc 227 82 = some (.ldc2_w 424))
theorem x_227_85   : am_E d 227 Q (85, L, .long w :: .long u :: st, g) ↔ am_E d 227 Q (86, L, .int (lg_cmp u w) :: st, g) := am_E_lcmp (by decide +kernel : am_dc 227 85 = some (.lcmp)) rfl
theorem x_227_86   : am_E d 227 Q (86, L, .int x :: st, g) ↔ am_E d 227 Q (am_cmp .le x 0 100 89, L, st, g) := am_E_if (by decide +kernel : am_dc 227 86 = some (.ifCond .le (14))) rfl rfl
theorem x_227_89   : am_E d 227 Q (89, L, st, g) ↔ am_K d 227 Q (am_ldL 91 L st g 6) := am_E_lload (by decide +kernel : am_dc 227 89 = some (.lload 6)) rfl
theorem x_227_91  : am_E d 227 Q (91, L, st, g) ↔ am_K d 227 Q (am_S 227 (.ldc2_w 426) 91 L st g) := am_E_x (by decide +kernel : am_dc 227 91 = some (.ldc2_w 426))
theorem x_227_94   : am_E d 227 Q (94, L, .long w :: .long u :: st, g) ↔ am_E d 227 Q (95, L, .long (u * w) :: st, g) := am_E_lmul (by decide +kernel : am_dc 227 94 = some (.lmul)) rfl
theorem x_227_95   : am_E d 227 Q (95, L, st, g) ↔ am_K d 227 Q (am_stL 97 L st g 6) := am_E_lstore (by decide +kernel : am_dc 227 95 = some (.lstore 6)) rfl
theorem x_227_97   : am_E d 227 Q (97, L, st, g) ↔ am_E d 227 Q (78, L, st, g) := am_E_gt (by decide +kernel : am_dc 227 97 = some (.goto (-19))) rfl rfl
theorem x_227_100   : am_E d 227 Q (100, L, st, g) ↔ am_K d 227 Q (am_ldL 102 L st g 6) := am_E_lload (by decide +kernel : am_dc 227 100 = some (.lload 6)) rfl
theorem x_227_102  : am_E d 227 Q (102, L, st, g) ↔ am_K d 227 Q (am_S 227 (.ldc2_w 382) 102 L st g) := am_E_x (by decide +kernel : am_dc 227 102 = some (.ldc2_w 382))
theorem x_227_105   : am_E d 227 Q (105, L, .long w :: .long u :: st, g) ↔ am_E d 227 Q (106, L, .int (lg_cmp u w) :: st, g) := am_E_lcmp (by decide +kernel : am_dc 227 105 = some (.lcmp)) rfl
theorem x_227_106   : am_E d 227 Q (106, L, .int x :: st, g) ↔ am_E d 227 Q (am_cmp .lt x 0 143 109, L, st, g) := am_E_if (by decide +kernel : am_dc 227 106 = some (.ifCond .lt (37))) rfl rfl
theorem x_227_109   : am_E d 227 Q (109, L, st, g) ↔ am_K d 227 Q (am_ldA 110 L st g 0) := am_E_aload_n (by decide +kernel : am_dc 227 109 = some (.aload_n 0)) rfl rfl
theorem x_227_110   : am_E d 227 Q (110, L, .ref a :: st, g) ↔ am_kv d 227 Q 113 L st g (am_gf g a 11 68) := am_E_getfield (by decide +kernel : am_dc 227 110 = some (.getfield 161)) (by decide +kernel) rfl
theorem x_227_113   : am_E d 227 Q (113, L, st, g) ↔ am_K d 227 Q (am_ldI 115 L st g 5) := am_E_iload (by decide +kernel : am_dc 227 113 = some (.iload 5)) rfl
theorem x_227_115   : am_E d 227 Q (115, L, st, g) ↔ am_E d 227 Q (117, L, .int (48) :: st, g) := am_E_bipush (by decide +kernel : am_dc 227 115 = some (.bipush (48))) (by decide) rfl
theorem x_227_117   : am_E d 227 Q (117, L, st, g) ↔ am_K d 227 Q (am_ldL 118 L st g 3) := am_E_lload_n (by decide +kernel : am_dc 227 117 = some (.lload_n 3)) rfl rfl
theorem x_227_118   : am_E d 227 Q (118, L, st, g) ↔ am_K d 227 Q (am_ldL 120 L st g 6) := am_E_lload (by decide +kernel : am_dc 227 118 = some (.lload 6)) rfl
theorem x_227_120   : am_E d 227 Q (120, L, .long w :: .long u :: st, g) ↔ if w = 0 then False else am_E d 227 Q (121, L, .long (u / w) :: st, g) := am_E_ldiv (by decide +kernel : am_dc 227 120 = some (.ldiv)) rfl
theorem x_227_121  : am_E d 227 Q (121, L, st, g) ↔ am_K d 227 Q (am_S 227 (.ldc2_w 426) 121 L st g) := am_E_x (by decide +kernel : am_dc 227 121 = some (.ldc2_w 426))
theorem x_227_124   : am_E d 227 Q (124, L, .long w :: .long u :: st, g) ↔ if w = 0 then False else am_E d 227 Q (125, L, .long (u - u / w * w) :: st, g) := am_E_lrem (by decide +kernel : am_dc 227 124 = some (.lrem)) rfl
theorem x_227_125   : am_E d 227 Q (125, L, .long u :: st, g) ↔ am_E d 227 Q (126, L, .int u.toInt32 :: st, g) := am_E_l2i (by decide +kernel : am_dc 227 125 = some (.l2i)) rfl
theorem x_227_126   : am_E d 227 Q (126, L, .int y :: .int x :: st, g) ↔ am_E d 227 Q (127, L, .int (x + y) :: st, g) := am_E_iadd (by decide +kernel : am_dc 227 126 = some (.iadd)) rfl
theorem x_227_127   : am_E d 227 Q (127, L, .int x :: st, g) ↔ am_E d 227 Q (128, L, .int (x.toUInt32 % 65536).toInt32 :: st, g) := am_E_i2c (by decide +kernel : am_dc 227 127 = some (.i2c)) rfl
theorem x_227_128   : am_E d 227 Q (128, L, v :: .int x :: .ref a :: st, g) ↔ am_kg d 227 Q 129 L st (am_sat .castore g a x v) := am_E_castore (by decide +kernel : am_dc 227 128 = some (.castore)) rfl
theorem x_227_129   (hk : L.getD 5 none = some (.int x)) (hl : 5 < L.length) : am_E d 227 Q (129, L, st, g) ↔ am_E d 227 Q (132, am_s1 L 5 (.int (x + (1))), st, g) := am_E_iinc (by decide +kernel : am_dc 227 129 = some (.iinc 5 (1))) (by decide) rfl hk hl
theorem x_227_132   : am_E d 227 Q (132, L, st, g) ↔ am_K d 227 Q (am_ldL 134 L st g 6) := am_E_lload (by decide +kernel : am_dc 227 132 = some (.lload 6)) rfl
theorem x_227_134  : am_E d 227 Q (134, L, st, g) ↔ am_K d 227 Q (am_S 227 (.ldc2_w 426) 134 L st g) := am_E_x (by decide +kernel : am_dc 227 134 = some (.ldc2_w 426))
theorem x_227_137   : am_E d 227 Q (137, L, .long w :: .long u :: st, g) ↔ if w = 0 then False else am_E d 227 Q (138, L, .long (u / w) :: st, g) := am_E_ldiv (by decide +kernel : am_dc 227 137 = some (.ldiv)) rfl
theorem x_227_138   : am_E d 227 Q (138, L, st, g) ↔ am_K d 227 Q (am_stL 140 L st g 6) := am_E_lstore (by decide +kernel : am_dc 227 138 = some (.lstore 6)) rfl
theorem x_227_140   : am_E d 227 Q (140, L, st, g) ↔ am_E d 227 Q (100, L, st, g) := am_E_gt (by decide +kernel : am_dc 227 140 = some (.goto (-40))) rfl rfl
theorem x_227_143   : am_E d 227 Q (143, L, st, g) ↔ am_K d 227 Q (am_ldL 144 L st g 3) := am_E_lload_n (by decide +kernel : am_dc 227 143 = some (.lload_n 3)) rfl rfl
theorem x_227_144  : am_E d 227 Q (144, L, st, g) ↔ am_K d 227 Q (am_S 227 (.ldc2_w 382) 144 L st g) := am_E_x (by decide +kernel : am_dc 227 144 = some (.ldc2_w 382))
theorem x_227_147   : am_E d 227 Q (147, L, .long w :: .long u :: st, g) ↔ if w = 0 then False else am_E d 227 Q (148, L, .long (u - u / w * w) :: st, g) := am_E_lrem (by decide +kernel : am_dc 227 147 = some (.lrem)) rfl
theorem x_227_148   : am_E d 227 Q (148, L, st, g) ↔ am_K d 227 Q (am_stL 150 L st g 8) := am_E_lstore (by decide +kernel : am_dc 227 148 = some (.lstore 8)) rfl
theorem x_227_150   : am_E d 227 Q (150, L, st, g) ↔ am_K d 227 Q (am_ldL 152 L st g 8) := am_E_lload (by decide +kernel : am_dc 227 150 = some (.lload 8)) rfl
theorem x_227_152   : am_E d 227 Q (152, L, st, g) ↔ am_E d 227 Q (153, L, .long (0) :: st, g) := am_E_lconst (by decide +kernel : am_dc 227 152 = some (.lconst 0)) (by decide) rfl
theorem x_227_153   : am_E d 227 Q (153, L, .long w :: .long u :: st, g) ↔ am_E d 227 Q (154, L, .int (lg_cmp u w) :: st, g) := am_E_lcmp (by decide +kernel : am_dc 227 153 = some (.lcmp)) rfl
theorem x_227_154   : am_E d 227 Q (154, L, .int x :: st, g) ↔ am_E d 227 Q (am_cmp .le x 0 169 157, L, st, g) := am_E_if (by decide +kernel : am_dc 227 154 = some (.ifCond .le (15))) rfl rfl
theorem x_227_157   : am_E d 227 Q (157, L, st, g) ↔ am_K d 227 Q (am_ldA 158 L st g 0) := am_E_aload_n (by decide +kernel : am_dc 227 157 = some (.aload_n 0)) rfl rfl
theorem x_227_158   : am_E d 227 Q (158, L, .ref a :: st, g) ↔ am_kv d 227 Q 161 L st g (am_gf g a 11 68) := am_E_getfield (by decide +kernel : am_dc 227 158 = some (.getfield 161)) (by decide +kernel) rfl
theorem x_227_161   : am_E d 227 Q (161, L, st, g) ↔ am_K d 227 Q (am_ldI 163 L st g 5) := am_E_iload (by decide +kernel : am_dc 227 161 = some (.iload 5)) rfl
theorem x_227_163   : am_E d 227 Q (163, L, st, g) ↔ am_E d 227 Q (165, L, .int (46) :: st, g) := am_E_bipush (by decide +kernel : am_dc 227 163 = some (.bipush (46))) (by decide) rfl
theorem x_227_165   : am_E d 227 Q (165, L, v :: .int x :: .ref a :: st, g) ↔ am_kg d 227 Q 166 L st (am_sat .castore g a x v) := am_E_castore (by decide +kernel : am_dc 227 165 = some (.castore)) rfl
theorem x_227_166   (hk : L.getD 5 none = some (.int x)) (hl : 5 < L.length) : am_E d 227 Q (166, L, st, g) ↔ am_E d 227 Q (169, am_s1 L 5 (.int (x + (1))), st, g) := am_E_iinc (by decide +kernel : am_dc 227 166 = some (.iinc 5 (1))) (by decide) rfl hk hl
theorem x_227_169  : am_E d 227 Q (169, L, st, g) ↔ am_K d 227 Q (am_S 227 (.ldc2_w 428) 169 L st g) := am_E_x (by decide +kernel : am_dc 227 169 = some (.ldc2_w 428))
theorem x_227_172   : am_E d 227 Q (172, L, st, g) ↔ am_K d 227 Q (am_stL 174 L st g 10) := am_E_lstore (by decide +kernel : am_dc 227 172 = some (.lstore 10)) rfl
theorem x_227_174   : am_E d 227 Q (174, L, st, g) ↔ am_K d 227 Q (am_ldL 176 L st g 8) := am_E_lload (by decide +kernel : am_dc 227 174 = some (.lload 8)) rfl
theorem x_227_176   : am_E d 227 Q (176, L, st, g) ↔ am_E d 227 Q (177, L, .long (0) :: st, g) := am_E_lconst (by decide +kernel : am_dc 227 176 = some (.lconst 0)) (by decide) rfl
theorem x_227_177   : am_E d 227 Q (177, L, .long w :: .long u :: st, g) ↔ am_E d 227 Q (178, L, .int (lg_cmp u w) :: st, g) := am_E_lcmp (by decide +kernel : am_dc 227 177 = some (.lcmp)) rfl
theorem x_227_178   : am_E d 227 Q (178, L, .int x :: st, g) ↔ am_E d 227 Q (am_cmp .le x 0 219 181, L, st, g) := am_E_if (by decide +kernel : am_dc 227 178 = some (.ifCond .le (41))) rfl rfl
theorem x_227_181   : am_E d 227 Q (181, L, st, g) ↔ am_K d 227 Q (am_ldA 182 L st g 0) := am_E_aload_n (by decide +kernel : am_dc 227 181 = some (.aload_n 0)) rfl rfl
theorem x_227_182   : am_E d 227 Q (182, L, .ref a :: st, g) ↔ am_kv d 227 Q 185 L st g (am_gf g a 11 68) := am_E_getfield (by decide +kernel : am_dc 227 182 = some (.getfield 161)) (by decide +kernel) rfl
theorem x_227_185   : am_E d 227 Q (185, L, st, g) ↔ am_K d 227 Q (am_ldI 187 L st g 5) := am_E_iload (by decide +kernel : am_dc 227 185 = some (.iload 5)) rfl
theorem x_227_187   : am_E d 227 Q (187, L, st, g) ↔ am_E d 227 Q (189, L, .int (48) :: st, g) := am_E_bipush (by decide +kernel : am_dc 227 187 = some (.bipush (48))) (by decide) rfl
theorem x_227_189   : am_E d 227 Q (189, L, st, g) ↔ am_K d 227 Q (am_ldL 191 L st g 8) := am_E_lload (by decide +kernel : am_dc 227 189 = some (.lload 8)) rfl
theorem x_227_191   : am_E d 227 Q (191, L, st, g) ↔ am_K d 227 Q (am_ldL 193 L st g 10) := am_E_lload (by decide +kernel : am_dc 227 191 = some (.lload 10)) rfl
theorem x_227_193   : am_E d 227 Q (193, L, .long w :: .long u :: st, g) ↔ if w = 0 then False else am_E d 227 Q (194, L, .long (u / w) :: st, g) := am_E_ldiv (by decide +kernel : am_dc 227 193 = some (.ldiv)) rfl
theorem x_227_194   : am_E d 227 Q (194, L, .long u :: st, g) ↔ am_E d 227 Q (195, L, .int u.toInt32 :: st, g) := am_E_l2i (by decide +kernel : am_dc 227 194 = some (.l2i)) rfl
theorem x_227_195   : am_E d 227 Q (195, L, .int y :: .int x :: st, g) ↔ am_E d 227 Q (196, L, .int (x + y) :: st, g) := am_E_iadd (by decide +kernel : am_dc 227 195 = some (.iadd)) rfl
theorem x_227_196   : am_E d 227 Q (196, L, .int x :: st, g) ↔ am_E d 227 Q (197, L, .int (x.toUInt32 % 65536).toInt32 :: st, g) := am_E_i2c (by decide +kernel : am_dc 227 196 = some (.i2c)) rfl
theorem x_227_197   : am_E d 227 Q (197, L, v :: .int x :: .ref a :: st, g) ↔ am_kg d 227 Q 198 L st (am_sat .castore g a x v) := am_E_castore (by decide +kernel : am_dc 227 197 = some (.castore)) rfl
theorem x_227_198   (hk : L.getD 5 none = some (.int x)) (hl : 5 < L.length) : am_E d 227 Q (198, L, st, g) ↔ am_E d 227 Q (201, am_s1 L 5 (.int (x + (1))), st, g) := am_E_iinc (by decide +kernel : am_dc 227 198 = some (.iinc 5 (1))) (by decide) rfl hk hl
theorem x_227_201   : am_E d 227 Q (201, L, st, g) ↔ am_K d 227 Q (am_ldL 203 L st g 8) := am_E_lload (by decide +kernel : am_dc 227 201 = some (.lload 8)) rfl
theorem x_227_203   : am_E d 227 Q (203, L, st, g) ↔ am_K d 227 Q (am_ldL 205 L st g 10) := am_E_lload (by decide +kernel : am_dc 227 203 = some (.lload 10)) rfl
theorem x_227_205   : am_E d 227 Q (205, L, .long w :: .long u :: st, g) ↔ if w = 0 then False else am_E d 227 Q (206, L, .long (u - u / w * w) :: st, g) := am_E_lrem (by decide +kernel : am_dc 227 205 = some (.lrem)) rfl
theorem x_227_206   : am_E d 227 Q (206, L, st, g) ↔ am_K d 227 Q (am_stL 208 L st g 8) := am_E_lstore (by decide +kernel : am_dc 227 206 = some (.lstore 8)) rfl
theorem x_227_208   : am_E d 227 Q (208, L, st, g) ↔ am_K d 227 Q (am_ldL 210 L st g 10) := am_E_lload (by decide +kernel : am_dc 227 208 = some (.lload 10)) rfl
theorem x_227_210  : am_E d 227 Q (210, L, st, g) ↔ am_K d 227 Q (am_S 227 (.ldc2_w 426) 210 L st g) := am_E_x (by decide +kernel : am_dc 227 210 = some (.ldc2_w 426))
theorem x_227_213   : am_E d 227 Q (213, L, .long w :: .long u :: st, g) ↔ if w = 0 then False else am_E d 227 Q (214, L, .long (u / w) :: st, g) := am_E_ldiv (by decide +kernel : am_dc 227 213 = some (.ldiv)) rfl
theorem x_227_214   : am_E d 227 Q (214, L, st, g) ↔ am_K d 227 Q (am_stL 216 L st g 10) := am_E_lstore (by decide +kernel : am_dc 227 214 = some (.lstore 10)) rfl
theorem x_227_216   : am_E d 227 Q (216, L, st, g) ↔ am_E d 227 Q (174, L, st, g) := am_E_gt (by decide +kernel : am_dc 227 216 = some (.goto (-42))) rfl rfl
theorem x_227_219   : am_E d 227 Q (219, L, st, g) ↔ am_K d 227 Q (am_ldI 220 L st g 2) := am_E_iload_n (by decide +kernel : am_dc 227 219 = some (.iload_n 2)) rfl rfl
theorem x_227_220   : am_E d 227 Q (220, L, .int x :: st, g) ↔ am_E d 227 Q (am_cmp .lt x 0 238 223, L, st, g) := am_E_if (by decide +kernel : am_dc 227 220 = some (.ifCond .lt (18))) rfl rfl
theorem x_227_223   : am_E d 227 Q (223, L, st, g) ↔ am_K d 227 Q (am_ldI 224 L st g 2) := am_E_iload_n (by decide +kernel : am_dc 227 223 = some (.iload_n 2)) rfl rfl
theorem x_227_224   : am_E d 227 Q (224, L, st, g) ↔ am_K d 227 Q (am_ldI 226 L st g 5) := am_E_iload (by decide +kernel : am_dc 227 224 = some (.iload 5)) rfl
theorem x_227_226   : am_E d 227 Q (226, L, .int y :: .int x :: st, g) ↔ am_E d 227 Q (am_cmp .ge x y 238 229, L, st, g) := am_E_ic (by decide +kernel : am_dc 227 226 = some (.if_icmp .ge (12))) rfl rfl
theorem x_227_229   : am_E d 227 Q (229, L, st, g) ↔ am_K d 227 Q (am_ldA 230 L st g 0) := am_E_aload_n (by decide +kernel : am_dc 227 229 = some (.aload_n 0)) rfl rfl
theorem x_227_230   : am_E d 227 Q (230, L, .ref a :: st, g) ↔ am_kv d 227 Q 233 L st g (am_gf g a 11 68) := am_E_getfield (by decide +kernel : am_dc 227 230 = some (.getfield 161)) (by decide +kernel) rfl
theorem x_227_233   : am_E d 227 Q (233, L, st, g) ↔ am_K d 227 Q (am_ldI 234 L st g 2) := am_E_iload_n (by decide +kernel : am_dc 227 233 = some (.iload_n 2)) rfl rfl
theorem x_227_234   : am_E d 227 Q (234, L, .int x :: .ref a :: st, g) ↔ am_kv d 227 Q 235 L st g (am_iat .caload g a x) := am_E_caload (by decide +kernel : am_dc 227 234 = some (.caload)) rfl
theorem x_227_235   : am_E d 227 Q (235, L, st, g) ↔ am_E d 227 Q (239, L, st, g) := am_E_gt (by decide +kernel : am_dc 227 235 = some (.goto (4))) rfl rfl
theorem x_227_238   : am_E d 227 Q (238, L, st, g) ↔ am_E d 227 Q (239, L, .int (-1) :: st, g) := am_E_iconst (by decide +kernel : am_dc 227 238 = some (.iconst (-1))) (by decide) rfl
theorem x_227_239  : am_E d 227 Q (239, L, [.int x], g) ↔ if am_ok (FieldType.int) (.int x) = true then Q (.inl (some (.int x))) g else False := am_E_ireturn (by decide +kernel : am_dc 227 239 = some (.ireturn)) (by decide +kernel)
theorem v_227_418 : am_iv 227 418 = some (1, 159, 2) := by decide +kernel
theorem f_227_305 : am_fl 227 305 = some (11, 62) := by decide +kernel
theorem v_227_421 : am_iv 227 421 = some (0, 203, 2) := by decide +kernel
theorem f_227_308 : am_fl 227 308 = some (11, 63) := by decide +kernel
theorem f_227_161 : am_fl 227 161 = some (11, 68) := by decide +kernel
theorem k_227_382 : am_cl8 227 382 = some (1000) := by decide +kernel
theorem k_227_424 : am_cl8 227 424 = some (9) := by decide +kernel
theorem k_227_426 : am_cl8 227 426 = some (10) := by decide +kernel
theorem k_227_428 : am_cl8 227 428 = some (100) := by decide +kernel
theorem t_227 : am_t 227 = some (FieldType.int) := by decide +kernel
theorem h_227 : am_h 227 = [] := by decide +kernel
theorem m_227 : am_m 227 = 12 := by decide +kernel
theorem x_228_0   : am_E d 228 Q (0, L, st, g) ↔ am_E d 228 Q (1, L, .int (0) :: st, g) := am_E_iconst (by decide +kernel : am_dc 228 0 = some (.iconst (0))) (by decide) rfl
theorem x_228_1   : am_E d 228 Q (1, L, st, g) ↔ am_K d 228 Q (am_stI 2 L st g 2) := am_E_istore_n (by decide +kernel : am_dc 228 1 = some (.istore_n 2)) rfl rfl
theorem x_228_2   : am_E d 228 Q (2, L, st, g) ↔ am_E d 228 Q (3, L, .int (0) :: st, g) := am_E_iconst (by decide +kernel : am_dc 228 2 = some (.iconst (0))) (by decide) rfl
theorem x_228_3   : am_E d 228 Q (3, L, st, g) ↔ am_K d 228 Q (am_stI 4 L st g 3) := am_E_istore_n (by decide +kernel : am_dc 228 3 = some (.istore_n 3)) rfl rfl
theorem x_228_4   : am_E d 228 Q (4, L, st, g) ↔ am_K d 228 Q (am_ldI 5 L st g 3) := am_E_iload_n (by decide +kernel : am_dc 228 4 = some (.iload_n 3)) rfl rfl
theorem x_228_5   : am_E d 228 Q (5, L, st, g) ↔ am_E d 228 Q (6, L, .int (3) :: st, g) := am_E_iconst (by decide +kernel : am_dc 228 5 = some (.iconst (3))) (by decide) rfl
theorem x_228_6   : am_E d 228 Q (6, L, .int y :: .int x :: st, g) ↔ am_E d 228 Q (am_cmp .ge x y 53 9, L, st, g) := am_E_ic (by decide +kernel : am_dc 228 6 = some (.if_icmp .ge (47))) rfl rfl
theorem x_228_9   : am_E d 228 Q (9, L, st, g) ↔ am_K d 228 Q (am_ldA 10 L st g 0) := am_E_aload_n (by decide +kernel : am_dc 228 9 = some (.aload_n 0)) rfl rfl
theorem x_228_10   : am_E d 228 Q (10, L, .ref a :: st, g) ↔ am_kv d 228 Q 13 L st g (am_gf g a 11 12) := am_E_getfield (by decide +kernel : am_dc 228 10 = some (.getfield 42)) (by decide +kernel) rfl
theorem x_228_13   : am_E d 228 Q (13, L, st, g) ↔ am_E d 228 Q (14, L, .int (3) :: st, g) := am_E_iconst (by decide +kernel : am_dc 228 13 = some (.iconst (3))) (by decide) rfl
theorem x_228_14   : am_E d 228 Q (14, L, st, g) ↔ am_K d 228 Q (am_ldI 15 L st g 1) := am_E_iload_n (by decide +kernel : am_dc 228 14 = some (.iload_n 1)) rfl rfl
theorem x_228_15   : am_E d 228 Q (15, L, .int y :: .int x :: st, g) ↔ am_E d 228 Q (16, L, .int (x * y) :: st, g) := am_E_imul (by decide +kernel : am_dc 228 15 = some (.imul)) rfl
theorem x_228_16   : am_E d 228 Q (16, L, st, g) ↔ am_K d 228 Q (am_ldI 17 L st g 3) := am_E_iload_n (by decide +kernel : am_dc 228 16 = some (.iload_n 3)) rfl rfl
theorem x_228_17   : am_E d 228 Q (17, L, .int y :: .int x :: st, g) ↔ am_E d 228 Q (18, L, .int (x + y) :: st, g) := am_E_iadd (by decide +kernel : am_dc 228 17 = some (.iadd)) rfl
theorem x_228_18   : am_E d 228 Q (18, L, .int x :: .ref a :: st, g) ↔ am_kv d 228 Q 19 L st g (am_iat .iaload g a x) := am_E_iaload (by decide +kernel : am_dc 228 18 = some (.iaload)) rfl
theorem x_228_19   : am_E d 228 Q (19, L, .int x :: st, g) ↔ am_E d 228 Q (am_cmp .le x 0 45 22, L, st, g) := am_E_if (by decide +kernel : am_dc 228 19 = some (.ifCond .le (26))) rfl rfl
theorem x_228_22   : am_E d 228 Q (22, L, st, g) ↔ am_K d 228 Q (am_ldI 23 L st g 2) := am_E_iload_n (by decide +kernel : am_dc 228 22 = some (.iload_n 2)) rfl rfl
theorem x_228_23   : am_E d 228 Q (23, L, st, g) ↔ am_E d 228 Q (25, L, .int (100) :: st, g) := am_E_bipush (by decide +kernel : am_dc 228 23 = some (.bipush (100))) (by decide) rfl
theorem x_228_25   : am_E d 228 Q (25, L, .int y :: .int x :: st, g) ↔ am_E d 228 Q (26, L, .int (x + y) :: st, g) := am_E_iadd (by decide +kernel : am_dc 228 25 = some (.iadd)) rfl
theorem x_228_26   : am_E d 228 Q (26, L, st, g) ↔ am_K d 228 Q (am_ldA 27 L st g 0) := am_E_aload_n (by decide +kernel : am_dc 228 26 = some (.aload_n 0)) rfl rfl
theorem x_228_27   : am_E d 228 Q (27, L, st, g) ↔ am_K d 228 Q (am_ldI 28 L st g 3) := am_E_iload_n (by decide +kernel : am_dc 228 27 = some (.iload_n 3)) rfl rfl
theorem x_228_28   : am_E d 228 Q (28, L, st, g) ↔ am_K d 228 Q (am_ldA 29 L st g 0) := am_E_aload_n (by decide +kernel : am_dc 228 28 = some (.aload_n 0)) rfl rfl
theorem x_228_29   : am_E d 228 Q (29, L, .ref a :: st, g) ↔ am_kv d 228 Q 32 L st g (am_gf g a 11 13) := am_E_getfield (by decide +kernel : am_dc 228 29 = some (.getfield 45)) (by decide +kernel) rfl
theorem x_228_32   : am_E d 228 Q (32, L, st, g) ↔ am_E d 228 Q (33, L, .int (3) :: st, g) := am_E_iconst (by decide +kernel : am_dc 228 32 = some (.iconst (3))) (by decide) rfl
theorem x_228_33   : am_E d 228 Q (33, L, st, g) ↔ am_K d 228 Q (am_ldI 34 L st g 1) := am_E_iload_n (by decide +kernel : am_dc 228 33 = some (.iload_n 1)) rfl rfl
theorem x_228_34   : am_E d 228 Q (34, L, .int y :: .int x :: st, g) ↔ am_E d 228 Q (35, L, .int (x * y) :: st, g) := am_E_imul (by decide +kernel : am_dc 228 34 = some (.imul)) rfl
theorem x_228_35   : am_E d 228 Q (35, L, st, g) ↔ am_K d 228 Q (am_ldI 36 L st g 3) := am_E_iload_n (by decide +kernel : am_dc 228 35 = some (.iload_n 3)) rfl rfl
theorem x_228_36   : am_E d 228 Q (36, L, .int y :: .int x :: st, g) ↔ am_E d 228 Q (37, L, .int (x + y) :: st, g) := am_E_iadd (by decide +kernel : am_dc 228 36 = some (.iadd)) rfl
theorem x_228_37   : am_E d 228 Q (37, L, .int x :: .ref a :: st, g) ↔ am_kv d 228 Q 38 L st g (am_iat .iaload g a x) := am_E_iaload (by decide +kernel : am_dc 228 37 = some (.iaload)) rfl
theorem x_228_38  : am_E d 228 Q (38, L, st, g) ↔ am_K d 228 Q (am_S 228 (.invokevirtual 207) 38 L st g) := am_E_x (by decide +kernel : am_dc 228 38 = some (.invokevirtual 207))
theorem x_228_41   : am_E d 228 Q (41, L, .int y :: .int x :: st, g) ↔ am_E d 228 Q (42, L, .int (x + y) :: st, g) := am_E_iadd (by decide +kernel : am_dc 228 41 = some (.iadd)) rfl
theorem x_228_42   : am_E d 228 Q (42, L, st, g) ↔ am_E d 228 Q (46, L, st, g) := am_E_gt (by decide +kernel : am_dc 228 42 = some (.goto (4))) rfl rfl
theorem x_228_45   : am_E d 228 Q (45, L, st, g) ↔ am_K d 228 Q (am_ldI 46 L st g 2) := am_E_iload_n (by decide +kernel : am_dc 228 45 = some (.iload_n 2)) rfl rfl
theorem x_228_46   : am_E d 228 Q (46, L, st, g) ↔ am_K d 228 Q (am_stI 47 L st g 2) := am_E_istore_n (by decide +kernel : am_dc 228 46 = some (.istore_n 2)) rfl rfl
theorem x_228_47   (hk : L.getD 3 none = some (.int x)) (hl : 3 < L.length) : am_E d 228 Q (47, L, st, g) ↔ am_E d 228 Q (50, am_s1 L 3 (.int (x + (1))), st, g) := am_E_iinc (by decide +kernel : am_dc 228 47 = some (.iinc 3 (1))) (by decide) rfl hk hl
theorem x_228_50   : am_E d 228 Q (50, L, st, g) ↔ am_E d 228 Q (4, L, st, g) := am_E_gt (by decide +kernel : am_dc 228 50 = some (.goto (-46))) rfl rfl
theorem x_228_53   : am_E d 228 Q (53, L, st, g) ↔ am_K d 228 Q (am_ldI 54 L st g 2) := am_E_iload_n (by decide +kernel : am_dc 228 53 = some (.iload_n 2)) rfl rfl
theorem x_228_54  : am_E d 228 Q (54, L, [.int x], g) ↔ if am_ok (FieldType.int) (.int x) = true then Q (.inl (some (.int x))) g else False := am_E_ireturn (by decide +kernel : am_dc 228 54 = some (.ireturn)) (by decide +kernel)
theorem f_228_42 : am_fl 228 42 = some (11, 12) := by decide +kernel
theorem f_228_45 : am_fl 228 45 = some (11, 13) := by decide +kernel
theorem v_228_207 : am_iv 228 207 = some (1, 168, 3) := by decide +kernel
theorem t_228 : am_t 228 = some (FieldType.int) := by decide +kernel
theorem h_228 : am_h 228 = [] := by decide +kernel
theorem m_228 : am_m 228 = 4 := by decide +kernel
theorem x_229_0   : am_E d 229 Q (0, L, st, g) ↔ am_K d 229 Q (am_ldA 1 L st g 0) := am_E_aload_n (by decide +kernel : am_dc 229 0 = some (.aload_n 0)) rfl rfl
theorem x_229_1  : am_E d 229 Q (1, L, st, g) ↔ am_K d 229 Q (am_S 229 (.invokevirtual 402) 1 L st g) := am_E_x (by decide +kernel : am_dc 229 1 = some (.invokevirtual 402))
theorem x_229_4   : am_E d 229 Q (4, L, st, g) ↔ am_K d 229 Q (am_stI 5 L st g 3) := am_E_istore_n (by decide +kernel : am_dc 229 4 = some (.istore_n 3)) rfl rfl
theorem x_229_5   : am_E d 229 Q (5, L, st, g) ↔ am_K d 229 Q (am_ldA 6 L st g 0) := am_E_aload_n (by decide +kernel : am_dc 229 5 = some (.aload_n 0)) rfl rfl
theorem x_229_6   : am_E d 229 Q (6, L, st, g) ↔ am_K d 229 Q (am_ldI 7 L st g 1) := am_E_iload_n (by decide +kernel : am_dc 229 6 = some (.iload_n 1)) rfl rfl
theorem x_229_7  : am_E d 229 Q (7, L, st, g) ↔ am_K d 229 Q (am_S 229 (.invokevirtual 399) 7 L st g) := am_E_x (by decide +kernel : am_dc 229 7 = some (.invokevirtual 399))
theorem x_229_10   : am_E d 229 Q (10, L, .int x :: st, g) ↔ am_E d 229 Q (am_cmp .eq x 0 21 13, L, st, g) := am_E_if (by decide +kernel : am_dc 229 10 = some (.ifCond .eq (11))) rfl rfl
theorem x_229_13   : am_E d 229 Q (13, L, st, g) ↔ am_K d 229 Q (am_ldI 14 L st g 3) := am_E_iload_n (by decide +kernel : am_dc 229 13 = some (.iload_n 3)) rfl rfl
theorem x_229_14   : am_E d 229 Q (14, L, .int x :: st, g) ↔ am_E d 229 Q (am_cmp .lt x 0 21 17, L, st, g) := am_E_if (by decide +kernel : am_dc 229 14 = some (.ifCond .lt (7))) rfl rfl
theorem x_229_17   : am_E d 229 Q (17, L, st, g) ↔ am_E d 229 Q (18, L, .int (1) :: st, g) := am_E_iconst (by decide +kernel : am_dc 229 17 = some (.iconst (1))) (by decide) rfl
theorem x_229_18   : am_E d 229 Q (18, L, st, g) ↔ am_E d 229 Q (22, L, st, g) := am_E_gt (by decide +kernel : am_dc 229 18 = some (.goto (4))) rfl rfl
theorem x_229_21   : am_E d 229 Q (21, L, st, g) ↔ am_E d 229 Q (22, L, .int (0) :: st, g) := am_E_iconst (by decide +kernel : am_dc 229 21 = some (.iconst (0))) (by decide) rfl
theorem x_229_22   : am_E d 229 Q (22, L, st, g) ↔ am_K d 229 Q (am_stI 24 L st g 4) := am_E_istore (by decide +kernel : am_dc 229 22 = some (.istore 4)) rfl
theorem x_229_24   : am_E d 229 Q (24, L, st, g) ↔ am_K d 229 Q (am_ldI 26 L st g 4) := am_E_iload (by decide +kernel : am_dc 229 24 = some (.iload 4)) rfl
theorem x_229_26   : am_E d 229 Q (26, L, .int x :: st, g) ↔ am_E d 229 Q (am_cmp .eq x 0 37 29, L, st, g) := am_E_if (by decide +kernel : am_dc 229 26 = some (.ifCond .eq (11))) rfl rfl
theorem x_229_29   : am_E d 229 Q (29, L, st, g) ↔ am_K d 229 Q (am_ldA 30 L st g 0) := am_E_aload_n (by decide +kernel : am_dc 229 29 = some (.aload_n 0)) rfl rfl
theorem x_229_30   : am_E d 229 Q (30, L, st, g) ↔ am_K d 229 Q (am_ldI 31 L st g 3) := am_E_iload_n (by decide +kernel : am_dc 229 30 = some (.iload_n 3)) rfl rfl
theorem x_229_31  : am_E d 229 Q (31, L, st, g) ↔ am_K d 229 Q (am_S 229 (.invokevirtual 433) 31 L st g) := am_E_x (by decide +kernel : am_dc 229 31 = some (.invokevirtual 433))
theorem x_229_34   : am_E d 229 Q (34, L, st, g) ↔ am_E d 229 Q (38, L, st, g) := am_E_gt (by decide +kernel : am_dc 229 34 = some (.goto (4))) rfl rfl
theorem x_229_37   : am_E d 229 Q (37, L, st, g) ↔ am_E d 229 Q (38, L, .int (0) :: st, g) := am_E_iconst (by decide +kernel : am_dc 229 37 = some (.iconst (0))) (by decide) rfl
theorem x_229_38   : am_E d 229 Q (38, L, st, g) ↔ am_K d 229 Q (am_stI 40 L st g 5) := am_E_istore (by decide +kernel : am_dc 229 38 = some (.istore 5)) rfl
theorem x_229_40   : am_E d 229 Q (40, L, st, g) ↔ am_E d 229 Q (41, L, .long (0) :: st, g) := am_E_lconst (by decide +kernel : am_dc 229 40 = some (.lconst 0)) (by decide) rfl
theorem x_229_41   : am_E d 229 Q (41, L, st, g) ↔ am_K d 229 Q (am_stL 43 L st g 6) := am_E_lstore (by decide +kernel : am_dc 229 41 = some (.lstore 6)) rfl
theorem x_229_43   : am_E d 229 Q (43, L, st, g) ↔ am_K d 229 Q (am_ldI 45 L st g 4) := am_E_iload (by decide +kernel : am_dc 229 43 = some (.iload 4)) rfl
theorem x_229_45   : am_E d 229 Q (45, L, .int x :: st, g) ↔ am_E d 229 Q (am_cmp .eq x 0 69 48, L, st, g) := am_E_if (by decide +kernel : am_dc 229 45 = some (.ifCond .eq (24))) rfl rfl
theorem x_229_48   : am_E d 229 Q (48, L, st, g) ↔ am_K d 229 Q (am_ldI 50 L st g 5) := am_E_iload (by decide +kernel : am_dc 229 48 = some (.iload 5)) rfl
theorem x_229_50   : am_E d 229 Q (50, L, st, g) ↔ am_K d 229 Q (am_ldA 51 L st g 0) := am_E_aload_n (by decide +kernel : am_dc 229 50 = some (.aload_n 0)) rfl rfl
theorem x_229_51   : am_E d 229 Q (51, L, .ref a :: st, g) ↔ am_kv d 229 Q 54 L st g (am_gf g a 11 65) := am_E_getfield (by decide +kernel : am_dc 229 51 = some (.getfield 152)) (by decide +kernel) rfl
theorem x_229_54   : am_E d 229 Q (54, L, .int y :: .int x :: st, g) ↔ am_E d 229 Q (am_cmp .gt x y 69 57, L, st, g) := am_E_ic (by decide +kernel : am_dc 229 54 = some (.if_icmp .gt (15))) rfl rfl
theorem x_229_57   : am_E d 229 Q (57, L, st, g) ↔ am_K d 229 Q (am_ldA 58 L st g 0) := am_E_aload_n (by decide +kernel : am_dc 229 57 = some (.aload_n 0)) rfl rfl
theorem x_229_58   : am_E d 229 Q (58, L, st, g) ↔ am_K d 229 Q (am_ldI 59 L st g 3) := am_E_iload_n (by decide +kernel : am_dc 229 58 = some (.iload_n 3)) rfl rfl
theorem x_229_59  : am_E d 229 Q (59, L, st, g) ↔ am_K d 229 Q (am_S 229 (.invokevirtual 436) 59 L st g) := am_E_x (by decide +kernel : am_dc 229 59 = some (.invokevirtual 436))
theorem x_229_62   : am_E d 229 Q (62, L, .int x :: st, g) ↔ am_E d 229 Q (am_cmp .eq x 0 69 65, L, st, g) := am_E_if (by decide +kernel : am_dc 229 62 = some (.ifCond .eq (7))) rfl rfl
theorem x_229_65   : am_E d 229 Q (65, L, st, g) ↔ am_E d 229 Q (66, L, .int (1) :: st, g) := am_E_iconst (by decide +kernel : am_dc 229 65 = some (.iconst (1))) (by decide) rfl
theorem x_229_66   : am_E d 229 Q (66, L, st, g) ↔ am_E d 229 Q (70, L, st, g) := am_E_gt (by decide +kernel : am_dc 229 66 = some (.goto (4))) rfl rfl
theorem x_229_69   : am_E d 229 Q (69, L, st, g) ↔ am_E d 229 Q (70, L, .int (0) :: st, g) := am_E_iconst (by decide +kernel : am_dc 229 69 = some (.iconst (0))) (by decide) rfl
theorem x_229_70   : am_E d 229 Q (70, L, st, g) ↔ am_K d 229 Q (am_stI 72 L st g 8) := am_E_istore (by decide +kernel : am_dc 229 70 = some (.istore 8)) rfl
theorem x_229_72   : am_E d 229 Q (72, L, st, g) ↔ am_E d 229 Q (73, L, .int (0) :: st, g) := am_E_iconst (by decide +kernel : am_dc 229 72 = some (.iconst (0))) (by decide) rfl
theorem x_229_73   : am_E d 229 Q (73, L, st, g) ↔ am_K d 229 Q (am_stI 75 L st g 9) := am_E_istore (by decide +kernel : am_dc 229 73 = some (.istore 9)) rfl
theorem x_229_75   : am_E d 229 Q (75, L, st, g) ↔ am_K d 229 Q (am_ldI 77 L st g 9) := am_E_iload (by decide +kernel : am_dc 229 75 = some (.iload 9)) rfl
theorem x_229_77   : am_E d 229 Q (77, L, st, g) ↔ am_K d 229 Q (am_ldI 79 L st g 5) := am_E_iload (by decide +kernel : am_dc 229 77 = some (.iload 5)) rfl
theorem x_229_79   : am_E d 229 Q (79, L, .int y :: .int x :: st, g) ↔ am_E d 229 Q (am_cmp .ge x y 128 82, L, st, g) := am_E_ic (by decide +kernel : am_dc 229 79 = some (.if_icmp .ge (49))) rfl rfl
theorem x_229_82   : am_E d 229 Q (82, L, st, g) ↔ am_K d 229 Q (am_ldA 83 L st g 0) := am_E_aload_n (by decide +kernel : am_dc 229 82 = some (.aload_n 0)) rfl rfl
theorem x_229_83   : am_E d 229 Q (83, L, st, g) ↔ am_K d 229 Q (am_ldA 84 L st g 0) := am_E_aload_n (by decide +kernel : am_dc 229 83 = some (.aload_n 0)) rfl rfl
theorem x_229_84   : am_E d 229 Q (84, L, .ref a :: st, g) ↔ am_kv d 229 Q 87 L st g (am_gf g a 11 67) := am_E_getfield (by decide +kernel : am_dc 229 84 = some (.getfield 158)) (by decide +kernel) rfl
theorem x_229_87   : am_E d 229 Q (87, L, st, g) ↔ am_K d 229 Q (am_ldI 89 L st g 9) := am_E_iload (by decide +kernel : am_dc 229 87 = some (.iload 9)) rfl
theorem x_229_89   : am_E d 229 Q (89, L, .int x :: .ref a :: st, g) ↔ am_kv d 229 Q 90 L st g (am_iat .iaload g a x) := am_E_iaload (by decide +kernel : am_dc 229 89 = some (.iaload)) rfl
theorem x_229_90   : am_E d 229 Q (90, L, st, g) ↔ am_K d 229 Q (am_ldI 91 L st g 1) := am_E_iload_n (by decide +kernel : am_dc 229 90 = some (.iload_n 1)) rfl rfl
theorem x_229_91  : am_E d 229 Q (91, L, st, g) ↔ am_K d 229 Q (am_S 229 (.invokevirtual 439) 91 L st g) := am_E_x (by decide +kernel : am_dc 229 91 = some (.invokevirtual 439))
theorem x_229_94   : am_E d 229 Q (94, L, st, g) ↔ am_K d 229 Q (am_stL 96 L st g 10) := am_E_lstore (by decide +kernel : am_dc 229 94 = some (.lstore 10)) rfl
theorem x_229_96   : am_E d 229 Q (96, L, st, g) ↔ am_K d 229 Q (am_ldL 98 L st g 6) := am_E_lload (by decide +kernel : am_dc 229 96 = some (.lload 6)) rfl
theorem x_229_98   : am_E d 229 Q (98, L, st, g) ↔ am_K d 229 Q (am_ldL 100 L st g 10) := am_E_lload (by decide +kernel : am_dc 229 98 = some (.lload 10)) rfl
theorem x_229_100   : am_E d 229 Q (100, L, .long w :: .long u :: st, g) ↔ am_E d 229 Q (101, L, .long (u + w) :: st, g) := am_E_ladd (by decide +kernel : am_dc 229 100 = some (.ladd)) rfl
theorem x_229_101   : am_E d 229 Q (101, L, st, g) ↔ am_K d 229 Q (am_stL 103 L st g 6) := am_E_lstore (by decide +kernel : am_dc 229 101 = some (.lstore 6)) rfl
theorem x_229_103   : am_E d 229 Q (103, L, st, g) ↔ am_K d 229 Q (am_ldI 105 L st g 8) := am_E_iload (by decide +kernel : am_dc 229 103 = some (.iload 8)) rfl
theorem x_229_105   : am_E d 229 Q (105, L, .int x :: st, g) ↔ am_E d 229 Q (am_cmp .eq x 0 119 108, L, st, g) := am_E_if (by decide +kernel : am_dc 229 105 = some (.ifCond .eq (14))) rfl rfl
theorem x_229_108   : am_E d 229 Q (108, L, st, g) ↔ am_K d 229 Q (am_ldL 110 L st g 10) := am_E_lload (by decide +kernel : am_dc 229 108 = some (.lload 10)) rfl
theorem x_229_110   : am_E d 229 Q (110, L, st, g) ↔ am_E d 229 Q (111, L, .long (0) :: st, g) := am_E_lconst (by decide +kernel : am_dc 229 110 = some (.lconst 0)) (by decide) rfl
theorem x_229_111   : am_E d 229 Q (111, L, .long w :: .long u :: st, g) ↔ am_E d 229 Q (112, L, .int (lg_cmp u w) :: st, g) := am_E_lcmp (by decide +kernel : am_dc 229 111 = some (.lcmp)) rfl
theorem x_229_112   : am_E d 229 Q (112, L, .int x :: st, g) ↔ am_E d 229 Q (am_cmp .lt x 0 119 115, L, st, g) := am_E_if (by decide +kernel : am_dc 229 112 = some (.ifCond .lt (7))) rfl rfl
theorem x_229_115   : am_E d 229 Q (115, L, st, g) ↔ am_E d 229 Q (116, L, .int (1) :: st, g) := am_E_iconst (by decide +kernel : am_dc 229 115 = some (.iconst (1))) (by decide) rfl
theorem x_229_116   : am_E d 229 Q (116, L, st, g) ↔ am_E d 229 Q (120, L, st, g) := am_E_gt (by decide +kernel : am_dc 229 116 = some (.goto (4))) rfl rfl
theorem x_229_119   : am_E d 229 Q (119, L, st, g) ↔ am_E d 229 Q (120, L, .int (0) :: st, g) := am_E_iconst (by decide +kernel : am_dc 229 119 = some (.iconst (0))) (by decide) rfl
theorem x_229_120   : am_E d 229 Q (120, L, st, g) ↔ am_K d 229 Q (am_stI 122 L st g 8) := am_E_istore (by decide +kernel : am_dc 229 120 = some (.istore 8)) rfl
theorem x_229_122   (hk : L.getD 9 none = some (.int x)) (hl : 9 < L.length) : am_E d 229 Q (122, L, st, g) ↔ am_E d 229 Q (125, am_s1 L 9 (.int (x + (1))), st, g) := am_E_iinc (by decide +kernel : am_dc 229 122 = some (.iinc 9 (1))) (by decide) rfl hk hl
theorem x_229_125   : am_E d 229 Q (125, L, st, g) ↔ am_E d 229 Q (75, L, st, g) := am_E_gt (by decide +kernel : am_dc 229 125 = some (.goto (-50))) rfl rfl
theorem x_229_128   : am_E d 229 Q (128, L, st, g) ↔ am_K d 229 Q (am_ldA 129 L st g 0) := am_E_aload_n (by decide +kernel : am_dc 229 128 = some (.aload_n 0)) rfl rfl
theorem x_229_129   : am_E d 229 Q (129, L, st, g) ↔ am_K d 229 Q (am_ldI 131 L st g 4) := am_E_iload (by decide +kernel : am_dc 229 129 = some (.iload 4)) rfl
theorem x_229_131   : am_E d 229 Q (131, L, st, g) ↔ am_K d 229 Q (am_ldI 132 L st g 2) := am_E_iload_n (by decide +kernel : am_dc 229 131 = some (.iload_n 2)) rfl rfl
theorem x_229_132   : am_E d 229 Q (132, L, .int x :: st, g) ↔ am_E d 229 Q (133, L, .long x.toInt64 :: st, g) := am_E_i2l (by decide +kernel : am_dc 229 132 = some (.i2l)) rfl
theorem x_229_133  : am_E d 229 Q (133, L, st, g) ↔ am_K d 229 Q (am_S 229 (.invokestatic 301) 133 L st g) := am_E_x (by decide +kernel : am_dc 229 133 = some (.invokestatic 301))
theorem x_229_136   : am_E d 229 Q (136, L, st, g) ↔ am_K d 229 Q (am_ldI 138 L st g 8) := am_E_iload (by decide +kernel : am_dc 229 136 = some (.iload 8)) rfl
theorem x_229_138   : am_E d 229 Q (138, L, .int x :: st, g) ↔ am_E d 229 Q (am_cmp .eq x 0 153 141, L, st, g) := am_E_if (by decide +kernel : am_dc 229 138 = some (.ifCond .eq (15))) rfl rfl
theorem x_229_141   : am_E d 229 Q (141, L, st, g) ↔ am_K d 229 Q (am_ldL 143 L st g 6) := am_E_lload (by decide +kernel : am_dc 229 141 = some (.lload 6)) rfl
theorem x_229_143  : am_E d 229 Q (143, L, st, g) ↔ am_K d 229 Q (am_S 229 (.invokestatic 301) 143 L st g) := am_E_x (by decide +kernel : am_dc 229 143 = some (.invokestatic 301))
theorem x_229_146   : am_E d 229 Q (146, L, .int x :: st, g) ↔ am_E d 229 Q (am_cmp .eq x 0 153 149, L, st, g) := am_E_if (by decide +kernel : am_dc 229 146 = some (.ifCond .eq (7))) rfl rfl
theorem x_229_149   : am_E d 229 Q (149, L, st, g) ↔ am_E d 229 Q (150, L, .int (1) :: st, g) := am_E_iconst (by decide +kernel : am_dc 229 149 = some (.iconst (1))) (by decide) rfl
theorem x_229_150   : am_E d 229 Q (150, L, st, g) ↔ am_E d 229 Q (154, L, st, g) := am_E_gt (by decide +kernel : am_dc 229 150 = some (.goto (4))) rfl rfl
theorem x_229_153   : am_E d 229 Q (153, L, st, g) ↔ am_E d 229 Q (154, L, .int (0) :: st, g) := am_E_iconst (by decide +kernel : am_dc 229 153 = some (.iconst (0))) (by decide) rfl
theorem x_229_154  : am_E d 229 Q (154, L, st, g) ↔ am_K d 229 Q (am_S 229 (.invokevirtual 196) 154 L st g) := am_E_x (by decide +kernel : am_dc 229 154 = some (.invokevirtual 196))
theorem x_229_157   : am_E d 229 Q (157, L, .int x :: st, g) ↔ am_E d 229 Q (am_cmp .ne x 0 162 160, L, st, g) := am_E_if (by decide +kernel : am_dc 229 157 = some (.ifCond .ne (5))) rfl rfl
theorem x_229_160   : am_E d 229 Q (160, L, st, g) ↔ am_E d 229 Q (161, L, .int (0) :: st, g) := am_E_iconst (by decide +kernel : am_dc 229 160 = some (.iconst (0))) (by decide) rfl
theorem x_229_161  : am_E d 229 Q (161, L, [.int x], g) ↔ if am_ok (FieldType.int) (.int x) = true then Q (.inl (some (.int x))) g else False := am_E_ireturn (by decide +kernel : am_dc 229 161 = some (.ireturn)) (by decide +kernel)
theorem x_229_162   : am_E d 229 Q (162, L, st, g) ↔ am_K d 229 Q (am_ldA 163 L st g 0) := am_E_aload_n (by decide +kernel : am_dc 229 162 = some (.aload_n 0)) rfl rfl
theorem x_229_163   : am_E d 229 Q (163, L, st, g) ↔ am_K d 229 Q (am_ldI 164 L st g 1) := am_E_iload_n (by decide +kernel : am_dc 229 163 = some (.iload_n 1)) rfl rfl
theorem x_229_164  : am_E d 229 Q (164, L, st, g) ↔ am_K d 229 Q (am_S 229 (.invokevirtual 411) 164 L st g) := am_E_x (by decide +kernel : am_dc 229 164 = some (.invokevirtual 411))
theorem x_229_167   : am_E d 229 Q (167, L, st, g) ↔ am_E d 229 Q (168, L, .long (0) :: st, g) := am_E_lconst (by decide +kernel : am_dc 229 167 = some (.lconst 0)) (by decide) rfl
theorem x_229_168   : am_E d 229 Q (168, L, st, g) ↔ am_K d 229 Q (am_stL 170 L st g 9) := am_E_lstore (by decide +kernel : am_dc 229 168 = some (.lstore 9)) rfl
theorem x_229_170   : am_E d 229 Q (170, L, st, g) ↔ am_E d 229 Q (171, L, .long (0) :: st, g) := am_E_lconst (by decide +kernel : am_dc 229 170 = some (.lconst 0)) (by decide) rfl
theorem x_229_171   : am_E d 229 Q (171, L, st, g) ↔ am_K d 229 Q (am_stL 173 L st g 11) := am_E_lstore (by decide +kernel : am_dc 229 171 = some (.lstore 11)) rfl
theorem x_229_173   : am_E d 229 Q (173, L, st, g) ↔ am_E d 229 Q (174, L, .int (0) :: st, g) := am_E_iconst (by decide +kernel : am_dc 229 173 = some (.iconst (0))) (by decide) rfl
theorem x_229_174   : am_E d 229 Q (174, L, st, g) ↔ am_K d 229 Q (am_stI 176 L st g 13) := am_E_istore (by decide +kernel : am_dc 229 174 = some (.istore 13)) rfl
theorem x_229_176   : am_E d 229 Q (176, L, st, g) ↔ am_K d 229 Q (am_ldI 178 L st g 13) := am_E_iload (by decide +kernel : am_dc 229 176 = some (.iload 13)) rfl
theorem x_229_178   : am_E d 229 Q (178, L, st, g) ↔ am_K d 229 Q (am_ldI 180 L st g 5) := am_E_iload (by decide +kernel : am_dc 229 178 = some (.iload 5)) rfl
theorem x_229_180   : am_E d 229 Q (180, L, .int y :: .int x :: st, g) ↔ am_E d 229 Q (am_cmp .ge x y 272 183, L, st, g) := am_E_ic (by decide +kernel : am_dc 229 180 = some (.if_icmp .ge (92))) rfl rfl
theorem x_229_183   : am_E d 229 Q (183, L, st, g) ↔ am_K d 229 Q (am_ldL 185 L st g 6) := am_E_lload (by decide +kernel : am_dc 229 183 = some (.lload 6)) rfl
theorem x_229_185   : am_E d 229 Q (185, L, st, g) ↔ am_E d 229 Q (186, L, .long (0) :: st, g) := am_E_lconst (by decide +kernel : am_dc 229 185 = some (.lconst 0)) (by decide) rfl
theorem x_229_186   : am_E d 229 Q (186, L, .long w :: .long u :: st, g) ↔ am_E d 229 Q (187, L, .int (lg_cmp u w) :: st, g) := am_E_lcmp (by decide +kernel : am_dc 229 186 = some (.lcmp)) rfl
theorem x_229_187   : am_E d 229 Q (187, L, .int x :: st, g) ↔ am_E d 229 Q (am_cmp .ne x 0 198 190, L, st, g) := am_E_if (by decide +kernel : am_dc 229 187 = some (.ifCond .ne (11))) rfl rfl
theorem x_229_190   : am_E d 229 Q (190, L, st, g) ↔ am_K d 229 Q (am_ldI 192 L st g 13) := am_E_iload (by decide +kernel : am_dc 229 190 = some (.iload 13)) rfl
theorem x_229_192   : am_E d 229 Q (192, L, st, g) ↔ am_E d 229 Q (193, L, .int (1) :: st, g) := am_E_iconst (by decide +kernel : am_dc 229 192 = some (.iconst (1))) (by decide) rfl
theorem x_229_193   : am_E d 229 Q (193, L, .int y :: .int x :: st, g) ↔ am_E d 229 Q (194, L, .int (x + y) :: st, g) := am_E_iadd (by decide +kernel : am_dc 229 193 = some (.iadd)) rfl
theorem x_229_194   : am_E d 229 Q (194, L, .int x :: st, g) ↔ am_E d 229 Q (195, L, .long x.toInt64 :: st, g) := am_E_i2l (by decide +kernel : am_dc 229 194 = some (.i2l)) rfl
theorem x_229_195   : am_E d 229 Q (195, L, st, g) ↔ am_E d 229 Q (213, L, st, g) := am_E_gt (by decide +kernel : am_dc 229 195 = some (.goto (18))) rfl rfl
theorem x_229_198   : am_E d 229 Q (198, L, st, g) ↔ am_K d 229 Q (am_ldL 200 L st g 9) := am_E_lload (by decide +kernel : am_dc 229 198 = some (.lload 9)) rfl
theorem x_229_200   : am_E d 229 Q (200, L, st, g) ↔ am_K d 229 Q (am_ldA 201 L st g 0) := am_E_aload_n (by decide +kernel : am_dc 229 200 = some (.aload_n 0)) rfl rfl
theorem x_229_201   : am_E d 229 Q (201, L, st, g) ↔ am_K d 229 Q (am_ldA 202 L st g 0) := am_E_aload_n (by decide +kernel : am_dc 229 201 = some (.aload_n 0)) rfl rfl
theorem x_229_202   : am_E d 229 Q (202, L, .ref a :: st, g) ↔ am_kv d 229 Q 205 L st g (am_gf g a 11 67) := am_E_getfield (by decide +kernel : am_dc 229 202 = some (.getfield 158)) (by decide +kernel) rfl
theorem x_229_205   : am_E d 229 Q (205, L, st, g) ↔ am_K d 229 Q (am_ldI 207 L st g 13) := am_E_iload (by decide +kernel : am_dc 229 205 = some (.iload 13)) rfl
theorem x_229_207   : am_E d 229 Q (207, L, .int x :: .ref a :: st, g) ↔ am_kv d 229 Q 208 L st g (am_iat .iaload g a x) := am_E_iaload (by decide +kernel : am_dc 229 207 = some (.iaload)) rfl
theorem x_229_208   : am_E d 229 Q (208, L, st, g) ↔ am_K d 229 Q (am_ldI 209 L st g 1) := am_E_iload_n (by decide +kernel : am_dc 229 208 = some (.iload_n 1)) rfl rfl
theorem x_229_209  : am_E d 229 Q (209, L, st, g) ↔ am_K d 229 Q (am_S 229 (.invokevirtual 439) 209 L st g) := am_E_x (by decide +kernel : am_dc 229 209 = some (.invokevirtual 439))
theorem x_229_212   : am_E d 229 Q (212, L, .long w :: .long u :: st, g) ↔ am_E d 229 Q (213, L, .long (u + w) :: st, g) := am_E_ladd (by decide +kernel : am_dc 229 212 = some (.ladd)) rfl
theorem x_229_213   : am_E d 229 Q (213, L, st, g) ↔ am_K d 229 Q (am_stL 215 L st g 9) := am_E_lstore (by decide +kernel : am_dc 229 213 = some (.lstore 9)) rfl
theorem x_229_215   : am_E d 229 Q (215, L, st, g) ↔ am_K d 229 Q (am_ldL 217 L st g 6) := am_E_lload (by decide +kernel : am_dc 229 215 = some (.lload 6)) rfl
theorem x_229_217   : am_E d 229 Q (217, L, st, g) ↔ am_E d 229 Q (218, L, .long (0) :: st, g) := am_E_lconst (by decide +kernel : am_dc 229 217 = some (.lconst 0)) (by decide) rfl
theorem x_229_218   : am_E d 229 Q (218, L, .long w :: .long u :: st, g) ↔ am_E d 229 Q (219, L, .int (lg_cmp u w) :: st, g) := am_E_lcmp (by decide +kernel : am_dc 229 218 = some (.lcmp)) rfl
theorem x_229_219   : am_E d 229 Q (219, L, .int x :: st, g) ↔ am_E d 229 Q (am_cmp .ne x 0 234 222, L, st, g) := am_E_if (by decide +kernel : am_dc 229 219 = some (.ifCond .ne (15))) rfl rfl
theorem x_229_222   : am_E d 229 Q (222, L, st, g) ↔ am_K d 229 Q (am_ldI 223 L st g 2) := am_E_iload_n (by decide +kernel : am_dc 229 222 = some (.iload_n 2)) rfl rfl
theorem x_229_223   : am_E d 229 Q (223, L, .int x :: st, g) ↔ am_E d 229 Q (224, L, .long x.toInt64 :: st, g) := am_E_i2l (by decide +kernel : am_dc 229 223 = some (.i2l)) rfl
theorem x_229_224   : am_E d 229 Q (224, L, st, g) ↔ am_K d 229 Q (am_ldL 226 L st g 9) := am_E_lload (by decide +kernel : am_dc 229 224 = some (.lload 9)) rfl
theorem x_229_226   : am_E d 229 Q (226, L, .long w :: .long u :: st, g) ↔ am_E d 229 Q (227, L, .long (u * w) :: st, g) := am_E_lmul (by decide +kernel : am_dc 229 226 = some (.lmul)) rfl
theorem x_229_227   : am_E d 229 Q (227, L, st, g) ↔ am_K d 229 Q (am_ldI 229 L st g 5) := am_E_iload (by decide +kernel : am_dc 229 227 = some (.iload 5)) rfl
theorem x_229_229   : am_E d 229 Q (229, L, .int x :: st, g) ↔ am_E d 229 Q (230, L, .long x.toInt64 :: st, g) := am_E_i2l (by decide +kernel : am_dc 229 229 = some (.i2l)) rfl
theorem x_229_230   : am_E d 229 Q (230, L, .long w :: .long u :: st, g) ↔ if w = 0 then False else am_E d 229 Q (231, L, .long (u / w) :: st, g) := am_E_ldiv (by decide +kernel : am_dc 229 230 = some (.ldiv)) rfl
theorem x_229_231   : am_E d 229 Q (231, L, st, g) ↔ am_E d 229 Q (242, L, st, g) := am_E_gt (by decide +kernel : am_dc 229 231 = some (.goto (11))) rfl rfl
theorem x_229_234   : am_E d 229 Q (234, L, st, g) ↔ am_K d 229 Q (am_ldI 235 L st g 2) := am_E_iload_n (by decide +kernel : am_dc 229 234 = some (.iload_n 2)) rfl rfl
theorem x_229_235   : am_E d 229 Q (235, L, .int x :: st, g) ↔ am_E d 229 Q (236, L, .long x.toInt64 :: st, g) := am_E_i2l (by decide +kernel : am_dc 229 235 = some (.i2l)) rfl
theorem x_229_236   : am_E d 229 Q (236, L, st, g) ↔ am_K d 229 Q (am_ldL 238 L st g 9) := am_E_lload (by decide +kernel : am_dc 229 236 = some (.lload 9)) rfl
theorem x_229_238   : am_E d 229 Q (238, L, .long w :: .long u :: st, g) ↔ am_E d 229 Q (239, L, .long (u * w) :: st, g) := am_E_lmul (by decide +kernel : am_dc 229 238 = some (.lmul)) rfl
theorem x_229_239   : am_E d 229 Q (239, L, st, g) ↔ am_K d 229 Q (am_ldL 241 L st g 6) := am_E_lload (by decide +kernel : am_dc 229 239 = some (.lload 6)) rfl
theorem x_229_241   : am_E d 229 Q (241, L, .long w :: .long u :: st, g) ↔ if w = 0 then False else am_E d 229 Q (242, L, .long (u / w) :: st, g) := am_E_ldiv (by decide +kernel : am_dc 229 241 = some (.ldiv)) rfl
theorem x_229_242   : am_E d 229 Q (242, L, st, g) ↔ am_K d 229 Q (am_stL 244 L st g 14) := am_E_lstore (by decide +kernel : am_dc 229 242 = some (.lstore 14)) rfl
theorem x_229_244   : am_E d 229 Q (244, L, st, g) ↔ am_K d 229 Q (am_ldA 245 L st g 0) := am_E_aload_n (by decide +kernel : am_dc 229 244 = some (.aload_n 0)) rfl rfl
theorem x_229_245   : am_E d 229 Q (245, L, st, g) ↔ am_K d 229 Q (am_ldA 246 L st g 0) := am_E_aload_n (by decide +kernel : am_dc 229 245 = some (.aload_n 0)) rfl rfl
theorem x_229_246   : am_E d 229 Q (246, L, .ref a :: st, g) ↔ am_kv d 229 Q 249 L st g (am_gf g a 11 67) := am_E_getfield (by decide +kernel : am_dc 229 246 = some (.getfield 158)) (by decide +kernel) rfl
theorem x_229_249   : am_E d 229 Q (249, L, st, g) ↔ am_K d 229 Q (am_ldI 251 L st g 13) := am_E_iload (by decide +kernel : am_dc 229 249 = some (.iload 13)) rfl
theorem x_229_251   : am_E d 229 Q (251, L, .int x :: .ref a :: st, g) ↔ am_kv d 229 Q 252 L st g (am_iat .iaload g a x) := am_E_iaload (by decide +kernel : am_dc 229 251 = some (.iaload)) rfl
theorem x_229_252   : am_E d 229 Q (252, L, st, g) ↔ am_E d 229 Q (253, L, .int (1) :: st, g) := am_E_iconst (by decide +kernel : am_dc 229 252 = some (.iconst (1))) (by decide) rfl
theorem x_229_253   : am_E d 229 Q (253, L, st, g) ↔ am_K d 229 Q (am_ldL 255 L st g 14) := am_E_lload (by decide +kernel : am_dc 229 253 = some (.lload 14)) rfl
theorem x_229_255   : am_E d 229 Q (255, L, st, g) ↔ am_K d 229 Q (am_ldL 257 L st g 11) := am_E_lload (by decide +kernel : am_dc 229 255 = some (.lload 11)) rfl
theorem x_229_257   : am_E d 229 Q (257, L, .long w :: .long u :: st, g) ↔ am_E d 229 Q (258, L, .long (u - w) :: st, g) := am_E_lsub (by decide +kernel : am_dc 229 257 = some (.lsub)) rfl
theorem x_229_258   : am_E d 229 Q (258, L, .long u :: st, g) ↔ am_E d 229 Q (259, L, .int u.toInt32 :: st, g) := am_E_l2i (by decide +kernel : am_dc 229 258 = some (.l2i)) rfl
theorem x_229_259  : am_E d 229 Q (259, L, st, g) ↔ am_K d 229 Q (am_S 229 (.invokevirtual 414) 259 L st g) := am_E_x (by decide +kernel : am_dc 229 259 = some (.invokevirtual 414))
theorem x_229_262   : am_E d 229 Q (262, L, st, g) ↔ am_K d 229 Q (am_ldL 264 L st g 14) := am_E_lload (by decide +kernel : am_dc 229 262 = some (.lload 14)) rfl
theorem x_229_264   : am_E d 229 Q (264, L, st, g) ↔ am_K d 229 Q (am_stL 266 L st g 11) := am_E_lstore (by decide +kernel : am_dc 229 264 = some (.lstore 11)) rfl
theorem x_229_266   (hk : L.getD 13 none = some (.int x)) (hl : 13 < L.length) : am_E d 229 Q (266, L, st, g) ↔ am_E d 229 Q (269, am_s1 L 13 (.int (x + (1))), st, g) := am_E_iinc (by decide +kernel : am_dc 229 266 = some (.iinc 13 (1))) (by decide) rfl hk hl
theorem x_229_269   : am_E d 229 Q (269, L, st, g) ↔ am_E d 229 Q (176, L, st, g) := am_E_gt (by decide +kernel : am_dc 229 269 = some (.goto (-93))) rfl rfl
theorem x_229_272   : am_E d 229 Q (272, L, st, g) ↔ am_K d 229 Q (am_ldA 273 L st g 0) := am_E_aload_n (by decide +kernel : am_dc 229 272 = some (.aload_n 0)) rfl rfl
theorem x_229_273   : am_E d 229 Q (273, L, st, g) ↔ am_K d 229 Q (am_ldI 275 L st g 5) := am_E_iload (by decide +kernel : am_dc 229 273 = some (.iload 5)) rfl
theorem x_229_275   (hok : (am_ok (am_ft 11 64).1 v && (!(am_ft 11 64).2 || (am_ini 229 && am_co 11 == am_o 229)) && decide (11 < 13)) = true) : am_E d 229 Q (275, L, v :: .ref a :: st, g) ↔ am_kg d 229 Q 278 L st (am_pf g a 11 64 v) := am_E_putfield (by decide +kernel : am_dc 229 275 = some (.putfield 408)) (by decide +kernel) rfl hok
theorem x_229_278   : am_E d 229 Q (278, L, st, g) ↔ am_K d 229 Q (am_ldI 280 L st g 5) := am_E_iload (by decide +kernel : am_dc 229 278 = some (.iload 5)) rfl
theorem x_229_280  : am_E d 229 Q (280, L, [.int x], g) ↔ if am_ok (FieldType.int) (.int x) = true then Q (.inl (some (.int x))) g else False := am_E_ireturn (by decide +kernel : am_dc 229 280 = some (.ireturn)) (by decide +kernel)
theorem v_229_402 : am_iv 229 402 = some (1, 186, 1) := by decide +kernel
theorem v_229_399 : am_iv 229 399 = some (1, 193, 2) := by decide +kernel
theorem v_229_433 : am_iv 229 433 = some (1, 230, 2) := by decide +kernel
theorem f_229_152 : am_fl 229 152 = some (11, 65) := by decide +kernel
theorem v_229_436 : am_iv 229 436 = some (1, 215, 2) := by decide +kernel
theorem f_229_158 : am_fl 229 158 = some (11, 67) := by decide +kernel
theorem v_229_439 : am_iv 229 439 = some (1, 202, 3) := by decide +kernel
theorem v_229_301 : am_iv 229 301 = some (0, 197, 1) := by decide +kernel
theorem v_229_196 : am_iv 229 196 = some (1, 185, 4) := by decide +kernel
theorem v_229_411 : am_iv 229 411 = some (1, 209, 2) := by decide +kernel
theorem v_229_414 : am_iv 229 414 = some (1, 163, 4) := by decide +kernel
theorem f_229_408 : am_fl 229 408 = some (11, 64) := by decide +kernel
theorem t_229 : am_t 229 = some (FieldType.int) := by decide +kernel
theorem h_229 : am_h 229 = [] := by decide +kernel
theorem m_229 : am_m 229 = 16 := by decide +kernel
theorem x_230_0   : am_E d 230 Q (0, L, st, g) ↔ am_E d 230 Q (1, L, .int (0) :: st, g) := am_E_iconst (by decide +kernel : am_dc 230 0 = some (.iconst (0))) (by decide) rfl
theorem x_230_1   : am_E d 230 Q (1, L, st, g) ↔ am_K d 230 Q (am_stI 2 L st g 2) := am_E_istore_n (by decide +kernel : am_dc 230 1 = some (.istore_n 2)) rfl rfl
theorem x_230_2   : am_E d 230 Q (2, L, st, g) ↔ am_E d 230 Q (3, L, .int (0) :: st, g) := am_E_iconst (by decide +kernel : am_dc 230 2 = some (.iconst (0))) (by decide) rfl
theorem x_230_3   : am_E d 230 Q (3, L, st, g) ↔ am_K d 230 Q (am_stI 4 L st g 3) := am_E_istore_n (by decide +kernel : am_dc 230 3 = some (.istore_n 3)) rfl rfl
theorem x_230_4   : am_E d 230 Q (4, L, st, g) ↔ am_K d 230 Q (am_ldI 5 L st g 3) := am_E_iload_n (by decide +kernel : am_dc 230 4 = some (.iload_n 3)) rfl rfl
theorem x_230_5   : am_E d 230 Q (5, L, st, g) ↔ am_K d 230 Q (am_ldA 6 L st g 0) := am_E_aload_n (by decide +kernel : am_dc 230 5 = some (.aload_n 0)) rfl rfl
theorem x_230_6   : am_E d 230 Q (6, L, .ref a :: st, g) ↔ am_kv d 230 Q 9 L st g (am_gf g a 11 5) := am_E_getfield (by decide +kernel : am_dc 230 6 = some (.getfield 23)) (by decide +kernel) rfl
theorem x_230_9   : am_E d 230 Q (9, L, st, g) ↔ am_E d 230 Q (10, L, .int (0) :: st, g) := am_E_iconst (by decide +kernel : am_dc 230 9 = some (.iconst (0))) (by decide) rfl
theorem x_230_10   : am_E d 230 Q (10, L, .int x :: .ref a :: st, g) ↔ am_kv d 230 Q 11 L st g (am_iat .iaload g a x) := am_E_iaload (by decide +kernel : am_dc 230 10 = some (.iaload)) rfl
theorem x_230_11   : am_E d 230 Q (11, L, .int y :: .int x :: st, g) ↔ am_E d 230 Q (am_cmp .ge x y 117 14, L, st, g) := am_E_ic (by decide +kernel : am_dc 230 11 = some (.if_icmp .ge (106))) rfl rfl
theorem x_230_14   : am_E d 230 Q (14, L, st, g) ↔ am_E d 230 Q (15, L, .int (0) :: st, g) := am_E_iconst (by decide +kernel : am_dc 230 14 = some (.iconst (0))) (by decide) rfl
theorem x_230_15   : am_E d 230 Q (15, L, st, g) ↔ am_K d 230 Q (am_stI 17 L st g 4) := am_E_istore (by decide +kernel : am_dc 230 15 = some (.istore 4)) rfl
theorem x_230_17   : am_E d 230 Q (17, L, st, g) ↔ am_K d 230 Q (am_ldI 19 L st g 4) := am_E_iload (by decide +kernel : am_dc 230 17 = some (.iload 4)) rfl
theorem x_230_19   : am_E d 230 Q (19, L, st, g) ↔ am_K d 230 Q (am_ldA 20 L st g 0) := am_E_aload_n (by decide +kernel : am_dc 230 19 = some (.aload_n 0)) rfl rfl
theorem x_230_20   : am_E d 230 Q (20, L, .ref a :: st, g) ↔ am_kv d 230 Q 23 L st g (am_gf g a 11 5) := am_E_getfield (by decide +kernel : am_dc 230 20 = some (.getfield 23)) (by decide +kernel) rfl
theorem x_230_23   : am_E d 230 Q (23, L, st, g) ↔ am_E d 230 Q (24, L, .int (1) :: st, g) := am_E_iconst (by decide +kernel : am_dc 230 23 = some (.iconst (1))) (by decide) rfl
theorem x_230_24   : am_E d 230 Q (24, L, .int x :: .ref a :: st, g) ↔ am_kv d 230 Q 25 L st g (am_iat .iaload g a x) := am_E_iaload (by decide +kernel : am_dc 230 24 = some (.iaload)) rfl
theorem x_230_25   : am_E d 230 Q (25, L, .int y :: .int x :: st, g) ↔ am_E d 230 Q (am_cmp .ge x y 111 28, L, st, g) := am_E_ic (by decide +kernel : am_dc 230 25 = some (.if_icmp .ge (86))) rfl rfl
theorem x_230_28   : am_E d 230 Q (28, L, st, g) ↔ am_E d 230 Q (29, L, .int (0) :: st, g) := am_E_iconst (by decide +kernel : am_dc 230 28 = some (.iconst (0))) (by decide) rfl
theorem x_230_29   : am_E d 230 Q (29, L, st, g) ↔ am_K d 230 Q (am_stI 31 L st g 5) := am_E_istore (by decide +kernel : am_dc 230 29 = some (.istore 5)) rfl
theorem x_230_31   : am_E d 230 Q (31, L, st, g) ↔ am_K d 230 Q (am_ldI 33 L st g 5) := am_E_iload (by decide +kernel : am_dc 230 31 = some (.iload 5)) rfl
theorem x_230_33   : am_E d 230 Q (33, L, st, g) ↔ am_K d 230 Q (am_ldA 34 L st g 0) := am_E_aload_n (by decide +kernel : am_dc 230 33 = some (.aload_n 0)) rfl rfl
theorem x_230_34   : am_E d 230 Q (34, L, .ref a :: st, g) ↔ am_kv d 230 Q 37 L st g (am_gf g a 11 5) := am_E_getfield (by decide +kernel : am_dc 230 34 = some (.getfield 23)) (by decide +kernel) rfl
theorem x_230_37   : am_E d 230 Q (37, L, st, g) ↔ am_E d 230 Q (38, L, .int (2) :: st, g) := am_E_iconst (by decide +kernel : am_dc 230 37 = some (.iconst (2))) (by decide) rfl
theorem x_230_38   : am_E d 230 Q (38, L, .int x :: .ref a :: st, g) ↔ am_kv d 230 Q 39 L st g (am_iat .iaload g a x) := am_E_iaload (by decide +kernel : am_dc 230 38 = some (.iaload)) rfl
theorem x_230_39   : am_E d 230 Q (39, L, .int y :: .int x :: st, g) ↔ am_E d 230 Q (am_cmp .ge x y 105 42, L, st, g) := am_E_ic (by decide +kernel : am_dc 230 39 = some (.if_icmp .ge (66))) rfl rfl
theorem x_230_42   : am_E d 230 Q (42, L, st, g) ↔ am_K d 230 Q (am_ldA 43 L st g 0) := am_E_aload_n (by decide +kernel : am_dc 230 42 = some (.aload_n 0)) rfl rfl
theorem x_230_43   : am_E d 230 Q (43, L, .ref a :: st, g) ↔ am_kv d 230 Q 46 L st g (am_gf g a 11 4) := am_E_getfield (by decide +kernel : am_dc 230 43 = some (.getfield 20)) (by decide +kernel) rfl
theorem x_230_46   : am_E d 230 Q (46, L, st, g) ↔ am_K d 230 Q (am_ldI 47 L st g 3) := am_E_iload_n (by decide +kernel : am_dc 230 46 = some (.iload_n 3)) rfl rfl
theorem x_230_47   : am_E d 230 Q (47, L, .int x :: .ref a :: st, g) ↔ am_kv d 230 Q 48 L st g (am_iat .iaload g a x) := am_E_iaload (by decide +kernel : am_dc 230 47 = some (.iaload)) rfl
theorem x_230_48   : am_E d 230 Q (48, L, st, g) ↔ am_E d 230 Q (50, L, .int (6) :: st, g) := am_E_bipush (by decide +kernel : am_dc 230 48 = some (.bipush (6))) (by decide) rfl
theorem x_230_50   : am_E d 230 Q (50, L, st, g) ↔ am_K d 230 Q (am_ldA 51 L st g 0) := am_E_aload_n (by decide +kernel : am_dc 230 50 = some (.aload_n 0)) rfl rfl
theorem x_230_51   : am_E d 230 Q (51, L, .ref a :: st, g) ↔ am_kv d 230 Q 54 L st g (am_gf g a 11 4) := am_E_getfield (by decide +kernel : am_dc 230 51 = some (.getfield 20)) (by decide +kernel) rfl
theorem x_230_54   : am_E d 230 Q (54, L, st, g) ↔ am_E d 230 Q (56, L, .int (6) :: st, g) := am_E_bipush (by decide +kernel : am_dc 230 54 = some (.bipush (6))) (by decide) rfl
theorem x_230_56   : am_E d 230 Q (56, L, st, g) ↔ am_K d 230 Q (am_ldI 58 L st g 4) := am_E_iload (by decide +kernel : am_dc 230 56 = some (.iload 4)) rfl
theorem x_230_58   : am_E d 230 Q (58, L, .int y :: .int x :: st, g) ↔ am_E d 230 Q (59, L, .int (x + y) :: st, g) := am_E_iadd (by decide +kernel : am_dc 230 58 = some (.iadd)) rfl
theorem x_230_59   : am_E d 230 Q (59, L, .int x :: .ref a :: st, g) ↔ am_kv d 230 Q 60 L st g (am_iat .iaload g a x) := am_E_iaload (by decide +kernel : am_dc 230 59 = some (.iaload)) rfl
theorem x_230_60   : am_E d 230 Q (60, L, .int y :: .int x :: st, g) ↔ am_E d 230 Q (61, L, .int (x * y) :: st, g) := am_E_imul (by decide +kernel : am_dc 230 60 = some (.imul)) rfl
theorem x_230_61   : am_E d 230 Q (61, L, .int y :: .int x :: st, g) ↔ am_E d 230 Q (62, L, .int (x + y) :: st, g) := am_E_iadd (by decide +kernel : am_dc 230 61 = some (.iadd)) rfl
theorem x_230_62   : am_E d 230 Q (62, L, st, g) ↔ am_E d 230 Q (64, L, .int (36) :: st, g) := am_E_bipush (by decide +kernel : am_dc 230 62 = some (.bipush (36))) (by decide) rfl
theorem x_230_64   : am_E d 230 Q (64, L, st, g) ↔ am_K d 230 Q (am_ldA 65 L st g 0) := am_E_aload_n (by decide +kernel : am_dc 230 64 = some (.aload_n 0)) rfl rfl
theorem x_230_65   : am_E d 230 Q (65, L, .ref a :: st, g) ↔ am_kv d 230 Q 68 L st g (am_gf g a 11 4) := am_E_getfield (by decide +kernel : am_dc 230 65 = some (.getfield 20)) (by decide +kernel) rfl
theorem x_230_68   : am_E d 230 Q (68, L, st, g) ↔ am_E d 230 Q (70, L, .int (12) :: st, g) := am_E_bipush (by decide +kernel : am_dc 230 68 = some (.bipush (12))) (by decide) rfl
theorem x_230_70   : am_E d 230 Q (70, L, st, g) ↔ am_K d 230 Q (am_ldI 72 L st g 5) := am_E_iload (by decide +kernel : am_dc 230 70 = some (.iload 5)) rfl
theorem x_230_72   : am_E d 230 Q (72, L, .int y :: .int x :: st, g) ↔ am_E d 230 Q (73, L, .int (x + y) :: st, g) := am_E_iadd (by decide +kernel : am_dc 230 72 = some (.iadd)) rfl
theorem x_230_73   : am_E d 230 Q (73, L, .int x :: .ref a :: st, g) ↔ am_kv d 230 Q 74 L st g (am_iat .iaload g a x) := am_E_iaload (by decide +kernel : am_dc 230 73 = some (.iaload)) rfl
theorem x_230_74   : am_E d 230 Q (74, L, .int y :: .int x :: st, g) ↔ am_E d 230 Q (75, L, .int (x * y) :: st, g) := am_E_imul (by decide +kernel : am_dc 230 74 = some (.imul)) rfl
theorem x_230_75   : am_E d 230 Q (75, L, .int y :: .int x :: st, g) ↔ am_E d 230 Q (76, L, .int (x + y) :: st, g) := am_E_iadd (by decide +kernel : am_dc 230 75 = some (.iadd)) rfl
theorem x_230_76   : am_E d 230 Q (76, L, st, g) ↔ am_K d 230 Q (am_stI 78 L st g 6) := am_E_istore (by decide +kernel : am_dc 230 76 = some (.istore 6)) rfl
theorem x_230_78   : am_E d 230 Q (78, L, st, g) ↔ am_K d 230 Q (am_ldA 79 L st g 0) := am_E_aload_n (by decide +kernel : am_dc 230 78 = some (.aload_n 0)) rfl rfl
theorem x_230_79   : am_E d 230 Q (79, L, st, g) ↔ am_K d 230 Q (am_ldI 81 L st g 6) := am_E_iload (by decide +kernel : am_dc 230 79 = some (.iload 6)) rfl
theorem x_230_81   : am_E d 230 Q (81, L, st, g) ↔ am_K d 230 Q (am_ldI 82 L st g 1) := am_E_iload_n (by decide +kernel : am_dc 230 81 = some (.iload_n 1)) rfl rfl
theorem x_230_82  : am_E d 230 Q (82, L, st, g) ↔ am_K d 230 Q (am_S 230 (.invokevirtual 430) 82 L st g) := am_E_x (by decide +kernel : am_dc 230 82 = some (.invokevirtual 430))
theorem x_230_85   : am_E d 230 Q (85, L, .int x :: st, g) ↔ am_E d 230 Q (am_cmp .eq x 0 99 88, L, st, g) := am_E_if (by decide +kernel : am_dc 230 85 = some (.ifCond .eq (14))) rfl rfl
theorem x_230_88   : am_E d 230 Q (88, L, st, g) ↔ am_K d 230 Q (am_ldA 89 L st g 0) := am_E_aload_n (by decide +kernel : am_dc 230 88 = some (.aload_n 0)) rfl rfl
theorem x_230_89   : am_E d 230 Q (89, L, .ref a :: st, g) ↔ am_kv d 230 Q 92 L st g (am_gf g a 11 67) := am_E_getfield (by decide +kernel : am_dc 230 89 = some (.getfield 158)) (by decide +kernel) rfl
theorem x_230_92   : am_E d 230 Q (92, L, st, g) ↔ am_K d 230 Q (am_ldI 93 L st g 2) := am_E_iload_n (by decide +kernel : am_dc 230 92 = some (.iload_n 2)) rfl rfl
theorem x_230_93   : am_E d 230 Q (93, L, st, g) ↔ am_K d 230 Q (am_ldI 95 L st g 6) := am_E_iload (by decide +kernel : am_dc 230 93 = some (.iload 6)) rfl
theorem x_230_95   : am_E d 230 Q (95, L, v :: .int x :: .ref a :: st, g) ↔ am_kg d 230 Q 96 L st (am_sat .iastore g a x v) := am_E_iastore (by decide +kernel : am_dc 230 95 = some (.iastore)) rfl
theorem x_230_96   (hk : L.getD 2 none = some (.int x)) (hl : 2 < L.length) : am_E d 230 Q (96, L, st, g) ↔ am_E d 230 Q (99, am_s1 L 2 (.int (x + (1))), st, g) := am_E_iinc (by decide +kernel : am_dc 230 96 = some (.iinc 2 (1))) (by decide) rfl hk hl
theorem x_230_99   (hk : L.getD 5 none = some (.int x)) (hl : 5 < L.length) : am_E d 230 Q (99, L, st, g) ↔ am_E d 230 Q (102, am_s1 L 5 (.int (x + (1))), st, g) := am_E_iinc (by decide +kernel : am_dc 230 99 = some (.iinc 5 (1))) (by decide) rfl hk hl
theorem x_230_102   : am_E d 230 Q (102, L, st, g) ↔ am_E d 230 Q (31, L, st, g) := am_E_gt (by decide +kernel : am_dc 230 102 = some (.goto (-71))) rfl rfl
theorem x_230_105   (hk : L.getD 4 none = some (.int x)) (hl : 4 < L.length) : am_E d 230 Q (105, L, st, g) ↔ am_E d 230 Q (108, am_s1 L 4 (.int (x + (1))), st, g) := am_E_iinc (by decide +kernel : am_dc 230 105 = some (.iinc 4 (1))) (by decide) rfl hk hl
theorem x_230_108   : am_E d 230 Q (108, L, st, g) ↔ am_E d 230 Q (17, L, st, g) := am_E_gt (by decide +kernel : am_dc 230 108 = some (.goto (-91))) rfl rfl
theorem x_230_111   (hk : L.getD 3 none = some (.int x)) (hl : 3 < L.length) : am_E d 230 Q (111, L, st, g) ↔ am_E d 230 Q (114, am_s1 L 3 (.int (x + (1))), st, g) := am_E_iinc (by decide +kernel : am_dc 230 111 = some (.iinc 3 (1))) (by decide) rfl hk hl
theorem x_230_114   : am_E d 230 Q (114, L, st, g) ↔ am_E d 230 Q (4, L, st, g) := am_E_gt (by decide +kernel : am_dc 230 114 = some (.goto (-110))) rfl rfl
theorem x_230_117   : am_E d 230 Q (117, L, st, g) ↔ am_K d 230 Q (am_ldI 118 L st g 2) := am_E_iload_n (by decide +kernel : am_dc 230 117 = some (.iload_n 2)) rfl rfl
theorem x_230_118  : am_E d 230 Q (118, L, [.int x], g) ↔ if am_ok (FieldType.int) (.int x) = true then Q (.inl (some (.int x))) g else False := am_E_ireturn (by decide +kernel : am_dc 230 118 = some (.ireturn)) (by decide +kernel)
theorem f_230_23 : am_fl 230 23 = some (11, 5) := by decide +kernel
theorem f_230_20 : am_fl 230 20 = some (11, 4) := by decide +kernel
theorem v_230_430 : am_iv 230 430 = some (1, 158, 3) := by decide +kernel
theorem f_230_158 : am_fl 230 158 = some (11, 67) := by decide +kernel
theorem t_230 : am_t 230 = some (FieldType.int) := by decide +kernel
theorem h_230 : am_h 230 = [] := by decide +kernel
theorem m_230 : am_m 230 = 7 := by decide +kernel
theorem x_231_0   : am_E d 231 Q (0, L, st, g) ↔ am_K d 231 Q (am_ldA 1 L st g 0) := am_E_aload_n (by decide +kernel : am_dc 231 0 = some (.aload_n 0)) rfl rfl
theorem x_231_1   : am_E d 231 Q (1, L, st, g) ↔ am_K d 231 Q (am_ldI 2 L st g 1) := am_E_iload_n (by decide +kernel : am_dc 231 1 = some (.iload_n 1)) rfl rfl
theorem x_231_2  : am_E d 231 Q (2, L, st, g) ↔ am_K d 231 Q (am_S 231 (.invokevirtual 418) 2 L st g) := am_E_x (by decide +kernel : am_dc 231 2 = some (.invokevirtual 418))
theorem x_231_5   : am_E d 231 Q (5, L, .int x :: st, g) ↔ am_E d 231 Q (am_cmp .eq x 0 15 8, L, st, g) := am_E_if (by decide +kernel : am_dc 231 5 = some (.ifCond .eq (10))) rfl rfl
theorem x_231_8   : am_E d 231 Q (8, L, st, g) ↔ am_K d 231 Q (am_ldA 9 L st g 0) := am_E_aload_n (by decide +kernel : am_dc 231 8 = some (.aload_n 0)) rfl rfl
theorem x_231_9   : am_E d 231 Q (9, L, .ref a :: st, g) ↔ am_kv d 231 Q 12 L st g (am_gf g a 11 62) := am_E_getfield (by decide +kernel : am_dc 231 9 = some (.getfield 305)) (by decide +kernel) rfl
theorem x_231_12   : am_E d 231 Q (12, L, st, g) ↔ am_E d 231 Q (16, L, st, g) := am_E_gt (by decide +kernel : am_dc 231 12 = some (.goto (4))) rfl rfl
theorem x_231_15   : am_E d 231 Q (15, L, st, g) ↔ am_E d 231 Q (16, L, .int (0) :: st, g) := am_E_iconst (by decide +kernel : am_dc 231 15 = some (.iconst (0))) (by decide) rfl
theorem x_231_16  : am_E d 231 Q (16, L, [.int x], g) ↔ if am_ok (FieldType.int) (.int x) = true then Q (.inl (some (.int x))) g else False := am_E_ireturn (by decide +kernel : am_dc 231 16 = some (.ireturn)) (by decide +kernel)
theorem v_231_418 : am_iv 231 418 = some (1, 159, 2) := by decide +kernel
theorem f_231_305 : am_fl 231 305 = some (11, 62) := by decide +kernel
theorem t_231 : am_t 231 = some (FieldType.int) := by decide +kernel
theorem h_231 : am_h 231 = [] := by decide +kernel
theorem m_231 : am_m 231 = 2 := by decide +kernel
theorem x_232_0   : am_E d 232 Q (0, L, st, g) ↔ am_K d 232 Q (am_ldA 1 L st g 0) := am_E_aload_n (by decide +kernel : am_dc 232 0 = some (.aload_n 0)) rfl rfl
theorem x_232_1   : am_E d 232 Q (1, L, st, g) ↔ am_E d 232 Q (2, L, .int (0) :: st, g) := am_E_iconst (by decide +kernel : am_dc 232 1 = some (.iconst (0))) (by decide) rfl
theorem x_232_2   (hok : (am_ok (am_ft 11 0).1 v && (!(am_ft 11 0).2 || (am_ini 232 && am_co 11 == am_o 232)) && decide (11 < 13)) = true) : am_E d 232 Q (2, L, v :: .ref a :: st, g) ↔ am_kg d 232 Q 5 L st (am_pf g a 11 0 v) := am_E_putfield (by decide +kernel : am_dc 232 2 = some (.putfield 168)) (by decide +kernel) rfl hok
theorem x_232_5   : am_E d 232 Q (5, L, st, g) ↔ am_K d 232 Q (am_ldA 6 L st g 0) := am_E_aload_n (by decide +kernel : am_dc 232 5 = some (.aload_n 0)) rfl rfl
theorem x_232_6   : am_E d 232 Q (6, L, .ref a :: st, g) ↔ am_kv d 232 Q 9 L st g (am_gf g a 11 64) := am_E_getfield (by decide +kernel : am_dc 232 6 = some (.getfield 408)) (by decide +kernel) rfl
theorem x_232_9  : am_E d 232 Q (9, L, [.int x], g) ↔ if am_ok (FieldType.int) (.int x) = true then Q (.inl (some (.int x))) g else False := am_E_ireturn (by decide +kernel : am_dc 232 9 = some (.ireturn)) (by decide +kernel)
theorem f_232_168 : am_fl 232 168 = some (11, 0) := by decide +kernel
theorem f_232_408 : am_fl 232 408 = some (11, 64) := by decide +kernel
theorem t_232 : am_t 232 = some (FieldType.int) := by decide +kernel
theorem h_232 : am_h 232 = [] := by decide +kernel
theorem m_232 : am_m 232 = 1 := by decide +kernel
theorem x_233_0   : am_E d 233 Q (0, L, st, g) ↔ am_K d 233 Q (am_ldA 1 L st g 0) := am_E_aload_n (by decide +kernel : am_dc 233 0 = some (.aload_n 0)) rfl rfl
theorem x_233_1   : am_E d 233 Q (1, L, .ref a :: st, g) ↔ am_kv d 233 Q 4 L st g (am_gf g a 11 53) := am_E_getfield (by decide +kernel : am_dc 233 1 = some (.getfield 127)) (by decide +kernel) rfl
theorem x_233_4   : am_E d 233 Q (4, L, st, g) ↔ am_K d 233 Q (am_ldI 5 L st g 1) := am_E_iload_n (by decide +kernel : am_dc 233 4 = some (.iload_n 1)) rfl rfl
theorem x_233_5   : am_E d 233 Q (5, L, .int x :: .ref a :: st, g) ↔ am_kv d 233 Q 6 L st g (am_iat .iaload g a x) := am_E_iaload (by decide +kernel : am_dc 233 5 = some (.iaload)) rfl
theorem x_233_6   : am_E d 233 Q (6, L, st, g) ↔ am_K d 233 Q (am_stI 7 L st g 2) := am_E_istore_n (by decide +kernel : am_dc 233 6 = some (.istore_n 2)) rfl rfl
theorem x_233_7   : am_E d 233 Q (7, L, st, g) ↔ am_K d 233 Q (am_ldA 8 L st g 0) := am_E_aload_n (by decide +kernel : am_dc 233 7 = some (.aload_n 0)) rfl rfl
theorem x_233_8   : am_E d 233 Q (8, L, .ref a :: st, g) ↔ am_kv d 233 Q 11 L st g (am_gf g a 11 54) := am_E_getfield (by decide +kernel : am_dc 233 8 = some (.getfield 130)) (by decide +kernel) rfl
theorem x_233_11   : am_E d 233 Q (11, L, st, g) ↔ am_K d 233 Q (am_ldI 12 L st g 1) := am_E_iload_n (by decide +kernel : am_dc 233 11 = some (.iload_n 1)) rfl rfl
theorem x_233_12   : am_E d 233 Q (12, L, .int x :: .ref a :: st, g) ↔ am_kv d 233 Q 13 L st g (am_iat .iaload g a x) := am_E_iaload (by decide +kernel : am_dc 233 12 = some (.iaload)) rfl
theorem x_233_13   : am_E d 233 Q (13, L, st, g) ↔ am_K d 233 Q (am_ldI 14 L st g 2) := am_E_iload_n (by decide +kernel : am_dc 233 13 = some (.iload_n 2)) rfl rfl
theorem x_233_14  : am_E d 233 Q (14, L, st, g) ↔ am_K d 233 Q (am_S 233 (.invokestatic 217) 14 L st g) := am_E_x (by decide +kernel : am_dc 233 14 = some (.invokestatic 217))
theorem x_233_17   : am_E d 233 Q (17, L, st, g) ↔ am_K d 233 Q (am_stI 18 L st g 3) := am_E_istore_n (by decide +kernel : am_dc 233 17 = some (.istore_n 3)) rfl rfl
theorem x_233_18   : am_E d 233 Q (18, L, st, g) ↔ am_K d 233 Q (am_ldA 19 L st g 0) := am_E_aload_n (by decide +kernel : am_dc 233 18 = some (.aload_n 0)) rfl rfl
theorem x_233_19   : am_E d 233 Q (19, L, .ref a :: st, g) ↔ am_kv d 233 Q 22 L st g (am_gf g a 11 51) := am_E_getfield (by decide +kernel : am_dc 233 19 = some (.getfield 121)) (by decide +kernel) rfl
theorem x_233_22   : am_E d 233 Q (22, L, st, g) ↔ am_K d 233 Q (am_ldI 23 L st g 1) := am_E_iload_n (by decide +kernel : am_dc 233 22 = some (.iload_n 1)) rfl rfl
theorem x_233_23   : am_E d 233 Q (23, L, .int x :: .ref a :: st, g) ↔ am_kv d 233 Q 24 L st g (am_iat .iaload g a x) := am_E_iaload (by decide +kernel : am_dc 233 23 = some (.iaload)) rfl
theorem x_233_24   : am_E d 233 Q (24, L, .int x :: st, g) ↔ am_E d 233 Q (am_cmp .lt x 0 31 27, L, st, g) := am_E_if (by decide +kernel : am_dc 233 24 = some (.ifCond .lt (7))) rfl rfl
theorem x_233_27   : am_E d 233 Q (27, L, st, g) ↔ am_E d 233 Q (28, L, .int (1) :: st, g) := am_E_iconst (by decide +kernel : am_dc 233 27 = some (.iconst (1))) (by decide) rfl
theorem x_233_28   : am_E d 233 Q (28, L, st, g) ↔ am_E d 233 Q (42, L, st, g) := am_E_gt (by decide +kernel : am_dc 233 28 = some (.goto (14))) rfl rfl
theorem x_233_31   : am_E d 233 Q (31, L, st, g) ↔ am_K d 233 Q (am_ldA 32 L st g 0) := am_E_aload_n (by decide +kernel : am_dc 233 31 = some (.aload_n 0)) rfl rfl
theorem x_233_32   : am_E d 233 Q (32, L, .ref a :: st, g) ↔ am_kv d 233 Q 35 L st g (am_gf g a 11 3) := am_E_getfield (by decide +kernel : am_dc 233 32 = some (.getfield 17)) (by decide +kernel) rfl
theorem x_233_35   : am_E d 233 Q (35, L, st, g) ↔ am_E d 233 Q (37, L, .int (6) :: st, g) := am_E_bipush (by decide +kernel : am_dc 233 35 = some (.bipush (6))) (by decide) rfl
theorem x_233_37   : am_E d 233 Q (37, L, st, g) ↔ am_K d 233 Q (am_ldI 38 L st g 2) := am_E_iload_n (by decide +kernel : am_dc 233 37 = some (.iload_n 2)) rfl rfl
theorem x_233_38   : am_E d 233 Q (38, L, .int y :: .int x :: st, g) ↔ am_E d 233 Q (39, L, .int (x * y) :: st, g) := am_E_imul (by decide +kernel : am_dc 233 38 = some (.imul)) rfl
theorem x_233_39   : am_E d 233 Q (39, L, st, g) ↔ am_K d 233 Q (am_ldI 40 L st g 3) := am_E_iload_n (by decide +kernel : am_dc 233 39 = some (.iload_n 3)) rfl rfl
theorem x_233_40   : am_E d 233 Q (40, L, .int y :: .int x :: st, g) ↔ am_E d 233 Q (41, L, .int (x + y) :: st, g) := am_E_iadd (by decide +kernel : am_dc 233 40 = some (.iadd)) rfl
theorem x_233_41   : am_E d 233 Q (41, L, .int x :: .ref a :: st, g) ↔ am_kv d 233 Q 42 L st g (am_iat .iaload g a x) := am_E_iaload (by decide +kernel : am_dc 233 41 = some (.iaload)) rfl
theorem x_233_42   : am_E d 233 Q (42, L, st, g) ↔ am_K d 233 Q (am_stI 44 L st g 4) := am_E_istore (by decide +kernel : am_dc 233 42 = some (.istore 4)) rfl
theorem x_233_44   : am_E d 233 Q (44, L, st, g) ↔ am_K d 233 Q (am_ldA 45 L st g 0) := am_E_aload_n (by decide +kernel : am_dc 233 44 = some (.aload_n 0)) rfl rfl
theorem x_233_45   : am_E d 233 Q (45, L, .ref a :: st, g) ↔ am_kv d 233 Q 48 L st g (am_gf g a 11 55) := am_E_getfield (by decide +kernel : am_dc 233 45 = some (.getfield 133)) (by decide +kernel) rfl
theorem x_233_48   : am_E d 233 Q (48, L, st, g) ↔ am_K d 233 Q (am_ldI 49 L st g 1) := am_E_iload_n (by decide +kernel : am_dc 233 48 = some (.iload_n 1)) rfl rfl
theorem x_233_49   : am_E d 233 Q (49, L, .int x :: .ref a :: st, g) ↔ am_kv d 233 Q 50 L st g (am_iat .iaload g a x) := am_E_iaload (by decide +kernel : am_dc 233 49 = some (.iaload)) rfl
theorem x_233_50   : am_E d 233 Q (50, L, st, g) ↔ am_K d 233 Q (am_stI 52 L st g 5) := am_E_istore (by decide +kernel : am_dc 233 50 = some (.istore 5)) rfl
theorem x_233_52   : am_E d 233 Q (52, L, st, g) ↔ am_K d 233 Q (am_ldI 54 L st g 4) := am_E_iload (by decide +kernel : am_dc 233 52 = some (.iload 4)) rfl
theorem x_233_54   : am_E d 233 Q (54, L, st, g) ↔ am_E d 233 Q (55, L, .int (4) :: st, g) := am_E_iconst (by decide +kernel : am_dc 233 54 = some (.iconst (4))) (by decide) rfl
theorem x_233_55   : am_E d 233 Q (55, L, .int y :: .int x :: st, g) ↔ am_E d 233 Q (am_cmp .ne x y 77 58, L, st, g) := am_E_ic (by decide +kernel : am_dc 233 55 = some (.if_icmp .ne (22))) rfl rfl
theorem x_233_58   : am_E d 233 Q (58, L, st, g) ↔ am_K d 233 Q (am_ldA 59 L st g 0) := am_E_aload_n (by decide +kernel : am_dc 233 58 = some (.aload_n 0)) rfl rfl
theorem x_233_59   : am_E d 233 Q (59, L, st, g) ↔ am_K d 233 Q (am_ldI 60 L st g 2) := am_E_iload_n (by decide +kernel : am_dc 233 59 = some (.iload_n 2)) rfl rfl
theorem x_233_60   : am_E d 233 Q (60, L, st, g) ↔ am_K d 233 Q (am_ldI 61 L st g 3) := am_E_iload_n (by decide +kernel : am_dc 233 60 = some (.iload_n 3)) rfl rfl
theorem x_233_61   : am_E d 233 Q (61, L, st, g) ↔ am_K d 233 Q (am_ldI 63 L st g 5) := am_E_iload (by decide +kernel : am_dc 233 61 = some (.iload 5)) rfl
theorem x_233_63   : am_E d 233 Q (63, L, st, g) ↔ am_E d 233 Q (64, L, .int (1) :: st, g) := am_E_iconst (by decide +kernel : am_dc 233 63 = some (.iconst (1))) (by decide) rfl
theorem x_233_64   : am_E d 233 Q (64, L, .int y :: .int x :: st, g) ↔ am_E d 233 Q (65, L, .int (x + y) :: st, g) := am_E_iadd (by decide +kernel : am_dc 233 64 = some (.iadd)) rfl
theorem x_233_65  : am_E d 233 Q (65, L, st, g) ↔ am_K d 233 Q (am_S 233 (.invokevirtual 175) 65 L st g) := am_E_x (by decide +kernel : am_dc 233 65 = some (.invokevirtual 175))
theorem x_233_68   : am_E d 233 Q (68, L, .int x :: st, g) ↔ am_E d 233 Q (am_cmp .lt x 0 77 71, L, st, g) := am_E_if (by decide +kernel : am_dc 233 68 = some (.ifCond .lt (9))) rfl rfl
theorem x_233_71   (hk : L.getD 5 none = some (.int x)) (hl : 5 < L.length) : am_E d 233 Q (71, L, st, g) ↔ am_E d 233 Q (74, am_s1 L 5 (.int (x + (1))), st, g) := am_E_iinc (by decide +kernel : am_dc 233 71 = some (.iinc 5 (1))) (by decide) rfl hk hl
theorem x_233_74   : am_E d 233 Q (74, L, st, g) ↔ am_E d 233 Q (58, L, st, g) := am_E_gt (by decide +kernel : am_dc 233 74 = some (.goto (-16))) rfl rfl
theorem x_233_77   : am_E d 233 Q (77, L, st, g) ↔ am_K d 233 Q (am_ldA 78 L st g 0) := am_E_aload_n (by decide +kernel : am_dc 233 77 = some (.aload_n 0)) rfl rfl
theorem x_233_78   : am_E d 233 Q (78, L, st, g) ↔ am_K d 233 Q (am_ldI 79 L st g 2) := am_E_iload_n (by decide +kernel : am_dc 233 78 = some (.iload_n 2)) rfl rfl
theorem x_233_79   : am_E d 233 Q (79, L, st, g) ↔ am_K d 233 Q (am_ldI 80 L st g 3) := am_E_iload_n (by decide +kernel : am_dc 233 79 = some (.iload_n 3)) rfl rfl
theorem x_233_80   : am_E d 233 Q (80, L, st, g) ↔ am_K d 233 Q (am_ldI 82 L st g 5) := am_E_iload (by decide +kernel : am_dc 233 80 = some (.iload 5)) rfl
theorem x_233_82  : am_E d 233 Q (82, L, st, g) ↔ am_K d 233 Q (am_S 233 (.invokevirtual 175) 82 L st g) := am_E_x (by decide +kernel : am_dc 233 82 = some (.invokevirtual 175))
theorem x_233_85   : am_E d 233 Q (85, L, st, g) ↔ am_K d 233 Q (am_stI 87 L st g 6) := am_E_istore (by decide +kernel : am_dc 233 85 = some (.istore 6)) rfl
theorem x_233_87   : am_E d 233 Q (87, L, st, g) ↔ am_K d 233 Q (am_ldA 88 L st g 0) := am_E_aload_n (by decide +kernel : am_dc 233 87 = some (.aload_n 0)) rfl rfl
theorem x_233_88   : am_E d 233 Q (88, L, .ref a :: st, g) ↔ am_kv d 233 Q 91 L st g (am_gf g a 11 55) := am_E_getfield (by decide +kernel : am_dc 233 88 = some (.getfield 133)) (by decide +kernel) rfl
theorem x_233_91   : am_E d 233 Q (91, L, st, g) ↔ am_K d 233 Q (am_ldI 92 L st g 1) := am_E_iload_n (by decide +kernel : am_dc 233 91 = some (.iload_n 1)) rfl rfl
theorem x_233_92   : am_E d 233 Q (92, L, st, g) ↔ am_K d 233 Q (am_ldI 94 L st g 5) := am_E_iload (by decide +kernel : am_dc 233 92 = some (.iload 5)) rfl
theorem x_233_94   : am_E d 233 Q (94, L, st, g) ↔ am_E d 233 Q (95, L, .int (1) :: st, g) := am_E_iconst (by decide +kernel : am_dc 233 94 = some (.iconst (1))) (by decide) rfl
theorem x_233_95   : am_E d 233 Q (95, L, .int y :: .int x :: st, g) ↔ am_E d 233 Q (96, L, .int (x + y) :: st, g) := am_E_iadd (by decide +kernel : am_dc 233 95 = some (.iadd)) rfl
theorem x_233_96   : am_E d 233 Q (96, L, v :: .int x :: .ref a :: st, g) ↔ am_kg d 233 Q 97 L st (am_sat .iastore g a x v) := am_E_iastore (by decide +kernel : am_dc 233 96 = some (.iastore)) rfl
theorem x_233_97   : am_E d 233 Q (97, L, st, g) ↔ am_K d 233 Q (am_ldI 99 L st g 6) := am_E_iload (by decide +kernel : am_dc 233 97 = some (.iload 6)) rfl
theorem x_233_99   : am_E d 233 Q (99, L, .int x :: st, g) ↔ am_E d 233 Q (am_cmp .lt x 0 120 102, L, st, g) := am_E_if (by decide +kernel : am_dc 233 99 = some (.ifCond .lt (21))) rfl rfl
theorem x_233_102   : am_E d 233 Q (102, L, st, g) ↔ am_K d 233 Q (am_ldA 103 L st g 0) := am_E_aload_n (by decide +kernel : am_dc 233 102 = some (.aload_n 0)) rfl rfl
theorem x_233_103   : am_E d 233 Q (103, L, st, g) ↔ am_K d 233 Q (am_ldA 104 L st g 0) := am_E_aload_n (by decide +kernel : am_dc 233 103 = some (.aload_n 0)) rfl rfl
theorem x_233_104   : am_E d 233 Q (104, L, st, g) ↔ am_K d 233 Q (am_ldA 105 L st g 0) := am_E_aload_n (by decide +kernel : am_dc 233 104 = some (.aload_n 0)) rfl rfl
theorem x_233_105   : am_E d 233 Q (105, L, .ref a :: st, g) ↔ am_kv d 233 Q 108 L st g (am_gf g a 11 54) := am_E_getfield (by decide +kernel : am_dc 233 105 = some (.getfield 130)) (by decide +kernel) rfl
theorem x_233_108   : am_E d 233 Q (108, L, st, g) ↔ am_K d 233 Q (am_ldI 109 L st g 1) := am_E_iload_n (by decide +kernel : am_dc 233 108 = some (.iload_n 1)) rfl rfl
theorem x_233_109   : am_E d 233 Q (109, L, .int x :: .ref a :: st, g) ↔ am_kv d 233 Q 110 L st g (am_iat .iaload g a x) := am_E_iaload (by decide +kernel : am_dc 233 109 = some (.iaload)) rfl
theorem x_233_110   : am_E d 233 Q (110, L, st, g) ↔ am_K d 233 Q (am_ldI 111 L st g 2) := am_E_iload_n (by decide +kernel : am_dc 233 110 = some (.iload_n 2)) rfl rfl
theorem x_233_111   : am_E d 233 Q (111, L, st, g) ↔ am_K d 233 Q (am_ldI 113 L st g 6) := am_E_iload (by decide +kernel : am_dc 233 111 = some (.iload 6)) rfl
theorem x_233_113  : am_E d 233 Q (113, L, st, g) ↔ am_K d 233 Q (am_S 233 (.invokevirtual 362) 113 L st g) := am_E_x (by decide +kernel : am_dc 233 113 = some (.invokevirtual 362))
theorem x_233_116  : am_E d 233 Q (116, L, st, g) ↔ am_K d 233 Q (am_S 233 (.invokevirtual 365) 116 L st g) := am_E_x (by decide +kernel : am_dc 233 116 = some (.invokevirtual 365))
theorem x_233_119  : am_E d 233 Q (119, L, [], g) ↔ Q (.inl none) g := am_E_return (by decide +kernel : am_dc 233 119 = some (.return_)) (by decide +kernel)
theorem x_233_120   : am_E d 233 Q (120, L, st, g) ↔ am_K d 233 Q (am_ldI 122 L st g 4) := am_E_iload (by decide +kernel : am_dc 233 120 = some (.iload 4)) rfl
theorem x_233_122   : am_E d 233 Q (122, L, st, g) ↔ am_E d 233 Q (123, L, .int (2) :: st, g) := am_E_iconst (by decide +kernel : am_dc 233 122 = some (.iconst (2))) (by decide) rfl
theorem x_233_123   : am_E d 233 Q (123, L, .int y :: .int x :: st, g) ↔ am_E d 233 Q (am_cmp .ne x y 145 126, L, st, g) := am_E_ic (by decide +kernel : am_dc 233 123 = some (.if_icmp .ne (22))) rfl rfl
theorem x_233_126   : am_E d 233 Q (126, L, st, g) ↔ am_K d 233 Q (am_ldA 127 L st g 0) := am_E_aload_n (by decide +kernel : am_dc 233 126 = some (.aload_n 0)) rfl rfl
theorem x_233_127   : am_E d 233 Q (127, L, .ref a :: st, g) ↔ am_kv d 233 Q 130 L st g (am_gf g a 11 56) := am_E_getfield (by decide +kernel : am_dc 233 127 = some (.getfield 136)) (by decide +kernel) rfl
theorem x_233_130   : am_E d 233 Q (130, L, st, g) ↔ am_K d 233 Q (am_ldI 131 L st g 1) := am_E_iload_n (by decide +kernel : am_dc 233 130 = some (.iload_n 1)) rfl rfl
theorem x_233_131   : am_E d 233 Q (131, L, .int x :: .ref a :: st, g) ↔ am_kv d 233 Q 132 L st g (am_iat .laload g a x) := am_E_laload (by decide +kernel : am_dc 233 131 = some (.laload)) rfl
theorem x_233_132   : am_E d 233 Q (132, L, st, g) ↔ am_K d 233 Q (am_ldA 133 L st g 0) := am_E_aload_n (by decide +kernel : am_dc 233 132 = some (.aload_n 0)) rfl rfl
theorem x_233_133   : am_E d 233 Q (133, L, .ref a :: st, g) ↔ am_kv d 233 Q 136 L st g (am_gf g a 11 58) := am_E_getfield (by decide +kernel : am_dc 233 133 = some (.getfield 143)) (by decide +kernel) rfl
theorem x_233_136   : am_E d 233 Q (136, L, st, g) ↔ am_K d 233 Q (am_ldI 137 L st g 1) := am_E_iload_n (by decide +kernel : am_dc 233 136 = some (.iload_n 1)) rfl rfl
theorem x_233_137   : am_E d 233 Q (137, L, .int x :: .ref a :: st, g) ↔ am_kv d 233 Q 138 L st g (am_iat .iaload g a x) := am_E_iaload (by decide +kernel : am_dc 233 137 = some (.iaload)) rfl
theorem x_233_138   : am_E d 233 Q (138, L, .int x :: st, g) ↔ am_E d 233 Q (139, L, .long x.toInt64 :: st, g) := am_E_i2l (by decide +kernel : am_dc 233 138 = some (.i2l)) rfl
theorem x_233_139  : am_E d 233 Q (139, L, st, g) ↔ am_K d 233 Q (am_S 233 (.invokestatic 368) 139 L st g) := am_E_x (by decide +kernel : am_dc 233 139 = some (.invokestatic 368))
theorem x_233_142   : am_E d 233 Q (142, L, st, g) ↔ am_E d 233 Q (151, L, st, g) := am_E_gt (by decide +kernel : am_dc 233 142 = some (.goto (9))) rfl rfl
theorem x_233_145   : am_E d 233 Q (145, L, st, g) ↔ am_K d 233 Q (am_ldA 146 L st g 0) := am_E_aload_n (by decide +kernel : am_dc 233 145 = some (.aload_n 0)) rfl rfl
theorem x_233_146   : am_E d 233 Q (146, L, .ref a :: st, g) ↔ am_kv d 233 Q 149 L st g (am_gf g a 11 56) := am_E_getfield (by decide +kernel : am_dc 233 146 = some (.getfield 136)) (by decide +kernel) rfl
theorem x_233_149   : am_E d 233 Q (149, L, st, g) ↔ am_K d 233 Q (am_ldI 150 L st g 1) := am_E_iload_n (by decide +kernel : am_dc 233 149 = some (.iload_n 1)) rfl rfl
theorem x_233_150   : am_E d 233 Q (150, L, .int x :: .ref a :: st, g) ↔ am_kv d 233 Q 151 L st g (am_iat .laload g a x) := am_E_laload (by decide +kernel : am_dc 233 150 = some (.laload)) rfl
theorem x_233_151   : am_E d 233 Q (151, L, st, g) ↔ am_K d 233 Q (am_stL 153 L st g 7) := am_E_lstore (by decide +kernel : am_dc 233 151 = some (.lstore 7)) rfl
theorem x_233_153   : am_E d 233 Q (153, L, st, g) ↔ am_K d 233 Q (am_ldA 154 L st g 0) := am_E_aload_n (by decide +kernel : am_dc 233 153 = some (.aload_n 0)) rfl rfl
theorem x_233_154   : am_E d 233 Q (154, L, .ref a :: st, g) ↔ am_kv d 233 Q 157 L st g (am_gf g a 11 57) := am_E_getfield (by decide +kernel : am_dc 233 154 = some (.getfield 140)) (by decide +kernel) rfl
theorem x_233_157   : am_E d 233 Q (157, L, st, g) ↔ am_K d 233 Q (am_ldI 158 L st g 1) := am_E_iload_n (by decide +kernel : am_dc 233 157 = some (.iload_n 1)) rfl rfl
theorem x_233_158   : am_E d 233 Q (158, L, .int x :: .ref a :: st, g) ↔ am_kv d 233 Q 159 L st g (am_iat .iaload g a x) := am_E_iaload (by decide +kernel : am_dc 233 158 = some (.iaload)) rfl
theorem x_233_159   : am_E d 233 Q (159, L, .int x :: st, g) ↔ am_E d 233 Q (am_cmp .le x 0 174 162, L, st, g) := am_E_if (by decide +kernel : am_dc 233 159 = some (.ifCond .le (15))) rfl rfl
theorem x_233_162   : am_E d 233 Q (162, L, st, g) ↔ am_K d 233 Q (am_ldA 163 L st g 0) := am_E_aload_n (by decide +kernel : am_dc 233 162 = some (.aload_n 0)) rfl rfl
theorem x_233_163   : am_E d 233 Q (163, L, .ref a :: st, g) ↔ am_kv d 233 Q 166 L st g (am_gf g a 11 57) := am_E_getfield (by decide +kernel : am_dc 233 163 = some (.getfield 140)) (by decide +kernel) rfl
theorem x_233_166   : am_E d 233 Q (166, L, st, g) ↔ am_K d 233 Q (am_ldI 167 L st g 1) := am_E_iload_n (by decide +kernel : am_dc 233 166 = some (.iload_n 1)) rfl rfl
theorem x_233_167   : am_E d 233 Q (167, L, .int x :: .ref a :: st, g) ↔ am_kv d 233 Q 168 L st g (am_iat .iaload g a x) := am_E_iaload (by decide +kernel : am_dc 233 167 = some (.iaload)) rfl
theorem x_233_168  : am_E d 233 Q (168, L, st, g) ↔ am_K d 233 Q (am_S 233 (.invokestatic 372) 168 L st g) := am_E_x (by decide +kernel : am_dc 233 168 = some (.invokestatic 372))
theorem x_233_171   : am_E d 233 Q (171, L, st, g) ↔ am_E d 233 Q (175, L, st, g) := am_E_gt (by decide +kernel : am_dc 233 171 = some (.goto (4))) rfl rfl
theorem x_233_174   : am_E d 233 Q (174, L, st, g) ↔ am_E d 233 Q (175, L, .int (0) :: st, g) := am_E_iconst (by decide +kernel : am_dc 233 174 = some (.iconst (0))) (by decide) rfl
theorem x_233_175   : am_E d 233 Q (175, L, st, g) ↔ am_K d 233 Q (am_stI 177 L st g 9) := am_E_istore (by decide +kernel : am_dc 233 175 = some (.istore 9)) rfl
theorem x_233_177   : am_E d 233 Q (177, L, st, g) ↔ am_K d 233 Q (am_ldA 178 L st g 0) := am_E_aload_n (by decide +kernel : am_dc 233 177 = some (.aload_n 0)) rfl rfl
theorem x_233_178   : am_E d 233 Q (178, L, .ref a :: st, g) ↔ am_kv d 233 Q 181 L st g (am_gf g a 11 51) := am_E_getfield (by decide +kernel : am_dc 233 178 = some (.getfield 121)) (by decide +kernel) rfl
theorem x_233_181   : am_E d 233 Q (181, L, st, g) ↔ am_K d 233 Q (am_ldI 182 L st g 1) := am_E_iload_n (by decide +kernel : am_dc 233 181 = some (.iload_n 1)) rfl rfl
theorem x_233_182   : am_E d 233 Q (182, L, .int x :: .ref a :: st, g) ↔ am_kv d 233 Q 183 L st g (am_iat .iaload g a x) := am_E_iaload (by decide +kernel : am_dc 233 182 = some (.iaload)) rfl
theorem x_233_183   : am_E d 233 Q (183, L, .int x :: st, g) ↔ am_E d 233 Q (am_cmp .lt x 0 216 186, L, st, g) := am_E_if (by decide +kernel : am_dc 233 183 = some (.ifCond .lt (33))) rfl rfl
theorem x_233_186   : am_E d 233 Q (186, L, st, g) ↔ am_K d 233 Q (am_ldA 187 L st g 0) := am_E_aload_n (by decide +kernel : am_dc 233 186 = some (.aload_n 0)) rfl rfl
theorem x_233_187   : am_E d 233 Q (187, L, .ref a :: st, g) ↔ am_kv d 233 Q 190 L st g (am_gf g a 11 53) := am_E_getfield (by decide +kernel : am_dc 233 187 = some (.getfield 127)) (by decide +kernel) rfl
theorem x_233_190   : am_E d 233 Q (190, L, st, g) ↔ am_K d 233 Q (am_ldI 191 L st g 1) := am_E_iload_n (by decide +kernel : am_dc 233 190 = some (.iload_n 1)) rfl rfl
theorem x_233_191   : am_E d 233 Q (191, L, st, g) ↔ am_E d 233 Q (192, L, .int (-1) :: st, g) := am_E_iconst (by decide +kernel : am_dc 233 191 = some (.iconst (-1))) (by decide) rfl
theorem x_233_192   : am_E d 233 Q (192, L, v :: .int x :: .ref a :: st, g) ↔ am_kg d 233 Q 193 L st (am_sat .iastore g a x v) := am_E_iastore (by decide +kernel : am_dc 233 192 = some (.iastore)) rfl
theorem x_233_193   : am_E d 233 Q (193, L, st, g) ↔ am_K d 233 Q (am_ldA 194 L st g 0) := am_E_aload_n (by decide +kernel : am_dc 233 193 = some (.aload_n 0)) rfl rfl
theorem x_233_194   : am_E d 233 Q (194, L, st, g) ↔ am_K d 233 Q (am_ldI 196 L st g 9) := am_E_iload (by decide +kernel : am_dc 233 194 = some (.iload 9)) rfl
theorem x_233_196   : am_E d 233 Q (196, L, st, g) ↔ am_K d 233 Q (am_ldL 198 L st g 7) := am_E_lload (by decide +kernel : am_dc 233 196 = some (.lload 7)) rfl
theorem x_233_198  : am_E d 233 Q (198, L, st, g) ↔ am_K d 233 Q (am_S 233 (.invokevirtual 324) 198 L st g) := am_E_x (by decide +kernel : am_dc 233 198 = some (.invokevirtual 324))
theorem x_233_201   : am_E d 233 Q (201, L, st, g) ↔ am_K d 233 Q (am_ldA 202 L st g 0) := am_E_aload_n (by decide +kernel : am_dc 233 201 = some (.aload_n 0)) rfl rfl
theorem x_233_202   : am_E d 233 Q (202, L, st, g) ↔ am_K d 233 Q (am_ldA 203 L st g 0) := am_E_aload_n (by decide +kernel : am_dc 233 202 = some (.aload_n 0)) rfl rfl
theorem x_233_203   : am_E d 233 Q (203, L, .ref a :: st, g) ↔ am_kv d 233 Q 206 L st g (am_gf g a 11 62) := am_E_getfield (by decide +kernel : am_dc 233 203 = some (.getfield 305)) (by decide +kernel) rfl
theorem x_233_206   : am_E d 233 Q (206, L, st, g) ↔ am_K d 233 Q (am_ldA 207 L st g 0) := am_E_aload_n (by decide +kernel : am_dc 233 206 = some (.aload_n 0)) rfl rfl
theorem x_233_207   : am_E d 233 Q (207, L, .ref a :: st, g) ↔ am_kv d 233 Q 210 L st g (am_gf g a 11 63) := am_E_getfield (by decide +kernel : am_dc 233 207 = some (.getfield 308)) (by decide +kernel) rfl
theorem x_233_210  : am_E d 233 Q (210, L, st, g) ↔ am_K d 233 Q (am_S 233 (.invokevirtual 356) 210 L st g) := am_E_x (by decide +kernel : am_dc 233 210 = some (.invokevirtual 356))
theorem x_233_213   : am_E d 233 Q (213, L, st, g) ↔ am_E d 233 Q (238, L, st, g) := am_E_gt (by decide +kernel : am_dc 233 213 = some (.goto (25))) rfl rfl
theorem x_233_216   : am_E d 233 Q (216, L, st, g) ↔ am_K d 233 Q (am_ldA 217 L st g 0) := am_E_aload_n (by decide +kernel : am_dc 233 216 = some (.aload_n 0)) rfl rfl
theorem x_233_217   : am_E d 233 Q (217, L, v :: st, g) ↔ if v.category = 1 then am_E d 233 Q (218, L, v :: v :: st, g) else False := am_E_dup (by decide +kernel : am_dc 233 217 = some (.dup)) rfl
theorem x_233_218   : am_E d 233 Q (218, L, .ref a :: st, g) ↔ am_kv d 233 Q 221 L st g (am_gf g a 11 47) := am_E_getfield (by decide +kernel : am_dc 233 218 = some (.getfield 315)) (by decide +kernel) rfl
theorem x_233_221   : am_E d 233 Q (221, L, st, g) ↔ am_E d 233 Q (222, L, .int (1) :: st, g) := am_E_iconst (by decide +kernel : am_dc 233 221 = some (.iconst (1))) (by decide) rfl
theorem x_233_222   : am_E d 233 Q (222, L, .int y :: .int x :: st, g) ↔ am_E d 233 Q (223, L, .int (x - y) :: st, g) := am_E_isub (by decide +kernel : am_dc 233 222 = some (.isub)) rfl
theorem x_233_223   (hok : (am_ok (am_ft 11 47).1 v && (!(am_ft 11 47).2 || (am_ini 233 && am_co 11 == am_o 233)) && decide (11 < 13)) = true) : am_E d 233 Q (223, L, v :: .ref a :: st, g) ↔ am_kg d 233 Q 226 L st (am_pf g a 11 47 v) := am_E_putfield (by decide +kernel : am_dc 233 223 = some (.putfield 315)) (by decide +kernel) rfl hok
theorem x_233_226   : am_E d 233 Q (226, L, st, g) ↔ am_K d 233 Q (am_ldA 227 L st g 0) := am_E_aload_n (by decide +kernel : am_dc 233 226 = some (.aload_n 0)) rfl rfl
theorem x_233_227   : am_E d 233 Q (227, L, st, g) ↔ am_K d 233 Q (am_ldI 229 L st g 9) := am_E_iload (by decide +kernel : am_dc 233 227 = some (.iload 9)) rfl
theorem x_233_229   : am_E d 233 Q (229, L, st, g) ↔ am_K d 233 Q (am_ldL 231 L st g 7) := am_E_lload (by decide +kernel : am_dc 233 229 = some (.lload 7)) rfl
theorem x_233_231  : am_E d 233 Q (231, L, st, g) ↔ am_K d 233 Q (am_S 233 (.invokevirtual 324) 231 L st g) := am_E_x (by decide +kernel : am_dc 233 231 = some (.invokevirtual 324))
theorem x_233_234   : am_E d 233 Q (234, L, st, g) ↔ am_K d 233 Q (am_ldA 235 L st g 0) := am_E_aload_n (by decide +kernel : am_dc 233 234 = some (.aload_n 0)) rfl rfl
theorem x_233_235  : am_E d 233 Q (235, L, st, g) ↔ am_K d 233 Q (am_S 233 (.invokevirtual 328) 235 L st g) := am_E_x (by decide +kernel : am_dc 233 235 = some (.invokevirtual 328))
theorem x_233_238  : am_E d 233 Q (238, L, [], g) ↔ Q (.inl none) g := am_E_return (by decide +kernel : am_dc 233 238 = some (.return_)) (by decide +kernel)
theorem f_233_127 : am_fl 233 127 = some (11, 53) := by decide +kernel
theorem f_233_130 : am_fl 233 130 = some (11, 54) := by decide +kernel
theorem v_233_217 : am_iv 233 217 = some (0, 213, 2) := by decide +kernel
theorem f_233_121 : am_fl 233 121 = some (11, 51) := by decide +kernel
theorem f_233_17 : am_fl 233 17 = some (11, 3) := by decide +kernel
theorem f_233_133 : am_fl 233 133 = some (11, 55) := by decide +kernel
theorem v_233_175 : am_iv 233 175 = some (1, 164, 4) := by decide +kernel
theorem v_233_362 : am_iv 233 362 = some (1, 207, 4) := by decide +kernel
theorem v_233_365 : am_iv 233 365 = some (1, 208, 2) := by decide +kernel
theorem f_233_136 : am_fl 233 136 = some (11, 56) := by decide +kernel
theorem f_233_143 : am_fl 233 143 = some (11, 58) := by decide +kernel
theorem v_233_368 : am_iv 233 368 = some (0, 224, 2) := by decide +kernel
theorem f_233_140 : am_fl 233 140 = some (11, 57) := by decide +kernel
theorem v_233_372 : am_iv 233 372 = some (0, 210, 1) := by decide +kernel
theorem v_233_324 : am_iv 233 324 = some (1, 223, 3) := by decide +kernel
theorem f_233_305 : am_fl 233 305 = some (11, 62) := by decide +kernel
theorem f_233_308 : am_fl 233 308 = some (11, 63) := by decide +kernel
theorem v_233_356 : am_iv 233 356 = some (1, 217, 3) := by decide +kernel
theorem f_233_315 : am_fl 233 315 = some (11, 47) := by decide +kernel
theorem v_233_328 : am_iv 233 328 = some (1, 167, 1) := by decide +kernel
theorem t_233 : am_t 233 = none := by decide +kernel
theorem h_233 : am_h 233 = [] := by decide +kernel
theorem m_233 : am_m 233 = 10 := by decide +kernel
theorem x_234_0   : am_E d 234 Q (0, L, st, g) ↔ am_K d 234 Q (am_ldA 1 L st g 0) := am_E_aload_n (by decide +kernel : am_dc 234 0 = some (.aload_n 0)) rfl rfl
theorem x_234_1   : am_E d 234 Q (1, L, .ref a :: st, g) ↔ am_kv d 234 Q 4 L st g (am_gf g a 11 33) := am_E_getfield (by decide +kernel : am_dc 234 1 = some (.getfield 248)) (by decide +kernel) rfl
theorem x_234_4   : am_E d 234 Q (4, L, .int x :: st, g) ↔ am_E d 234 Q (am_cmp .ne x 0 13 7, L, st, g) := am_E_if (by decide +kernel : am_dc 234 4 = some (.ifCond .ne (9))) rfl rfl
theorem x_234_7   : am_E d 234 Q (7, L, st, g) ↔ am_K d 234 Q (am_ldA 8 L st g 0) := am_E_aload_n (by decide +kernel : am_dc 234 7 = some (.aload_n 0)) rfl rfl
theorem x_234_8   : am_E d 234 Q (8, L, st, g) ↔ am_K d 234 Q (am_ldI 9 L st g 1) := am_E_iload_n (by decide +kernel : am_dc 234 8 = some (.iload_n 1)) rfl rfl
theorem x_234_9  : am_E d 234 Q (9, L, st, g) ↔ am_K d 234 Q (am_S 234 (.invokevirtual 274) 9 L st g) := am_E_x (by decide +kernel : am_dc 234 9 = some (.invokevirtual 274))
theorem x_234_12  : am_E d 234 Q (12, L, [.int x], g) ↔ if am_ok (FieldType.boolean) (.int x) = true then Q (.inl (some (.int x))) g else False := am_E_ireturn (by decide +kernel : am_dc 234 12 = some (.ireturn)) (by decide +kernel)
theorem x_234_13   : am_E d 234 Q (13, L, st, g) ↔ am_K d 234 Q (am_ldA 14 L st g 0) := am_E_aload_n (by decide +kernel : am_dc 234 13 = some (.aload_n 0)) rfl rfl
theorem x_234_14   : am_E d 234 Q (14, L, .ref a :: st, g) ↔ am_kv d 234 Q 17 L st g (am_gf g a 11 33) := am_E_getfield (by decide +kernel : am_dc 234 14 = some (.getfield 248)) (by decide +kernel) rfl
theorem x_234_17   : am_E d 234 Q (17, L, st, g) ↔ am_E d 234 Q (18, L, .int (2) :: st, g) := am_E_iconst (by decide +kernel : am_dc 234 17 = some (.iconst (2))) (by decide) rfl
theorem x_234_18   : am_E d 234 Q (18, L, .int y :: .int x :: st, g) ↔ am_E d 234 Q (am_cmp .ne x y 27 21, L, st, g) := am_E_ic (by decide +kernel : am_dc 234 18 = some (.if_icmp .ne (9))) rfl rfl
theorem x_234_21   : am_E d 234 Q (21, L, st, g) ↔ am_K d 234 Q (am_ldA 22 L st g 0) := am_E_aload_n (by decide +kernel : am_dc 234 21 = some (.aload_n 0)) rfl rfl
theorem x_234_22   : am_E d 234 Q (22, L, st, g) ↔ am_K d 234 Q (am_ldI 23 L st g 1) := am_E_iload_n (by decide +kernel : am_dc 234 22 = some (.iload_n 1)) rfl rfl
theorem x_234_23  : am_E d 234 Q (23, L, st, g) ↔ am_K d 234 Q (am_S 234 (.invokevirtual 277) 23 L st g) := am_E_x (by decide +kernel : am_dc 234 23 = some (.invokevirtual 277))
theorem x_234_26  : am_E d 234 Q (26, L, [.int x], g) ↔ if am_ok (FieldType.boolean) (.int x) = true then Q (.inl (some (.int x))) g else False := am_E_ireturn (by decide +kernel : am_dc 234 26 = some (.ireturn)) (by decide +kernel)
theorem x_234_27   : am_E d 234 Q (27, L, st, g) ↔ am_K d 234 Q (am_ldA 28 L st g 0) := am_E_aload_n (by decide +kernel : am_dc 234 27 = some (.aload_n 0)) rfl rfl
theorem x_234_28   : am_E d 234 Q (28, L, .ref a :: st, g) ↔ am_kv d 234 Q 31 L st g (am_gf g a 11 33) := am_E_getfield (by decide +kernel : am_dc 234 28 = some (.getfield 248)) (by decide +kernel) rfl
theorem x_234_31   : am_E d 234 Q (31, L, st, g) ↔ am_E d 234 Q (32, L, .int (1) :: st, g) := am_E_iconst (by decide +kernel : am_dc 234 31 = some (.iconst (1))) (by decide) rfl
theorem x_234_32   : am_E d 234 Q (32, L, .int y :: .int x :: st, g) ↔ am_E d 234 Q (am_cmp .ne x y 82 35, L, st, g) := am_E_ic (by decide +kernel : am_dc 234 32 = some (.if_icmp .ne (50))) rfl rfl
theorem x_234_35   : am_E d 234 Q (35, L, st, g) ↔ am_K d 234 Q (am_ldI 36 L st g 1) := am_E_iload_n (by decide +kernel : am_dc 234 35 = some (.iload_n 1)) rfl rfl
theorem x_234_36  : am_E d 234 Q (36, L, st, g) ↔ am_K d 234 Q (am_S 234 (.invokestatic 220) 36 L st g) := am_E_x (by decide +kernel : am_dc 234 36 = some (.invokestatic 220))
theorem x_234_39   : am_E d 234 Q (39, L, .int x :: st, g) ↔ am_E d 234 Q (am_cmp .eq x 0 82 42, L, st, g) := am_E_if (by decide +kernel : am_dc 234 39 = some (.ifCond .eq (43))) rfl rfl
theorem x_234_42   : am_E d 234 Q (42, L, st, g) ↔ am_K d 234 Q (am_ldA 43 L st g 0) := am_E_aload_n (by decide +kernel : am_dc 234 42 = some (.aload_n 0)) rfl rfl
theorem x_234_43   : am_E d 234 Q (43, L, v :: st, g) ↔ if v.category = 1 then am_E d 234 Q (44, L, v :: v :: st, g) else False := am_E_dup (by decide +kernel : am_dc 234 43 = some (.dup)) rfl
theorem x_234_44   : am_E d 234 Q (44, L, .ref a :: st, g) ↔ am_kv d 234 Q 47 L st g (am_gf g a 11 34) := am_E_getfield (by decide +kernel : am_dc 234 44 = some (.getfield 257)) (by decide +kernel) rfl
theorem x_234_47   : am_E d 234 Q (47, L, st, g) ↔ am_E d 234 Q (48, L, .int (1) :: st, g) := am_E_iconst (by decide +kernel : am_dc 234 47 = some (.iconst (1))) (by decide) rfl
theorem x_234_48   : am_E d 234 Q (48, L, .int y :: .int x :: st, g) ↔ am_E d 234 Q (49, L, .int (x + y) :: st, g) := am_E_iadd (by decide +kernel : am_dc 234 48 = some (.iadd)) rfl
theorem x_234_49   (hok : (am_ok (am_ft 11 34).1 v && (!(am_ft 11 34).2 || (am_ini 234 && am_co 11 == am_o 234)) && decide (11 < 13)) = true) : am_E d 234 Q (49, L, v :: .ref a :: st, g) ↔ am_kg d 234 Q 52 L st (am_pf g a 11 34 v) := am_E_putfield (by decide +kernel : am_dc 234 49 = some (.putfield 257)) (by decide +kernel) rfl hok
theorem x_234_52   : am_E d 234 Q (52, L, st, g) ↔ am_K d 234 Q (am_ldA 53 L st g 0) := am_E_aload_n (by decide +kernel : am_dc 234 52 = some (.aload_n 0)) rfl rfl
theorem x_234_53   : am_E d 234 Q (53, L, st, g) ↔ am_E d 234 Q (55, L, .int (10) :: st, g) := am_E_bipush (by decide +kernel : am_dc 234 53 = some (.bipush (10))) (by decide) rfl
theorem x_234_55   : am_E d 234 Q (55, L, st, g) ↔ am_K d 234 Q (am_ldA 56 L st g 0) := am_E_aload_n (by decide +kernel : am_dc 234 55 = some (.aload_n 0)) rfl rfl
theorem x_234_56   : am_E d 234 Q (56, L, .ref a :: st, g) ↔ am_kv d 234 Q 59 L st g (am_gf g a 11 35) := am_E_getfield (by decide +kernel : am_dc 234 56 = some (.getfield 251)) (by decide +kernel) rfl
theorem x_234_59   : am_E d 234 Q (59, L, .int y :: .int x :: st, g) ↔ am_E d 234 Q (60, L, .int (x * y) :: st, g) := am_E_imul (by decide +kernel : am_dc 234 59 = some (.imul)) rfl
theorem x_234_60   : am_E d 234 Q (60, L, st, g) ↔ am_K d 234 Q (am_ldI 61 L st g 1) := am_E_iload_n (by decide +kernel : am_dc 234 60 = some (.iload_n 1)) rfl rfl
theorem x_234_61   : am_E d 234 Q (61, L, .int y :: .int x :: st, g) ↔ am_E d 234 Q (62, L, .int (x + y) :: st, g) := am_E_iadd (by decide +kernel : am_dc 234 61 = some (.iadd)) rfl
theorem x_234_62   : am_E d 234 Q (62, L, st, g) ↔ am_E d 234 Q (64, L, .int (48) :: st, g) := am_E_bipush (by decide +kernel : am_dc 234 62 = some (.bipush (48))) (by decide) rfl
theorem x_234_64   : am_E d 234 Q (64, L, .int y :: .int x :: st, g) ↔ am_E d 234 Q (65, L, .int (x - y) :: st, g) := am_E_isub (by decide +kernel : am_dc 234 64 = some (.isub)) rfl
theorem x_234_65   (hok : (am_ok (am_ft 11 35).1 v && (!(am_ft 11 35).2 || (am_ini 234 && am_co 11 == am_o 234)) && decide (11 < 13)) = true) : am_E d 234 Q (65, L, v :: .ref a :: st, g) ↔ am_kg d 234 Q 68 L st (am_pf g a 11 35 v) := am_E_putfield (by decide +kernel : am_dc 234 65 = some (.putfield 251)) (by decide +kernel) rfl hok
theorem x_234_68   : am_E d 234 Q (68, L, st, g) ↔ am_K d 234 Q (am_ldA 69 L st g 0) := am_E_aload_n (by decide +kernel : am_dc 234 68 = some (.aload_n 0)) rfl rfl
theorem x_234_69   : am_E d 234 Q (69, L, .ref a :: st, g) ↔ am_kv d 234 Q 72 L st g (am_gf g a 11 34) := am_E_getfield (by decide +kernel : am_dc 234 69 = some (.getfield 257)) (by decide +kernel) rfl
theorem x_234_72   : am_E d 234 Q (72, L, st, g) ↔ am_E d 234 Q (73, L, .int (5) :: st, g) := am_E_iconst (by decide +kernel : am_dc 234 72 = some (.iconst (5))) (by decide) rfl
theorem x_234_73   : am_E d 234 Q (73, L, .int y :: .int x :: st, g) ↔ am_E d 234 Q (am_cmp .gt x y 80 76, L, st, g) := am_E_ic (by decide +kernel : am_dc 234 73 = some (.if_icmp .gt (7))) rfl rfl
theorem x_234_76   : am_E d 234 Q (76, L, st, g) ↔ am_E d 234 Q (77, L, .int (1) :: st, g) := am_E_iconst (by decide +kernel : am_dc 234 76 = some (.iconst (1))) (by decide) rfl
theorem x_234_77   : am_E d 234 Q (77, L, st, g) ↔ am_E d 234 Q (81, L, st, g) := am_E_gt (by decide +kernel : am_dc 234 77 = some (.goto (4))) rfl rfl
theorem x_234_80   : am_E d 234 Q (80, L, st, g) ↔ am_E d 234 Q (81, L, .int (0) :: st, g) := am_E_iconst (by decide +kernel : am_dc 234 80 = some (.iconst (0))) (by decide) rfl
theorem x_234_81  : am_E d 234 Q (81, L, [.int x], g) ↔ if am_ok (FieldType.boolean) (.int x) = true then Q (.inl (some (.int x))) g else False := am_E_ireturn (by decide +kernel : am_dc 234 81 = some (.ireturn)) (by decide +kernel)
theorem x_234_82   : am_E d 234 Q (82, L, st, g) ↔ am_K d 234 Q (am_ldA 83 L st g 0) := am_E_aload_n (by decide +kernel : am_dc 234 82 = some (.aload_n 0)) rfl rfl
theorem x_234_83   : am_E d 234 Q (83, L, .ref a :: st, g) ↔ am_kv d 234 Q 86 L st g (am_gf g a 11 33) := am_E_getfield (by decide +kernel : am_dc 234 83 = some (.getfield 248)) (by decide +kernel) rfl
theorem x_234_86   : am_E d 234 Q (86, L, st, g) ↔ am_E d 234 Q (87, L, .int (3) :: st, g) := am_E_iconst (by decide +kernel : am_dc 234 86 = some (.iconst (3))) (by decide) rfl
theorem x_234_87   : am_E d 234 Q (87, L, .int y :: .int x :: st, g) ↔ am_E d 234 Q (am_cmp .ne x y 130 90, L, st, g) := am_E_ic (by decide +kernel : am_dc 234 87 = some (.if_icmp .ne (43))) rfl rfl
theorem x_234_90   : am_E d 234 Q (90, L, st, g) ↔ am_K d 234 Q (am_ldI 91 L st g 1) := am_E_iload_n (by decide +kernel : am_dc 234 90 = some (.iload_n 1)) rfl rfl
theorem x_234_91  : am_E d 234 Q (91, L, st, g) ↔ am_K d 234 Q (am_S 234 (.invokestatic 227) 91 L st g) := am_E_x (by decide +kernel : am_dc 234 91 = some (.invokestatic 227))
theorem x_234_94   : am_E d 234 Q (94, L, .int x :: st, g) ↔ am_E d 234 Q (am_cmp .eq x 0 130 97, L, st, g) := am_E_if (by decide +kernel : am_dc 234 94 = some (.ifCond .eq (36))) rfl rfl
theorem x_234_97   : am_E d 234 Q (97, L, st, g) ↔ am_K d 234 Q (am_ldA 98 L st g 0) := am_E_aload_n (by decide +kernel : am_dc 234 97 = some (.aload_n 0)) rfl rfl
theorem x_234_98   : am_E d 234 Q (98, L, .ref a :: st, g) ↔ am_kv d 234 Q 101 L st g (am_gf g a 11 19) := am_E_getfield (by decide +kernel : am_dc 234 98 = some (.getfield 63)) (by decide +kernel) rfl
theorem x_234_101   : am_E d 234 Q (101, L, st, g) ↔ am_E d 234 Q (103, L, .int (24) :: st, g) := am_E_bipush (by decide +kernel : am_dc 234 101 = some (.bipush (24))) (by decide) rfl
theorem x_234_103   : am_E d 234 Q (103, L, st, g) ↔ am_K d 234 Q (am_ldA 104 L st g 0) := am_E_aload_n (by decide +kernel : am_dc 234 103 = some (.aload_n 0)) rfl rfl
theorem x_234_104   : am_E d 234 Q (104, L, .ref a :: st, g) ↔ am_kv d 234 Q 107 L st g (am_gf g a 11 11) := am_E_getfield (by decide +kernel : am_dc 234 104 = some (.getfield 211)) (by decide +kernel) rfl
theorem x_234_107   : am_E d 234 Q (107, L, .int y :: .int x :: st, g) ↔ am_E d 234 Q (108, L, .int (x * y) :: st, g) := am_E_imul (by decide +kernel : am_dc 234 107 = some (.imul)) rfl
theorem x_234_108   : am_E d 234 Q (108, L, st, g) ↔ am_K d 234 Q (am_ldA 109 L st g 0) := am_E_aload_n (by decide +kernel : am_dc 234 108 = some (.aload_n 0)) rfl rfl
theorem x_234_109   : am_E d 234 Q (109, L, .ref a :: st, g) ↔ am_kv d 234 Q 112 L st g (am_gf g a 11 18) := am_E_getfield (by decide +kernel : am_dc 234 109 = some (.getfield 60)) (by decide +kernel) rfl
theorem x_234_112   : am_E d 234 Q (112, L, st, g) ↔ am_K d 234 Q (am_ldA 113 L st g 0) := am_E_aload_n (by decide +kernel : am_dc 234 112 = some (.aload_n 0)) rfl rfl
theorem x_234_113   : am_E d 234 Q (113, L, .ref a :: st, g) ↔ am_kv d 234 Q 116 L st g (am_gf g a 11 11) := am_E_getfield (by decide +kernel : am_dc 234 113 = some (.getfield 211)) (by decide +kernel) rfl
theorem x_234_116   : am_E d 234 Q (116, L, .int x :: .ref a :: st, g) ↔ am_kv d 234 Q 117 L st g (am_iat .iaload g a x) := am_E_iaload (by decide +kernel : am_dc 234 116 = some (.iaload)) rfl
theorem x_234_117   : am_E d 234 Q (117, L, .int y :: .int x :: st, g) ↔ am_E d 234 Q (118, L, .int (x + y) :: st, g) := am_E_iadd (by decide +kernel : am_dc 234 117 = some (.iadd)) rfl
theorem x_234_118   : am_E d 234 Q (118, L, st, g) ↔ am_K d 234 Q (am_ldI 119 L st g 1) := am_E_iload_n (by decide +kernel : am_dc 234 118 = some (.iload_n 1)) rfl rfl
theorem x_234_119   : am_E d 234 Q (119, L, st, g) ↔ am_E d 234 Q (121, L, .int (120) :: st, g) := am_E_bipush (by decide +kernel : am_dc 234 119 = some (.bipush (120))) (by decide) rfl
theorem x_234_121   : am_E d 234 Q (121, L, .int y :: .int x :: st, g) ↔ am_E d 234 Q (122, L, .int (x - y) :: st, g) := am_E_isub (by decide +kernel : am_dc 234 121 = some (.isub)) rfl
theorem x_234_122   : am_E d 234 Q (122, L, v :: .int x :: .ref a :: st, g) ↔ am_kg d 234 Q 123 L st (am_sat .iastore g a x v) := am_E_iastore (by decide +kernel : am_dc 234 122 = some (.iastore)) rfl
theorem x_234_123   : am_E d 234 Q (123, L, st, g) ↔ am_K d 234 Q (am_ldA 124 L st g 0) := am_E_aload_n (by decide +kernel : am_dc 234 123 = some (.aload_n 0)) rfl rfl
theorem x_234_124   : am_E d 234 Q (124, L, st, g) ↔ am_E d 234 Q (125, L, .int (2) :: st, g) := am_E_iconst (by decide +kernel : am_dc 234 124 = some (.iconst (2))) (by decide) rfl
theorem x_234_125   (hok : (am_ok (am_ft 11 33).1 v && (!(am_ft 11 33).2 || (am_ini 234 && am_co 11 == am_o 234)) && decide (11 < 13)) = true) : am_E d 234 Q (125, L, v :: .ref a :: st, g) ↔ am_kg d 234 Q 128 L st (am_pf g a 11 33 v) := am_E_putfield (by decide +kernel : am_dc 234 125 = some (.putfield 248)) (by decide +kernel) rfl hok
theorem x_234_128   : am_E d 234 Q (128, L, st, g) ↔ am_E d 234 Q (129, L, .int (1) :: st, g) := am_E_iconst (by decide +kernel : am_dc 234 128 = some (.iconst (1))) (by decide) rfl
theorem x_234_129  : am_E d 234 Q (129, L, [.int x], g) ↔ if am_ok (FieldType.boolean) (.int x) = true then Q (.inl (some (.int x))) g else False := am_E_ireturn (by decide +kernel : am_dc 234 129 = some (.ireturn)) (by decide +kernel)
theorem x_234_130   : am_E d 234 Q (130, L, st, g) ↔ am_K d 234 Q (am_ldA 131 L st g 0) := am_E_aload_n (by decide +kernel : am_dc 234 130 = some (.aload_n 0)) rfl rfl
theorem x_234_131   : am_E d 234 Q (131, L, st, g) ↔ am_K d 234 Q (am_ldI 132 L st g 1) := am_E_iload_n (by decide +kernel : am_dc 234 131 = some (.iload_n 1)) rfl rfl
theorem x_234_132  : am_E d 234 Q (132, L, st, g) ↔ am_K d 234 Q (am_S 234 (.invokevirtual 280) 132 L st g) := am_E_x (by decide +kernel : am_dc 234 132 = some (.invokevirtual 280))
theorem x_234_135  : am_E d 234 Q (135, L, [.int x], g) ↔ if am_ok (FieldType.boolean) (.int x) = true then Q (.inl (some (.int x))) g else False := am_E_ireturn (by decide +kernel : am_dc 234 135 = some (.ireturn)) (by decide +kernel)
theorem f_234_248 : am_fl 234 248 = some (11, 33) := by decide +kernel
theorem v_234_274 : am_iv 234 274 = some (1, 162, 2) := by decide +kernel
theorem v_234_277 : am_iv 234 277 = some (1, 226, 2) := by decide +kernel
theorem v_234_220 : am_iv 234 220 = some (0, 191, 1) := by decide +kernel
theorem f_234_257 : am_fl 234 257 = some (11, 34) := by decide +kernel
theorem f_234_251 : am_fl 234 251 = some (11, 35) := by decide +kernel
theorem v_234_227 : am_iv 234 227 = some (0, 195, 1) := by decide +kernel
theorem f_234_63 : am_fl 234 63 = some (11, 19) := by decide +kernel
theorem f_234_211 : am_fl 234 211 = some (11, 11) := by decide +kernel
theorem f_234_60 : am_fl 234 60 = some (11, 18) := by decide +kernel
theorem v_234_280 : am_iv 234 280 = some (1, 181, 2) := by decide +kernel
theorem t_234 : am_t 234 = some (FieldType.boolean) := by decide +kernel
theorem h_234 : am_h 234 = [] := by decide +kernel
theorem m_234 : am_m 234 = 2 := by decide +kernel
theorem x_235_0   : am_E d 235 Q (0, L, st, g) ↔ am_K d 235 Q (am_ldI 2 L st g 4) := am_E_iload (by decide +kernel : am_dc 235 0 = some (.iload 4)) rfl
theorem x_235_2   : am_E d 235 Q (2, L, st, g) ↔ am_K d 235 Q (am_stI 4 L st g 5) := am_E_istore (by decide +kernel : am_dc 235 2 = some (.istore 5)) rfl
theorem x_235_4   : am_E d 235 Q (4, L, st, g) ↔ am_E d 235 Q (6, L, .int (24) :: st, g) := am_E_bipush (by decide +kernel : am_dc 235 4 = some (.bipush (24))) (by decide) rfl
theorem x_235_6   : am_E d 235 Q (6, L, st, g) ↔ am_K d 235 Q (am_ldI 7 L st g 1) := am_E_iload_n (by decide +kernel : am_dc 235 6 = some (.iload_n 1)) rfl rfl
theorem x_235_7   : am_E d 235 Q (7, L, .int y :: .int x :: st, g) ↔ am_E d 235 Q (8, L, .int (x * y) :: st, g) := am_E_imul (by decide +kernel : am_dc 235 7 = some (.imul)) rfl
theorem x_235_8   : am_E d 235 Q (8, L, st, g) ↔ am_K d 235 Q (am_ldI 9 L st g 2) := am_E_iload_n (by decide +kernel : am_dc 235 8 = some (.iload_n 2)) rfl rfl
theorem x_235_9   : am_E d 235 Q (9, L, .int y :: .int x :: st, g) ↔ am_E d 235 Q (10, L, .int (x + y) :: st, g) := am_E_iadd (by decide +kernel : am_dc 235 9 = some (.iadd)) rfl
theorem x_235_10   : am_E d 235 Q (10, L, st, g) ↔ am_K d 235 Q (am_stI 12 L st g 6) := am_E_istore (by decide +kernel : am_dc 235 10 = some (.istore 6)) rfl
theorem x_235_12   : am_E d 235 Q (12, L, st, g) ↔ am_K d 235 Q (am_ldI 14 L st g 6) := am_E_iload (by decide +kernel : am_dc 235 12 = some (.iload 6)) rfl
theorem x_235_14   : am_E d 235 Q (14, L, st, g) ↔ am_E d 235 Q (16, L, .int (24) :: st, g) := am_E_bipush (by decide +kernel : am_dc 235 14 = some (.bipush (24))) (by decide) rfl
theorem x_235_16   : am_E d 235 Q (16, L, st, g) ↔ am_K d 235 Q (am_ldI 17 L st g 1) := am_E_iload_n (by decide +kernel : am_dc 235 16 = some (.iload_n 1)) rfl rfl
theorem x_235_17   : am_E d 235 Q (17, L, .int y :: .int x :: st, g) ↔ am_E d 235 Q (18, L, .int (x * y) :: st, g) := am_E_imul (by decide +kernel : am_dc 235 17 = some (.imul)) rfl
theorem x_235_18   : am_E d 235 Q (18, L, st, g) ↔ am_K d 235 Q (am_ldI 19 L st g 2) := am_E_iload_n (by decide +kernel : am_dc 235 18 = some (.iload_n 2)) rfl rfl
theorem x_235_19   : am_E d 235 Q (19, L, .int y :: .int x :: st, g) ↔ am_E d 235 Q (20, L, .int (x + y) :: st, g) := am_E_iadd (by decide +kernel : am_dc 235 19 = some (.iadd)) rfl
theorem x_235_20   : am_E d 235 Q (20, L, st, g) ↔ am_K d 235 Q (am_ldI 21 L st g 3) := am_E_iload_n (by decide +kernel : am_dc 235 20 = some (.iload_n 3)) rfl rfl
theorem x_235_21   : am_E d 235 Q (21, L, .int y :: .int x :: st, g) ↔ am_E d 235 Q (22, L, .int (x + y) :: st, g) := am_E_iadd (by decide +kernel : am_dc 235 21 = some (.iadd)) rfl
theorem x_235_22   : am_E d 235 Q (22, L, .int y :: .int x :: st, g) ↔ am_E d 235 Q (am_cmp .ge x y 246 25, L, st, g) := am_E_ic (by decide +kernel : am_dc 235 22 = some (.if_icmp .ge (224))) rfl rfl
theorem x_235_25   : am_E d 235 Q (25, L, st, g) ↔ am_K d 235 Q (am_ldI 27 L st g 5) := am_E_iload (by decide +kernel : am_dc 235 25 = some (.iload 5)) rfl
theorem x_235_27   : am_E d 235 Q (27, L, .int x :: st, g) ↔ am_E d 235 Q (am_cmp .lt x 0 246 30, L, st, g) := am_E_if (by decide +kernel : am_dc 235 27 = some (.ifCond .lt (219))) rfl rfl
theorem x_235_30   : am_E d 235 Q (30, L, st, g) ↔ am_K d 235 Q (am_ldA 31 L st g 0) := am_E_aload_n (by decide +kernel : am_dc 235 30 = some (.aload_n 0)) rfl rfl
theorem x_235_31   : am_E d 235 Q (31, L, .ref a :: st, g) ↔ am_kv d 235 Q 34 L st g (am_gf g a 11 19) := am_E_getfield (by decide +kernel : am_dc 235 31 = some (.getfield 63)) (by decide +kernel) rfl
theorem x_235_34   : am_E d 235 Q (34, L, st, g) ↔ am_K d 235 Q (am_ldI 36 L st g 6) := am_E_iload (by decide +kernel : am_dc 235 34 = some (.iload 6)) rfl
theorem x_235_36   : am_E d 235 Q (36, L, .int x :: .ref a :: st, g) ↔ am_kv d 235 Q 37 L st g (am_iat .iaload g a x) := am_E_iaload (by decide +kernel : am_dc 235 36 = some (.iaload)) rfl
theorem x_235_37   : am_E d 235 Q (37, L, st, g) ↔ am_K d 235 Q (am_stI 39 L st g 7) := am_E_istore (by decide +kernel : am_dc 235 37 = some (.istore 7)) rfl
theorem x_235_39   : am_E d 235 Q (39, L, st, g) ↔ am_K d 235 Q (am_ldA 40 L st g 0) := am_E_aload_n (by decide +kernel : am_dc 235 39 = some (.aload_n 0)) rfl rfl
theorem x_235_40   : am_E d 235 Q (40, L, .ref a :: st, g) ↔ am_kv d 235 Q 43 L st g (am_gf g a 11 20) := am_E_getfield (by decide +kernel : am_dc 235 40 = some (.getfield 66)) (by decide +kernel) rfl
theorem x_235_43   : am_E d 235 Q (43, L, st, g) ↔ am_K d 235 Q (am_ldI 45 L st g 6) := am_E_iload (by decide +kernel : am_dc 235 43 = some (.iload 6)) rfl
theorem x_235_45   : am_E d 235 Q (45, L, .int x :: .ref a :: st, g) ↔ am_kv d 235 Q 46 L st g (am_iat .iaload g a x) := am_E_iaload (by decide +kernel : am_dc 235 45 = some (.iaload)) rfl
theorem x_235_46   : am_E d 235 Q (46, L, st, g) ↔ am_K d 235 Q (am_stI 48 L st g 8) := am_E_istore (by decide +kernel : am_dc 235 46 = some (.istore 8)) rfl
theorem x_235_48   : am_E d 235 Q (48, L, st, g) ↔ am_K d 235 Q (am_ldI 50 L st g 5) := am_E_iload (by decide +kernel : am_dc 235 48 = some (.iload 5)) rfl
theorem x_235_50   : am_E d 235 Q (50, L, st, g) ↔ am_K d 235 Q (am_ldI 52 L st g 7) := am_E_iload (by decide +kernel : am_dc 235 50 = some (.iload 7)) rfl
theorem x_235_52  : am_E d 235 Q (52, L, st, g) ↔ am_K d 235 Q (am_S 235 (.invokestatic 217) 52 L st g) := am_E_x (by decide +kernel : am_dc 235 52 = some (.invokestatic 217))
theorem x_235_55   : am_E d 235 Q (55, L, st, g) ↔ am_K d 235 Q (am_stI 57 L st g 9) := am_E_istore (by decide +kernel : am_dc 235 55 = some (.istore 9)) rfl
theorem x_235_57   : am_E d 235 Q (57, L, st, g) ↔ am_K d 235 Q (am_ldA 58 L st g 0) := am_E_aload_n (by decide +kernel : am_dc 235 57 = some (.aload_n 0)) rfl rfl
theorem x_235_58   : am_E d 235 Q (58, L, st, g) ↔ am_K d 235 Q (am_ldI 60 L st g 7) := am_E_iload (by decide +kernel : am_dc 235 58 = some (.iload 7)) rfl
theorem x_235_60   : am_E d 235 Q (60, L, st, g) ↔ am_K d 235 Q (am_ldI 62 L st g 9) := am_E_iload (by decide +kernel : am_dc 235 60 = some (.iload 9)) rfl
theorem x_235_62  : am_E d 235 Q (62, L, st, g) ↔ am_K d 235 Q (am_S 235 (.invokevirtual 375) 62 L st g) := am_E_x (by decide +kernel : am_dc 235 62 = some (.invokevirtual 375))
theorem x_235_65   : am_E d 235 Q (65, L, st, g) ↔ am_K d 235 Q (am_stI 67 L st g 10) := am_E_istore (by decide +kernel : am_dc 235 65 = some (.istore 10)) rfl
theorem x_235_67   : am_E d 235 Q (67, L, st, g) ↔ am_K d 235 Q (am_ldI 69 L st g 9) := am_E_iload (by decide +kernel : am_dc 235 67 = some (.iload 9)) rfl
theorem x_235_69   : am_E d 235 Q (69, L, st, g) ↔ am_K d 235 Q (am_stI 71 L st g 11) := am_E_istore (by decide +kernel : am_dc 235 69 = some (.istore 11)) rfl
theorem x_235_71   : am_E d 235 Q (71, L, st, g) ↔ am_K d 235 Q (am_ldI 73 L st g 8) := am_E_iload (by decide +kernel : am_dc 235 71 = some (.iload 8)) rfl
theorem x_235_73   : am_E d 235 Q (73, L, st, g) ↔ am_E d 235 Q (75, L, .int (60) :: st, g) := am_E_bipush (by decide +kernel : am_dc 235 73 = some (.bipush (60))) (by decide) rfl
theorem x_235_75   : am_E d 235 Q (75, L, .int y :: .int x :: st, g) ↔ am_E d 235 Q (am_cmp .ne x y 107 78, L, st, g) := am_E_ic (by decide +kernel : am_dc 235 75 = some (.if_icmp .ne (32))) rfl rfl
theorem x_235_78   : am_E d 235 Q (78, L, st, g) ↔ am_K d 235 Q (am_ldI 80 L st g 10) := am_E_iload (by decide +kernel : am_dc 235 78 = some (.iload 10)) rfl
theorem x_235_80   : am_E d 235 Q (80, L, .int x :: st, g) ↔ am_E d 235 Q (am_cmp .le x 0 101 83, L, st, g) := am_E_if (by decide +kernel : am_dc 235 80 = some (.ifCond .le (21))) rfl rfl
theorem x_235_83   : am_E d 235 Q (83, L, st, g) ↔ am_K d 235 Q (am_ldA 84 L st g 0) := am_E_aload_n (by decide +kernel : am_dc 235 83 = some (.aload_n 0)) rfl rfl
theorem x_235_84   : am_E d 235 Q (84, L, .ref a :: st, g) ↔ am_kv d 235 Q 87 L st g (am_gf g a 11 4) := am_E_getfield (by decide +kernel : am_dc 235 84 = some (.getfield 20)) (by decide +kernel) rfl
theorem x_235_87   : am_E d 235 Q (87, L, st, g) ↔ am_E d 235 Q (89, L, .int (6) :: st, g) := am_E_bipush (by decide +kernel : am_dc 235 87 = some (.bipush (6))) (by decide) rfl
theorem x_235_89   : am_E d 235 Q (89, L, st, g) ↔ am_K d 235 Q (am_ldI 91 L st g 7) := am_E_iload (by decide +kernel : am_dc 235 89 = some (.iload 7)) rfl
theorem x_235_91   : am_E d 235 Q (91, L, .int y :: .int x :: st, g) ↔ am_E d 235 Q (92, L, .int (x * y) :: st, g) := am_E_imul (by decide +kernel : am_dc 235 91 = some (.imul)) rfl
theorem x_235_92   : am_E d 235 Q (92, L, st, g) ↔ am_K d 235 Q (am_ldI 94 L st g 10) := am_E_iload (by decide +kernel : am_dc 235 92 = some (.iload 10)) rfl
theorem x_235_94   : am_E d 235 Q (94, L, .int y :: .int x :: st, g) ↔ am_E d 235 Q (95, L, .int (x + y) :: st, g) := am_E_iadd (by decide +kernel : am_dc 235 94 = some (.iadd)) rfl
theorem x_235_95   : am_E d 235 Q (95, L, st, g) ↔ am_E d 235 Q (96, L, .int (1) :: st, g) := am_E_iconst (by decide +kernel : am_dc 235 95 = some (.iconst (1))) (by decide) rfl
theorem x_235_96   : am_E d 235 Q (96, L, .int y :: .int x :: st, g) ↔ am_E d 235 Q (97, L, .int (x - y) :: st, g) := am_E_isub (by decide +kernel : am_dc 235 96 = some (.isub)) rfl
theorem x_235_97   : am_E d 235 Q (97, L, .int x :: .ref a :: st, g) ↔ am_kv d 235 Q 98 L st g (am_iat .iaload g a x) := am_E_iaload (by decide +kernel : am_dc 235 97 = some (.iaload)) rfl
theorem x_235_98   : am_E d 235 Q (98, L, st, g) ↔ am_E d 235 Q (102, L, st, g) := am_E_gt (by decide +kernel : am_dc 235 98 = some (.goto (4))) rfl rfl
theorem x_235_101   : am_E d 235 Q (101, L, st, g) ↔ am_E d 235 Q (102, L, .int (-1) :: st, g) := am_E_iconst (by decide +kernel : am_dc 235 101 = some (.iconst (-1))) (by decide) rfl
theorem x_235_102   : am_E d 235 Q (102, L, st, g) ↔ am_K d 235 Q (am_stI 104 L st g 11) := am_E_istore (by decide +kernel : am_dc 235 102 = some (.istore 11)) rfl
theorem x_235_104   : am_E d 235 Q (104, L, st, g) ↔ am_E d 235 Q (219, L, st, g) := am_E_gt (by decide +kernel : am_dc 235 104 = some (.goto (115))) rfl rfl
theorem x_235_107   : am_E d 235 Q (107, L, st, g) ↔ am_K d 235 Q (am_ldI 109 L st g 8) := am_E_iload (by decide +kernel : am_dc 235 107 = some (.iload 8)) rfl
theorem x_235_109   : am_E d 235 Q (109, L, st, g) ↔ am_E d 235 Q (111, L, .int (62) :: st, g) := am_E_bipush (by decide +kernel : am_dc 235 109 = some (.bipush (62))) (by decide) rfl
theorem x_235_111   : am_E d 235 Q (111, L, .int y :: .int x :: st, g) ↔ am_E d 235 Q (am_cmp .ne x y 157 114, L, st, g) := am_E_ic (by decide +kernel : am_dc 235 111 = some (.if_icmp .ne (46))) rfl rfl
theorem x_235_114   : am_E d 235 Q (114, L, st, g) ↔ am_K d 235 Q (am_ldI 116 L st g 10) := am_E_iload (by decide +kernel : am_dc 235 114 = some (.iload 10)) rfl
theorem x_235_116   : am_E d 235 Q (116, L, .int x :: st, g) ↔ am_E d 235 Q (am_cmp .lt x 0 151 119, L, st, g) := am_E_if (by decide +kernel : am_dc 235 116 = some (.ifCond .lt (35))) rfl rfl
theorem x_235_119   : am_E d 235 Q (119, L, st, g) ↔ am_K d 235 Q (am_ldI 121 L st g 10) := am_E_iload (by decide +kernel : am_dc 235 119 = some (.iload 10)) rfl
theorem x_235_121   : am_E d 235 Q (121, L, st, g) ↔ am_E d 235 Q (122, L, .int (1) :: st, g) := am_E_iconst (by decide +kernel : am_dc 235 121 = some (.iconst (1))) (by decide) rfl
theorem x_235_122   : am_E d 235 Q (122, L, .int y :: .int x :: st, g) ↔ am_E d 235 Q (123, L, .int (x + y) :: st, g) := am_E_iadd (by decide +kernel : am_dc 235 122 = some (.iadd)) rfl
theorem x_235_123   : am_E d 235 Q (123, L, st, g) ↔ am_K d 235 Q (am_ldA 124 L st g 0) := am_E_aload_n (by decide +kernel : am_dc 235 123 = some (.aload_n 0)) rfl rfl
theorem x_235_124   : am_E d 235 Q (124, L, .ref a :: st, g) ↔ am_kv d 235 Q 127 L st g (am_gf g a 11 5) := am_E_getfield (by decide +kernel : am_dc 235 124 = some (.getfield 23)) (by decide +kernel) rfl
theorem x_235_127   : am_E d 235 Q (127, L, st, g) ↔ am_K d 235 Q (am_ldI 129 L st g 7) := am_E_iload (by decide +kernel : am_dc 235 127 = some (.iload 7)) rfl
theorem x_235_129   : am_E d 235 Q (129, L, .int x :: .ref a :: st, g) ↔ am_kv d 235 Q 130 L st g (am_iat .iaload g a x) := am_E_iaload (by decide +kernel : am_dc 235 129 = some (.iaload)) rfl
theorem x_235_130   : am_E d 235 Q (130, L, .int y :: .int x :: st, g) ↔ am_E d 235 Q (am_cmp .ge x y 151 133, L, st, g) := am_E_ic (by decide +kernel : am_dc 235 130 = some (.if_icmp .ge (21))) rfl rfl
theorem x_235_133   : am_E d 235 Q (133, L, st, g) ↔ am_K d 235 Q (am_ldA 134 L st g 0) := am_E_aload_n (by decide +kernel : am_dc 235 133 = some (.aload_n 0)) rfl rfl
theorem x_235_134   : am_E d 235 Q (134, L, .ref a :: st, g) ↔ am_kv d 235 Q 137 L st g (am_gf g a 11 4) := am_E_getfield (by decide +kernel : am_dc 235 134 = some (.getfield 20)) (by decide +kernel) rfl
theorem x_235_137   : am_E d 235 Q (137, L, st, g) ↔ am_E d 235 Q (139, L, .int (6) :: st, g) := am_E_bipush (by decide +kernel : am_dc 235 137 = some (.bipush (6))) (by decide) rfl
theorem x_235_139   : am_E d 235 Q (139, L, st, g) ↔ am_K d 235 Q (am_ldI 141 L st g 7) := am_E_iload (by decide +kernel : am_dc 235 139 = some (.iload 7)) rfl
theorem x_235_141   : am_E d 235 Q (141, L, .int y :: .int x :: st, g) ↔ am_E d 235 Q (142, L, .int (x * y) :: st, g) := am_E_imul (by decide +kernel : am_dc 235 141 = some (.imul)) rfl
theorem x_235_142   : am_E d 235 Q (142, L, st, g) ↔ am_K d 235 Q (am_ldI 144 L st g 10) := am_E_iload (by decide +kernel : am_dc 235 142 = some (.iload 10)) rfl
theorem x_235_144   : am_E d 235 Q (144, L, .int y :: .int x :: st, g) ↔ am_E d 235 Q (145, L, .int (x + y) :: st, g) := am_E_iadd (by decide +kernel : am_dc 235 144 = some (.iadd)) rfl
theorem x_235_145   : am_E d 235 Q (145, L, st, g) ↔ am_E d 235 Q (146, L, .int (1) :: st, g) := am_E_iconst (by decide +kernel : am_dc 235 145 = some (.iconst (1))) (by decide) rfl
theorem x_235_146   : am_E d 235 Q (146, L, .int y :: .int x :: st, g) ↔ am_E d 235 Q (147, L, .int (x + y) :: st, g) := am_E_iadd (by decide +kernel : am_dc 235 146 = some (.iadd)) rfl
theorem x_235_147   : am_E d 235 Q (147, L, .int x :: .ref a :: st, g) ↔ am_kv d 235 Q 148 L st g (am_iat .iaload g a x) := am_E_iaload (by decide +kernel : am_dc 235 147 = some (.iaload)) rfl
theorem x_235_148   : am_E d 235 Q (148, L, st, g) ↔ am_E d 235 Q (152, L, st, g) := am_E_gt (by decide +kernel : am_dc 235 148 = some (.goto (4))) rfl rfl
theorem x_235_151   : am_E d 235 Q (151, L, st, g) ↔ am_E d 235 Q (152, L, .int (-1) :: st, g) := am_E_iconst (by decide +kernel : am_dc 235 151 = some (.iconst (-1))) (by decide) rfl
theorem x_235_152   : am_E d 235 Q (152, L, st, g) ↔ am_K d 235 Q (am_stI 154 L st g 11) := am_E_istore (by decide +kernel : am_dc 235 152 = some (.istore 11)) rfl
theorem x_235_154   : am_E d 235 Q (154, L, st, g) ↔ am_E d 235 Q (219, L, st, g) := am_E_gt (by decide +kernel : am_dc 235 154 = some (.goto (65))) rfl rfl
theorem x_235_157   : am_E d 235 Q (157, L, st, g) ↔ am_K d 235 Q (am_ldI 159 L st g 8) := am_E_iload (by decide +kernel : am_dc 235 157 = some (.iload 8)) rfl
theorem x_235_159   : am_E d 235 Q (159, L, st, g) ↔ am_E d 235 Q (161, L, .int (94) :: st, g) := am_E_bipush (by decide +kernel : am_dc 235 159 = some (.bipush (94))) (by decide) rfl
theorem x_235_161   : am_E d 235 Q (161, L, .int y :: .int x :: st, g) ↔ am_E d 235 Q (am_cmp .ne x y 182 164, L, st, g) := am_E_ic (by decide +kernel : am_dc 235 161 = some (.if_icmp .ne (21))) rfl rfl
theorem x_235_164   : am_E d 235 Q (164, L, st, g) ↔ am_K d 235 Q (am_ldA 165 L st g 0) := am_E_aload_n (by decide +kernel : am_dc 235 164 = some (.aload_n 0)) rfl rfl
theorem x_235_165   : am_E d 235 Q (165, L, .ref a :: st, g) ↔ am_kv d 235 Q 168 L st g (am_gf g a 11 2) := am_E_getfield (by decide +kernel : am_dc 235 165 = some (.getfield 13)) (by decide +kernel) rfl
theorem x_235_168   : am_E d 235 Q (168, L, st, g) ↔ am_E d 235 Q (170, L, .int (6) :: st, g) := am_E_bipush (by decide +kernel : am_dc 235 168 = some (.bipush (6))) (by decide) rfl
theorem x_235_170   : am_E d 235 Q (170, L, st, g) ↔ am_K d 235 Q (am_ldI 172 L st g 7) := am_E_iload (by decide +kernel : am_dc 235 170 = some (.iload 7)) rfl
theorem x_235_172   : am_E d 235 Q (172, L, .int y :: .int x :: st, g) ↔ am_E d 235 Q (173, L, .int (x * y) :: st, g) := am_E_imul (by decide +kernel : am_dc 235 172 = some (.imul)) rfl
theorem x_235_173   : am_E d 235 Q (173, L, st, g) ↔ am_K d 235 Q (am_ldI 175 L st g 9) := am_E_iload (by decide +kernel : am_dc 235 173 = some (.iload 9)) rfl
theorem x_235_175   : am_E d 235 Q (175, L, .int y :: .int x :: st, g) ↔ am_E d 235 Q (176, L, .int (x + y) :: st, g) := am_E_iadd (by decide +kernel : am_dc 235 175 = some (.iadd)) rfl
theorem x_235_176   : am_E d 235 Q (176, L, .int x :: .ref a :: st, g) ↔ am_kv d 235 Q 177 L st g (am_iat .iaload g a x) := am_E_iaload (by decide +kernel : am_dc 235 176 = some (.iaload)) rfl
theorem x_235_177   : am_E d 235 Q (177, L, st, g) ↔ am_K d 235 Q (am_stI 179 L st g 11) := am_E_istore (by decide +kernel : am_dc 235 177 = some (.istore 11)) rfl
theorem x_235_179   : am_E d 235 Q (179, L, st, g) ↔ am_E d 235 Q (219, L, st, g) := am_E_gt (by decide +kernel : am_dc 235 179 = some (.goto (40))) rfl rfl
theorem x_235_182   : am_E d 235 Q (182, L, st, g) ↔ am_K d 235 Q (am_ldI 184 L st g 8) := am_E_iload (by decide +kernel : am_dc 235 182 = some (.iload 8)) rfl
theorem x_235_184   : am_E d 235 Q (184, L, st, g) ↔ am_E d 235 Q (186, L, .int (36) :: st, g) := am_E_bipush (by decide +kernel : am_dc 235 184 = some (.bipush (36))) (by decide) rfl
theorem x_235_186   : am_E d 235 Q (186, L, .int y :: .int x :: st, g) ↔ am_E d 235 Q (am_cmp .eq x y 219 189, L, st, g) := am_E_ic (by decide +kernel : am_dc 235 186 = some (.if_icmp .eq (33))) rfl rfl
theorem x_235_189   : am_E d 235 Q (189, L, st, g) ↔ am_K d 235 Q (am_ldA 190 L st g 0) := am_E_aload_n (by decide +kernel : am_dc 235 189 = some (.aload_n 0)) rfl rfl
theorem x_235_190   : am_E d 235 Q (190, L, .ref a :: st, g) ↔ am_kv d 235 Q 193 L st g (am_gf g a 11 1) := am_E_getfield (by decide +kernel : am_dc 235 190 = some (.getfield 7)) (by decide +kernel) rfl
theorem x_235_193   : am_E d 235 Q (193, L, st, g) ↔ am_E d 235 Q (195, L, .int (6) :: st, g) := am_E_bipush (by decide +kernel : am_dc 235 193 = some (.bipush (6))) (by decide) rfl
theorem x_235_195   : am_E d 235 Q (195, L, st, g) ↔ am_K d 235 Q (am_ldI 197 L st g 7) := am_E_iload (by decide +kernel : am_dc 235 195 = some (.iload 7)) rfl
theorem x_235_197   : am_E d 235 Q (197, L, .int y :: .int x :: st, g) ↔ am_E d 235 Q (198, L, .int (x * y) :: st, g) := am_E_imul (by decide +kernel : am_dc 235 197 = some (.imul)) rfl
theorem x_235_198   : am_E d 235 Q (198, L, st, g) ↔ am_K d 235 Q (am_ldI 200 L st g 8) := am_E_iload (by decide +kernel : am_dc 235 198 = some (.iload 8)) rfl
theorem x_235_200   : am_E d 235 Q (200, L, .int y :: .int x :: st, g) ↔ am_E d 235 Q (201, L, .int (x + y) :: st, g) := am_E_iadd (by decide +kernel : am_dc 235 200 = some (.iadd)) rfl
theorem x_235_201   : am_E d 235 Q (201, L, st, g) ↔ am_E d 235 Q (203, L, .int (48) :: st, g) := am_E_bipush (by decide +kernel : am_dc 235 201 = some (.bipush (48))) (by decide) rfl
theorem x_235_203   : am_E d 235 Q (203, L, .int y :: .int x :: st, g) ↔ am_E d 235 Q (204, L, .int (x - y) :: st, g) := am_E_isub (by decide +kernel : am_dc 235 203 = some (.isub)) rfl
theorem x_235_204   : am_E d 235 Q (204, L, .int x :: .ref a :: st, g) ↔ am_kv d 235 Q 205 L st g (am_iat .baload g a x) := am_E_baload (by decide +kernel : am_dc 235 204 = some (.baload)) rfl
theorem x_235_205   : am_E d 235 Q (205, L, .int x :: st, g) ↔ am_E d 235 Q (am_cmp .eq x 0 216 208, L, st, g) := am_E_if (by decide +kernel : am_dc 235 205 = some (.ifCond .eq (11))) rfl rfl
theorem x_235_208   : am_E d 235 Q (208, L, st, g) ↔ am_K d 235 Q (am_ldI 210 L st g 8) := am_E_iload (by decide +kernel : am_dc 235 208 = some (.iload 8)) rfl
theorem x_235_210   : am_E d 235 Q (210, L, st, g) ↔ am_E d 235 Q (212, L, .int (48) :: st, g) := am_E_bipush (by decide +kernel : am_dc 235 210 = some (.bipush (48))) (by decide) rfl
theorem x_235_212   : am_E d 235 Q (212, L, .int y :: .int x :: st, g) ↔ am_E d 235 Q (213, L, .int (x - y) :: st, g) := am_E_isub (by decide +kernel : am_dc 235 212 = some (.isub)) rfl
theorem x_235_213   : am_E d 235 Q (213, L, st, g) ↔ am_E d 235 Q (217, L, st, g) := am_E_gt (by decide +kernel : am_dc 235 213 = some (.goto (4))) rfl rfl
theorem x_235_216   : am_E d 235 Q (216, L, st, g) ↔ am_E d 235 Q (217, L, .int (-1) :: st, g) := am_E_iconst (by decide +kernel : am_dc 235 216 = some (.iconst (-1))) (by decide) rfl
theorem x_235_217   : am_E d 235 Q (217, L, st, g) ↔ am_K d 235 Q (am_stI 219 L st g 11) := am_E_istore (by decide +kernel : am_dc 235 217 = some (.istore 11)) rfl
theorem x_235_219   : am_E d 235 Q (219, L, st, g) ↔ am_K d 235 Q (am_ldI 221 L st g 11) := am_E_iload (by decide +kernel : am_dc 235 219 = some (.iload 11)) rfl
theorem x_235_221   : am_E d 235 Q (221, L, .int x :: st, g) ↔ am_E d 235 Q (am_cmp .ge x 0 228 224, L, st, g) := am_E_if (by decide +kernel : am_dc 235 221 = some (.ifCond .ge (7))) rfl rfl
theorem x_235_224   : am_E d 235 Q (224, L, st, g) ↔ am_E d 235 Q (225, L, .int (-1) :: st, g) := am_E_iconst (by decide +kernel : am_dc 235 224 = some (.iconst (-1))) (by decide) rfl
theorem x_235_225   : am_E d 235 Q (225, L, st, g) ↔ am_E d 235 Q (238, L, st, g) := am_E_gt (by decide +kernel : am_dc 235 225 = some (.goto (13))) rfl rfl
theorem x_235_228   : am_E d 235 Q (228, L, st, g) ↔ am_K d 235 Q (am_ldA 229 L st g 0) := am_E_aload_n (by decide +kernel : am_dc 235 228 = some (.aload_n 0)) rfl rfl
theorem x_235_229   : am_E d 235 Q (229, L, st, g) ↔ am_K d 235 Q (am_ldI 231 L st g 5) := am_E_iload (by decide +kernel : am_dc 235 229 = some (.iload 5)) rfl
theorem x_235_231   : am_E d 235 Q (231, L, st, g) ↔ am_K d 235 Q (am_ldI 233 L st g 7) := am_E_iload (by decide +kernel : am_dc 235 231 = some (.iload 7)) rfl
theorem x_235_233   : am_E d 235 Q (233, L, st, g) ↔ am_K d 235 Q (am_ldI 235 L st g 11) := am_E_iload (by decide +kernel : am_dc 235 233 = some (.iload 11)) rfl
theorem x_235_235  : am_E d 235 Q (235, L, st, g) ↔ am_K d 235 Q (am_S 235 (.invokevirtual 362) 235 L st g) := am_E_x (by decide +kernel : am_dc 235 235 = some (.invokevirtual 362))
theorem x_235_238   : am_E d 235 Q (238, L, st, g) ↔ am_K d 235 Q (am_stI 240 L st g 5) := am_E_istore (by decide +kernel : am_dc 235 238 = some (.istore 5)) rfl
theorem x_235_240   (hk : L.getD 6 none = some (.int x)) (hl : 6 < L.length) : am_E d 235 Q (240, L, st, g) ↔ am_E d 235 Q (243, am_s1 L 6 (.int (x + (1))), st, g) := am_E_iinc (by decide +kernel : am_dc 235 240 = some (.iinc 6 (1))) (by decide) rfl hk hl
theorem x_235_243   : am_E d 235 Q (243, L, st, g) ↔ am_E d 235 Q (12, L, st, g) := am_E_gt (by decide +kernel : am_dc 235 243 = some (.goto (-231))) rfl rfl
theorem x_235_246   : am_E d 235 Q (246, L, st, g) ↔ am_K d 235 Q (am_ldI 248 L st g 5) := am_E_iload (by decide +kernel : am_dc 235 246 = some (.iload 5)) rfl
theorem x_235_248  : am_E d 235 Q (248, L, [.int x], g) ↔ if am_ok (FieldType.int) (.int x) = true then Q (.inl (some (.int x))) g else False := am_E_ireturn (by decide +kernel : am_dc 235 248 = some (.ireturn)) (by decide +kernel)
theorem f_235_63 : am_fl 235 63 = some (11, 19) := by decide +kernel
theorem f_235_66 : am_fl 235 66 = some (11, 20) := by decide +kernel
theorem v_235_217 : am_iv 235 217 = some (0, 213, 2) := by decide +kernel
theorem v_235_375 : am_iv 235 375 = some (1, 201, 3) := by decide +kernel
theorem f_235_20 : am_fl 235 20 = some (11, 4) := by decide +kernel
theorem f_235_23 : am_fl 235 23 = some (11, 5) := by decide +kernel
theorem f_235_13 : am_fl 235 13 = some (11, 2) := by decide +kernel
theorem f_235_7 : am_fl 235 7 = some (11, 1) := by decide +kernel
theorem v_235_362 : am_iv 235 362 = some (1, 207, 4) := by decide +kernel
theorem t_235 : am_t 235 = some (FieldType.int) := by decide +kernel
theorem h_235 : am_h 235 = [] := by decide +kernel
theorem m_235 : am_m 235 = 12 := by decide +kernel
theorem x_236_0   : am_E d 236 Q (0, L, st, g) ↔ am_K d 236 Q (am_ldA 1 L st g 0) := am_E_aload_n (by decide +kernel : am_dc 236 0 = some (.aload_n 0)) rfl rfl
theorem x_236_1   : am_E d 236 Q (1, L, .ref a :: st, g) ↔ am_kv d 236 Q 4 L st g (am_gf g a 11 0) := am_E_getfield (by decide +kernel : am_dc 236 1 = some (.getfield 168)) (by decide +kernel) rfl
theorem x_236_4  : am_E d 236 Q (4, L, [.int x], g) ↔ if am_ok (FieldType.int) (.int x) = true then Q (.inl (some (.int x))) g else False := am_E_ireturn (by decide +kernel : am_dc 236 4 = some (.ireturn)) (by decide +kernel)
theorem f_236_168 : am_fl 236 168 = some (11, 0) := by decide +kernel
theorem t_236 : am_t 236 = some (FieldType.int) := by decide +kernel
theorem h_236 : am_h 236 = [] := by decide +kernel
theorem m_236 : am_m 236 = 1 := by decide +kernel
theorem x_237_0   : am_E d 237 Q (0, L, st, g) ↔ am_K d 237 Q (am_ldA 1 L st g 0) := am_E_aload_n (by decide +kernel : am_dc 237 0 = some (.aload_n 0)) rfl rfl
theorem x_237_1   : am_E d 237 Q (1, L, st, g) ↔ am_E d 237 Q (2, L, .int (0) :: st, g) := am_E_iconst (by decide +kernel : am_dc 237 1 = some (.iconst (0))) (by decide) rfl
theorem x_237_2   (hok : (am_ok (am_ft 11 0).1 v && (!(am_ft 11 0).2 || (am_ini 237 && am_co 11 == am_o 237)) && decide (11 < 13)) = true) : am_E d 237 Q (2, L, v :: .ref a :: st, g) ↔ am_kg d 237 Q 5 L st (am_pf g a 11 0 v) := am_E_putfield (by decide +kernel : am_dc 237 2 = some (.putfield 168)) (by decide +kernel) rfl hok
theorem x_237_5   : am_E d 237 Q (5, L, st, g) ↔ am_K d 237 Q (am_ldI 6 L st g 1) := am_E_iload_n (by decide +kernel : am_dc 237 5 = some (.iload_n 1)) rfl rfl
theorem x_237_6  : am_E d 237 Q (6, L, st, g) ↔ am_K d 237 Q (am_S 237 (.invokestatic 220) 6 L st g) := am_E_x (by decide +kernel : am_dc 237 6 = some (.invokestatic 220))
theorem x_237_9   : am_E d 237 Q (9, L, .int x :: st, g) ↔ am_E d 237 Q (am_cmp .ne x 0 74 12, L, st, g) := am_E_if (by decide +kernel : am_dc 237 9 = some (.ifCond .ne (65))) rfl rfl
theorem x_237_12   : am_E d 237 Q (12, L, st, g) ↔ am_K d 237 Q (am_ldI 13 L st g 1) := am_E_iload_n (by decide +kernel : am_dc 237 12 = some (.iload_n 1)) rfl rfl
theorem x_237_13  : am_E d 237 Q (13, L, st, g) ↔ am_K d 237 Q (am_S 237 (.invokestatic 224) 13 L st g) := am_E_x (by decide +kernel : am_dc 237 13 = some (.invokestatic 224))
theorem x_237_16   : am_E d 237 Q (16, L, .int x :: st, g) ↔ am_E d 237 Q (am_cmp .ne x 0 74 19, L, st, g) := am_E_if (by decide +kernel : am_dc 237 16 = some (.ifCond .ne (58))) rfl rfl
theorem x_237_19   : am_E d 237 Q (19, L, st, g) ↔ am_K d 237 Q (am_ldI 20 L st g 1) := am_E_iload_n (by decide +kernel : am_dc 237 19 = some (.iload_n 1)) rfl rfl
theorem x_237_20  : am_E d 237 Q (20, L, st, g) ↔ am_K d 237 Q (am_S 237 (.invokestatic 227) 20 L st g) := am_E_x (by decide +kernel : am_dc 237 20 = some (.invokestatic 227))
theorem x_237_23   : am_E d 237 Q (23, L, .int x :: st, g) ↔ am_E d 237 Q (am_cmp .ne x 0 74 26, L, st, g) := am_E_if (by decide +kernel : am_dc 237 23 = some (.ifCond .ne (51))) rfl rfl
theorem x_237_26   : am_E d 237 Q (26, L, st, g) ↔ am_K d 237 Q (am_ldI 27 L st g 1) := am_E_iload_n (by decide +kernel : am_dc 237 26 = some (.iload_n 1)) rfl rfl
theorem x_237_27   : am_E d 237 Q (27, L, st, g) ↔ am_E d 237 Q (29, L, .int (63) :: st, g) := am_E_bipush (by decide +kernel : am_dc 237 27 = some (.bipush (63))) (by decide) rfl
theorem x_237_29   : am_E d 237 Q (29, L, .int y :: .int x :: st, g) ↔ am_E d 237 Q (am_cmp .eq x y 74 32, L, st, g) := am_E_ic (by decide +kernel : am_dc 237 29 = some (.if_icmp .eq (45))) rfl rfl
theorem x_237_32   : am_E d 237 Q (32, L, st, g) ↔ am_K d 237 Q (am_ldI 33 L st g 1) := am_E_iload_n (by decide +kernel : am_dc 237 32 = some (.iload_n 1)) rfl rfl
theorem x_237_33   : am_E d 237 Q (33, L, st, g) ↔ am_E d 237 Q (35, L, .int (58) :: st, g) := am_E_bipush (by decide +kernel : am_dc 237 33 = some (.bipush (58))) (by decide) rfl
theorem x_237_35   : am_E d 237 Q (35, L, .int y :: .int x :: st, g) ↔ am_E d 237 Q (am_cmp .eq x y 74 38, L, st, g) := am_E_ic (by decide +kernel : am_dc 237 35 = some (.if_icmp .eq (39))) rfl rfl
theorem x_237_38   : am_E d 237 Q (38, L, st, g) ↔ am_K d 237 Q (am_ldI 39 L st g 1) := am_E_iload_n (by decide +kernel : am_dc 237 38 = some (.iload_n 1)) rfl rfl
theorem x_237_39   : am_E d 237 Q (39, L, st, g) ↔ am_E d 237 Q (41, L, .int (40) :: st, g) := am_E_bipush (by decide +kernel : am_dc 237 39 = some (.bipush (40))) (by decide) rfl
theorem x_237_41   : am_E d 237 Q (41, L, .int y :: .int x :: st, g) ↔ am_E d 237 Q (am_cmp .eq x y 74 44, L, st, g) := am_E_ic (by decide +kernel : am_dc 237 41 = some (.if_icmp .eq (33))) rfl rfl
theorem x_237_44   : am_E d 237 Q (44, L, st, g) ↔ am_K d 237 Q (am_ldI 45 L st g 1) := am_E_iload_n (by decide +kernel : am_dc 237 44 = some (.iload_n 1)) rfl rfl
theorem x_237_45   : am_E d 237 Q (45, L, st, g) ↔ am_E d 237 Q (47, L, .int (41) :: st, g) := am_E_bipush (by decide +kernel : am_dc 237 45 = some (.bipush (41))) (by decide) rfl
theorem x_237_47   : am_E d 237 Q (47, L, .int y :: .int x :: st, g) ↔ am_E d 237 Q (am_cmp .eq x y 74 50, L, st, g) := am_E_ic (by decide +kernel : am_dc 237 47 = some (.if_icmp .eq (27))) rfl rfl
theorem x_237_50   : am_E d 237 Q (50, L, st, g) ↔ am_K d 237 Q (am_ldI 51 L st g 1) := am_E_iload_n (by decide +kernel : am_dc 237 50 = some (.iload_n 1)) rfl rfl
theorem x_237_51   : am_E d 237 Q (51, L, st, g) ↔ am_E d 237 Q (53, L, .int (60) :: st, g) := am_E_bipush (by decide +kernel : am_dc 237 51 = some (.bipush (60))) (by decide) rfl
theorem x_237_53   : am_E d 237 Q (53, L, .int y :: .int x :: st, g) ↔ am_E d 237 Q (am_cmp .eq x y 74 56, L, st, g) := am_E_ic (by decide +kernel : am_dc 237 53 = some (.if_icmp .eq (21))) rfl rfl
theorem x_237_56   : am_E d 237 Q (56, L, st, g) ↔ am_K d 237 Q (am_ldI 57 L st g 1) := am_E_iload_n (by decide +kernel : am_dc 237 56 = some (.iload_n 1)) rfl rfl
theorem x_237_57   : am_E d 237 Q (57, L, st, g) ↔ am_E d 237 Q (59, L, .int (62) :: st, g) := am_E_bipush (by decide +kernel : am_dc 237 57 = some (.bipush (62))) (by decide) rfl
theorem x_237_59   : am_E d 237 Q (59, L, .int y :: .int x :: st, g) ↔ am_E d 237 Q (am_cmp .eq x y 74 62, L, st, g) := am_E_ic (by decide +kernel : am_dc 237 59 = some (.if_icmp .eq (15))) rfl rfl
theorem x_237_62   : am_E d 237 Q (62, L, st, g) ↔ am_K d 237 Q (am_ldI 63 L st g 1) := am_E_iload_n (by decide +kernel : am_dc 237 62 = some (.iload_n 1)) rfl rfl
theorem x_237_63   : am_E d 237 Q (63, L, st, g) ↔ am_E d 237 Q (65, L, .int (94) :: st, g) := am_E_bipush (by decide +kernel : am_dc 237 63 = some (.bipush (94))) (by decide) rfl
theorem x_237_65   : am_E d 237 Q (65, L, .int y :: .int x :: st, g) ↔ am_E d 237 Q (am_cmp .eq x y 74 68, L, st, g) := am_E_ic (by decide +kernel : am_dc 237 65 = some (.if_icmp .eq (9))) rfl rfl
theorem x_237_68   : am_E d 237 Q (68, L, st, g) ↔ am_K d 237 Q (am_ldI 69 L st g 1) := am_E_iload_n (by decide +kernel : am_dc 237 68 = some (.iload_n 1)) rfl rfl
theorem x_237_69   : am_E d 237 Q (69, L, st, g) ↔ am_E d 237 Q (71, L, .int (36) :: st, g) := am_E_bipush (by decide +kernel : am_dc 237 69 = some (.bipush (36))) (by decide) rfl
theorem x_237_71   : am_E d 237 Q (71, L, .int y :: .int x :: st, g) ↔ am_E d 237 Q (am_cmp .ne x y 78 74, L, st, g) := am_E_ic (by decide +kernel : am_dc 237 71 = some (.if_icmp .ne (7))) rfl rfl
theorem x_237_74   : am_E d 237 Q (74, L, st, g) ↔ am_E d 237 Q (75, L, .int (1) :: st, g) := am_E_iconst (by decide +kernel : am_dc 237 74 = some (.iconst (1))) (by decide) rfl
theorem x_237_75   : am_E d 237 Q (75, L, st, g) ↔ am_E d 237 Q (79, L, st, g) := am_E_gt (by decide +kernel : am_dc 237 75 = some (.goto (4))) rfl rfl
theorem x_237_78   : am_E d 237 Q (78, L, st, g) ↔ am_E d 237 Q (79, L, .int (0) :: st, g) := am_E_iconst (by decide +kernel : am_dc 237 78 = some (.iconst (0))) (by decide) rfl
theorem x_237_79   : am_E d 237 Q (79, L, st, g) ↔ am_K d 237 Q (am_stI 80 L st g 2) := am_E_istore_n (by decide +kernel : am_dc 237 79 = some (.istore_n 2)) rfl rfl
theorem x_237_80   : am_E d 237 Q (80, L, st, g) ↔ am_K d 237 Q (am_ldI 81 L st g 2) := am_E_iload_n (by decide +kernel : am_dc 237 80 = some (.iload_n 2)) rfl rfl
theorem x_237_81   : am_E d 237 Q (81, L, .int x :: st, g) ↔ am_E d 237 Q (am_cmp .eq x 0 93 84, L, st, g) := am_E_if (by decide +kernel : am_dc 237 81 = some (.ifCond .eq (12))) rfl rfl
theorem x_237_84   : am_E d 237 Q (84, L, st, g) ↔ am_K d 237 Q (am_ldA 85 L st g 0) := am_E_aload_n (by decide +kernel : am_dc 237 84 = some (.aload_n 0)) rfl rfl
theorem x_237_85   : am_E d 237 Q (85, L, .ref a :: st, g) ↔ am_kv d 237 Q 88 L st g (am_gf g a 11 23) := am_E_getfield (by decide +kernel : am_dc 237 85 = some (.getfield 230)) (by decide +kernel) rfl
theorem x_237_88   : am_E d 237 Q (88, L, st, g) ↔ am_E d 237 Q (90, L, .int (24) :: st, g) := am_E_bipush (by decide +kernel : am_dc 237 88 = some (.bipush (24))) (by decide) rfl
theorem x_237_90   : am_E d 237 Q (90, L, .int y :: .int x :: st, g) ↔ am_E d 237 Q (am_cmp .ne x y 95 93, L, st, g) := am_E_ic (by decide +kernel : am_dc 237 90 = some (.if_icmp .ne (5))) rfl rfl
theorem x_237_93   : am_E d 237 Q (93, L, st, g) ↔ am_E d 237 Q (94, L, .int (0) :: st, g) := am_E_iconst (by decide +kernel : am_dc 237 93 = some (.iconst (0))) (by decide) rfl
theorem x_237_94  : am_E d 237 Q (94, L, [.int x], g) ↔ if am_ok (FieldType.boolean) (.int x) = true then Q (.inl (some (.int x))) g else False := am_E_ireturn (by decide +kernel : am_dc 237 94 = some (.ireturn)) (by decide +kernel)
theorem x_237_95   : am_E d 237 Q (95, L, st, g) ↔ am_K d 237 Q (am_ldA 96 L st g 0) := am_E_aload_n (by decide +kernel : am_dc 237 95 = some (.aload_n 0)) rfl rfl
theorem x_237_96   : am_E d 237 Q (96, L, .ref a :: st, g) ↔ am_kv d 237 Q 99 L st g (am_gf g a 11 24) := am_E_getfield (by decide +kernel : am_dc 237 96 = some (.getfield 75)) (by decide +kernel) rfl
theorem x_237_99   : am_E d 237 Q (99, L, st, g) ↔ am_K d 237 Q (am_ldA 100 L st g 0) := am_E_aload_n (by decide +kernel : am_dc 237 99 = some (.aload_n 0)) rfl rfl
theorem x_237_100   : am_E d 237 Q (100, L, .ref a :: st, g) ↔ am_kv d 237 Q 103 L st g (am_gf g a 11 23) := am_E_getfield (by decide +kernel : am_dc 237 100 = some (.getfield 230)) (by decide +kernel) rfl
theorem x_237_103   : am_E d 237 Q (103, L, st, g) ↔ am_K d 237 Q (am_ldI 104 L st g 1) := am_E_iload_n (by decide +kernel : am_dc 237 103 = some (.iload_n 1)) rfl rfl
theorem x_237_104   : am_E d 237 Q (104, L, v :: .int x :: .ref a :: st, g) ↔ am_kg d 237 Q 105 L st (am_sat .castore g a x v) := am_E_castore (by decide +kernel : am_dc 237 104 = some (.castore)) rfl
theorem x_237_105   : am_E d 237 Q (105, L, st, g) ↔ am_K d 237 Q (am_ldA 106 L st g 0) := am_E_aload_n (by decide +kernel : am_dc 237 105 = some (.aload_n 0)) rfl rfl
theorem x_237_106   : am_E d 237 Q (106, L, v :: st, g) ↔ if v.category = 1 then am_E d 237 Q (107, L, v :: v :: st, g) else False := am_E_dup (by decide +kernel : am_dc 237 106 = some (.dup)) rfl
theorem x_237_107   : am_E d 237 Q (107, L, .ref a :: st, g) ↔ am_kv d 237 Q 110 L st g (am_gf g a 11 23) := am_E_getfield (by decide +kernel : am_dc 237 107 = some (.getfield 230)) (by decide +kernel) rfl
theorem x_237_110   : am_E d 237 Q (110, L, st, g) ↔ am_E d 237 Q (111, L, .int (1) :: st, g) := am_E_iconst (by decide +kernel : am_dc 237 110 = some (.iconst (1))) (by decide) rfl
theorem x_237_111   : am_E d 237 Q (111, L, .int y :: .int x :: st, g) ↔ am_E d 237 Q (112, L, .int (x + y) :: st, g) := am_E_iadd (by decide +kernel : am_dc 237 111 = some (.iadd)) rfl
theorem x_237_112   (hok : (am_ok (am_ft 11 23).1 v && (!(am_ft 11 23).2 || (am_ini 237 && am_co 11 == am_o 237)) && decide (11 < 13)) = true) : am_E d 237 Q (112, L, v :: .ref a :: st, g) ↔ am_kg d 237 Q 115 L st (am_pf g a 11 23 v) := am_E_putfield (by decide +kernel : am_dc 237 112 = some (.putfield 230)) (by decide +kernel) rfl hok
theorem x_237_115   : am_E d 237 Q (115, L, st, g) ↔ am_E d 237 Q (116, L, .int (1) :: st, g) := am_E_iconst (by decide +kernel : am_dc 237 115 = some (.iconst (1))) (by decide) rfl
theorem x_237_116  : am_E d 237 Q (116, L, [.int x], g) ↔ if am_ok (FieldType.boolean) (.int x) = true then Q (.inl (some (.int x))) g else False := am_E_ireturn (by decide +kernel : am_dc 237 116 = some (.ireturn)) (by decide +kernel)
theorem f_237_168 : am_fl 237 168 = some (11, 0) := by decide +kernel
theorem v_237_220 : am_iv 237 220 = some (0, 191, 1) := by decide +kernel
theorem v_237_224 : am_iv 237 224 = some (0, 198, 1) := by decide +kernel
theorem v_237_227 : am_iv 237 227 = some (0, 195, 1) := by decide +kernel
theorem f_237_230 : am_fl 237 230 = some (11, 23) := by decide +kernel
theorem f_237_75 : am_fl 237 75 = some (11, 24) := by decide +kernel
theorem t_237 : am_t 237 = some (FieldType.boolean) := by decide +kernel
theorem h_237 : am_h 237 = [] := by decide +kernel
theorem m_237 : am_m 237 = 3 := by decide +kernel
theorem x_238_0   : am_E d 238 Q (0, L, st, g) ↔ am_K d 238 Q (am_ldI 1 L st g 2) := am_E_iload_n (by decide +kernel : am_dc 238 0 = some (.iload_n 2)) rfl rfl
theorem x_238_1   : am_E d 238 Q (1, L, st, g) ↔ am_K d 238 Q (am_stI 3 L st g 4) := am_E_istore (by decide +kernel : am_dc 238 1 = some (.istore 4)) rfl
theorem x_238_3   : am_E d 238 Q (3, L, st, g) ↔ am_E d 238 Q (4, L, .int (0) :: st, g) := am_E_iconst (by decide +kernel : am_dc 238 3 = some (.iconst (0))) (by decide) rfl
theorem x_238_4   : am_E d 238 Q (4, L, st, g) ↔ am_K d 238 Q (am_stI 6 L st g 5) := am_E_istore (by decide +kernel : am_dc 238 4 = some (.istore 5)) rfl
theorem x_238_6   : am_E d 238 Q (6, L, st, g) ↔ am_K d 238 Q (am_ldI 8 L st g 5) := am_E_iload (by decide +kernel : am_dc 238 6 = some (.iload 5)) rfl
theorem x_238_8   : am_E d 238 Q (8, L, st, g) ↔ am_E d 238 Q (10, L, .int (6) :: st, g) := am_E_bipush (by decide +kernel : am_dc 238 8 = some (.bipush (6))) (by decide) rfl
theorem x_238_10   : am_E d 238 Q (10, L, .int y :: .int x :: st, g) ↔ am_E d 238 Q (am_cmp .ge x y 44 13, L, st, g) := am_E_ic (by decide +kernel : am_dc 238 10 = some (.if_icmp .ge (34))) rfl rfl
theorem x_238_13   : am_E d 238 Q (13, L, st, g) ↔ am_K d 238 Q (am_ldI 15 L st g 4) := am_E_iload (by decide +kernel : am_dc 238 13 = some (.iload 4)) rfl
theorem x_238_15   : am_E d 238 Q (15, L, .int x :: st, g) ↔ am_E d 238 Q (am_cmp .lt x 0 44 18, L, st, g) := am_E_if (by decide +kernel : am_dc 238 15 = some (.ifCond .lt (29))) rfl rfl
theorem x_238_18   : am_E d 238 Q (18, L, st, g) ↔ am_K d 238 Q (am_ldI 20 L st g 4) := am_E_iload (by decide +kernel : am_dc 238 18 = some (.iload 4)) rfl
theorem x_238_20   : am_E d 238 Q (20, L, st, g) ↔ am_K d 238 Q (am_ldI 21 L st g 3) := am_E_iload_n (by decide +kernel : am_dc 238 20 = some (.iload_n 3)) rfl rfl
theorem x_238_21   : am_E d 238 Q (21, L, .int y :: .int x :: st, g) ↔ am_E d 238 Q (am_cmp .eq x y 44 24, L, st, g) := am_E_ic (by decide +kernel : am_dc 238 21 = some (.if_icmp .eq (23))) rfl rfl
theorem x_238_24   : am_E d 238 Q (24, L, st, g) ↔ am_K d 238 Q (am_ldA 25 L st g 0) := am_E_aload_n (by decide +kernel : am_dc 238 24 = some (.aload_n 0)) rfl rfl
theorem x_238_25   : am_E d 238 Q (25, L, .ref a :: st, g) ↔ am_kv d 238 Q 28 L st g (am_gf g a 11 2) := am_E_getfield (by decide +kernel : am_dc 238 25 = some (.getfield 13)) (by decide +kernel) rfl
theorem x_238_28   : am_E d 238 Q (28, L, st, g) ↔ am_E d 238 Q (30, L, .int (6) :: st, g) := am_E_bipush (by decide +kernel : am_dc 238 28 = some (.bipush (6))) (by decide) rfl
theorem x_238_30   : am_E d 238 Q (30, L, st, g) ↔ am_K d 238 Q (am_ldI 31 L st g 1) := am_E_iload_n (by decide +kernel : am_dc 238 30 = some (.iload_n 1)) rfl rfl
theorem x_238_31   : am_E d 238 Q (31, L, .int y :: .int x :: st, g) ↔ am_E d 238 Q (32, L, .int (x * y) :: st, g) := am_E_imul (by decide +kernel : am_dc 238 31 = some (.imul)) rfl
theorem x_238_32   : am_E d 238 Q (32, L, st, g) ↔ am_K d 238 Q (am_ldI 34 L st g 4) := am_E_iload (by decide +kernel : am_dc 238 32 = some (.iload 4)) rfl
theorem x_238_34   : am_E d 238 Q (34, L, .int y :: .int x :: st, g) ↔ am_E d 238 Q (35, L, .int (x + y) :: st, g) := am_E_iadd (by decide +kernel : am_dc 238 34 = some (.iadd)) rfl
theorem x_238_35   : am_E d 238 Q (35, L, .int x :: .ref a :: st, g) ↔ am_kv d 238 Q 36 L st g (am_iat .iaload g a x) := am_E_iaload (by decide +kernel : am_dc 238 35 = some (.iaload)) rfl
theorem x_238_36   : am_E d 238 Q (36, L, st, g) ↔ am_K d 238 Q (am_stI 38 L st g 4) := am_E_istore (by decide +kernel : am_dc 238 36 = some (.istore 4)) rfl
theorem x_238_38   (hk : L.getD 5 none = some (.int x)) (hl : 5 < L.length) : am_E d 238 Q (38, L, st, g) ↔ am_E d 238 Q (41, am_s1 L 5 (.int (x + (1))), st, g) := am_E_iinc (by decide +kernel : am_dc 238 38 = some (.iinc 5 (1))) (by decide) rfl hk hl
theorem x_238_41   : am_E d 238 Q (41, L, st, g) ↔ am_E d 238 Q (6, L, st, g) := am_E_gt (by decide +kernel : am_dc 238 41 = some (.goto (-35))) rfl rfl
theorem x_238_44   : am_E d 238 Q (44, L, st, g) ↔ am_K d 238 Q (am_ldI 46 L st g 4) := am_E_iload (by decide +kernel : am_dc 238 44 = some (.iload 4)) rfl
theorem x_238_46   : am_E d 238 Q (46, L, st, g) ↔ am_K d 238 Q (am_ldI 47 L st g 3) := am_E_iload_n (by decide +kernel : am_dc 238 46 = some (.iload_n 3)) rfl rfl
theorem x_238_47   : am_E d 238 Q (47, L, .int y :: .int x :: st, g) ↔ am_E d 238 Q (am_cmp .ne x y 54 50, L, st, g) := am_E_ic (by decide +kernel : am_dc 238 47 = some (.if_icmp .ne (7))) rfl rfl
theorem x_238_50   : am_E d 238 Q (50, L, st, g) ↔ am_E d 238 Q (51, L, .int (1) :: st, g) := am_E_iconst (by decide +kernel : am_dc 238 50 = some (.iconst (1))) (by decide) rfl
theorem x_238_51   : am_E d 238 Q (51, L, st, g) ↔ am_E d 238 Q (55, L, st, g) := am_E_gt (by decide +kernel : am_dc 238 51 = some (.goto (4))) rfl rfl
theorem x_238_54   : am_E d 238 Q (54, L, st, g) ↔ am_E d 238 Q (55, L, .int (0) :: st, g) := am_E_iconst (by decide +kernel : am_dc 238 54 = some (.iconst (0))) (by decide) rfl
theorem x_238_55  : am_E d 238 Q (55, L, [.int x], g) ↔ if am_ok (FieldType.boolean) (.int x) = true then Q (.inl (some (.int x))) g else False := am_E_ireturn (by decide +kernel : am_dc 238 55 = some (.ireturn)) (by decide +kernel)
theorem f_238_13 : am_fl 238 13 = some (11, 2) := by decide +kernel
theorem t_238 : am_t 238 = some (FieldType.boolean) := by decide +kernel
theorem h_238 : am_h 238 = [] := by decide +kernel
theorem m_238 : am_m 238 = 6 := by decide +kernel
theorem x_239_0   : am_E d 239 Q (0, L, st, g) ↔ am_K d 239 Q (am_ldA 1 L st g 0) := am_E_aload_n (by decide +kernel : am_dc 239 0 = some (.aload_n 0)) rfl rfl
theorem x_239_1   : am_E d 239 Q (1, L, st, g) ↔ am_K d 239 Q (am_ldA 2 L st g 0) := am_E_aload_n (by decide +kernel : am_dc 239 1 = some (.aload_n 0)) rfl rfl
theorem x_239_2   : am_E d 239 Q (2, L, .ref a :: st, g) ↔ am_kv d 239 Q 5 L st g (am_gf g a 11 38) := am_E_getfield (by decide +kernel : am_dc 239 2 = some (.getfield 186)) (by decide +kernel) rfl
theorem x_239_5   : am_E d 239 Q (5, L, .int x :: st, g) ↔ am_E d 239 Q (am_cmp .le x 0 12 8, L, st, g) := am_E_if (by decide +kernel : am_dc 239 5 = some (.ifCond .le (7))) rfl rfl
theorem x_239_8   : am_E d 239 Q (8, L, st, g) ↔ am_E d 239 Q (9, L, .int (1) :: st, g) := am_E_iconst (by decide +kernel : am_dc 239 8 = some (.iconst (1))) (by decide) rfl
theorem x_239_9   : am_E d 239 Q (9, L, st, g) ↔ am_E d 239 Q (13, L, st, g) := am_E_gt (by decide +kernel : am_dc 239 9 = some (.goto (4))) rfl rfl
theorem x_239_12   : am_E d 239 Q (12, L, st, g) ↔ am_E d 239 Q (13, L, .int (0) :: st, g) := am_E_iconst (by decide +kernel : am_dc 239 12 = some (.iconst (0))) (by decide) rfl
theorem x_239_13   : am_E d 239 Q (13, L, st, g) ↔ am_E d 239 Q (14, L, .int (1) :: st, g) := am_E_iconst (by decide +kernel : am_dc 239 13 = some (.iconst (1))) (by decide) rfl
theorem x_239_14   : am_E d 239 Q (14, L, st, g) ↔ am_E d 239 Q (15, L, .int (1) :: st, g) := am_E_iconst (by decide +kernel : am_dc 239 14 = some (.iconst (1))) (by decide) rfl
theorem x_239_15  : am_E d 239 Q (15, L, st, g) ↔ am_K d 239 Q (am_S 239 (.invokevirtual 196) 15 L st g) := am_E_x (by decide +kernel : am_dc 239 15 = some (.invokevirtual 196))
theorem x_239_18   : am_E d 239 Q (18, L, .int x :: st, g) ↔ am_E d 239 Q (am_cmp .ne x 0 23 21, L, st, g) := am_E_if (by decide +kernel : am_dc 239 18 = some (.ifCond .ne (5))) rfl rfl
theorem x_239_21   : am_E d 239 Q (21, L, st, g) ↔ am_E d 239 Q (22, L, .int (0) :: st, g) := am_E_iconst (by decide +kernel : am_dc 239 21 = some (.iconst (0))) (by decide) rfl
theorem x_239_22  : am_E d 239 Q (22, L, [.int x], g) ↔ if am_ok (FieldType.int) (.int x) = true then Q (.inl (some (.int x))) g else False := am_E_ireturn (by decide +kernel : am_dc 239 22 = some (.ireturn)) (by decide +kernel)
theorem x_239_23   : am_E d 239 Q (23, L, st, g) ↔ am_K d 239 Q (am_ldA 24 L st g 0) := am_E_aload_n (by decide +kernel : am_dc 239 23 = some (.aload_n 0)) rfl rfl
theorem x_239_24   : am_E d 239 Q (24, L, v :: st, g) ↔ if v.category = 1 then am_E d 239 Q (25, L, v :: v :: st, g) else False := am_E_dup (by decide +kernel : am_dc 239 24 = some (.dup)) rfl
theorem x_239_25   : am_E d 239 Q (25, L, .ref a :: st, g) ↔ am_kv d 239 Q 28 L st g (am_gf g a 11 38) := am_E_getfield (by decide +kernel : am_dc 239 25 = some (.getfield 186)) (by decide +kernel) rfl
theorem x_239_28   : am_E d 239 Q (28, L, st, g) ↔ am_E d 239 Q (29, L, .int (1) :: st, g) := am_E_iconst (by decide +kernel : am_dc 239 28 = some (.iconst (1))) (by decide) rfl
theorem x_239_29   : am_E d 239 Q (29, L, .int y :: .int x :: st, g) ↔ am_E d 239 Q (30, L, .int (x - y) :: st, g) := am_E_isub (by decide +kernel : am_dc 239 29 = some (.isub)) rfl
theorem x_239_30   (hok : (am_ok (am_ft 11 38).1 v && (!(am_ft 11 38).2 || (am_ini 239 && am_co 11 == am_o 239)) && decide (11 < 13)) = true) : am_E d 239 Q (30, L, v :: .ref a :: st, g) ↔ am_kg d 239 Q 33 L st (am_pf g a 11 38 v) := am_E_putfield (by decide +kernel : am_dc 239 30 = some (.putfield 186)) (by decide +kernel) rfl hok
theorem x_239_33   : am_E d 239 Q (33, L, st, g) ↔ am_E d 239 Q (36, L, .int (216) :: st, g) := am_E_sipush (by decide +kernel : am_dc 239 33 = some (.sipush (216))) (by decide) rfl
theorem x_239_36   : am_E d 239 Q (36, L, st, g) ↔ am_K d 239 Q (am_ldA 37 L st g 0) := am_E_aload_n (by decide +kernel : am_dc 239 36 = some (.aload_n 0)) rfl rfl
theorem x_239_37   : am_E d 239 Q (37, L, .ref a :: st, g) ↔ am_kv d 239 Q 40 L st g (am_gf g a 11 38) := am_E_getfield (by decide +kernel : am_dc 239 37 = some (.getfield 186)) (by decide +kernel) rfl
theorem x_239_40   : am_E d 239 Q (40, L, .int y :: .int x :: st, g) ↔ am_E d 239 Q (41, L, .int (x * y) :: st, g) := am_E_imul (by decide +kernel : am_dc 239 40 = some (.imul)) rfl
theorem x_239_41   : am_E d 239 Q (41, L, st, g) ↔ am_K d 239 Q (am_stI 42 L st g 1) := am_E_istore_n (by decide +kernel : am_dc 239 41 = some (.istore_n 1)) rfl rfl
theorem x_239_42   : am_E d 239 Q (42, L, st, g) ↔ am_K d 239 Q (am_ldI 43 L st g 1) := am_E_iload_n (by decide +kernel : am_dc 239 42 = some (.iload_n 1)) rfl rfl
theorem x_239_43   : am_E d 239 Q (43, L, st, g) ↔ am_E d 239 Q (46, L, .int (216) :: st, g) := am_E_sipush (by decide +kernel : am_dc 239 43 = some (.sipush (216))) (by decide) rfl
theorem x_239_46   : am_E d 239 Q (46, L, st, g) ↔ am_K d 239 Q (am_ldA 47 L st g 0) := am_E_aload_n (by decide +kernel : am_dc 239 46 = some (.aload_n 0)) rfl rfl
theorem x_239_47   : am_E d 239 Q (47, L, .ref a :: st, g) ↔ am_kv d 239 Q 50 L st g (am_gf g a 11 38) := am_E_getfield (by decide +kernel : am_dc 239 47 = some (.getfield 186)) (by decide +kernel) rfl
theorem x_239_50   : am_E d 239 Q (50, L, .int y :: .int x :: st, g) ↔ am_E d 239 Q (51, L, .int (x * y) :: st, g) := am_E_imul (by decide +kernel : am_dc 239 50 = some (.imul)) rfl
theorem x_239_51   : am_E d 239 Q (51, L, st, g) ↔ am_K d 239 Q (am_ldA 52 L st g 0) := am_E_aload_n (by decide +kernel : am_dc 239 51 = some (.aload_n 0)) rfl rfl
theorem x_239_52   : am_E d 239 Q (52, L, .ref a :: st, g) ↔ am_kv d 239 Q 55 L st g (am_gf g a 11 40) := am_E_getfield (by decide +kernel : am_dc 239 52 = some (.getfield 100)) (by decide +kernel) rfl
theorem x_239_55   : am_E d 239 Q (55, L, st, g) ↔ am_K d 239 Q (am_ldA 56 L st g 0) := am_E_aload_n (by decide +kernel : am_dc 239 55 = some (.aload_n 0)) rfl rfl
theorem x_239_56   : am_E d 239 Q (56, L, .ref a :: st, g) ↔ am_kv d 239 Q 59 L st g (am_gf g a 11 38) := am_E_getfield (by decide +kernel : am_dc 239 56 = some (.getfield 186)) (by decide +kernel) rfl
theorem x_239_59   : am_E d 239 Q (59, L, .int x :: .ref a :: st, g) ↔ am_kv d 239 Q 60 L st g (am_iat .iaload g a x) := am_E_iaload (by decide +kernel : am_dc 239 59 = some (.iaload)) rfl
theorem x_239_60   : am_E d 239 Q (60, L, .int y :: .int x :: st, g) ↔ am_E d 239 Q (61, L, .int (x + y) :: st, g) := am_E_iadd (by decide +kernel : am_dc 239 60 = some (.iadd)) rfl
theorem x_239_61   : am_E d 239 Q (61, L, .int y :: .int x :: st, g) ↔ am_E d 239 Q (am_cmp .ge x y 115 64, L, st, g) := am_E_ic (by decide +kernel : am_dc 239 61 = some (.if_icmp .ge (54))) rfl rfl
theorem x_239_64   : am_E d 239 Q (64, L, st, g) ↔ am_E d 239 Q (67, L, .int (216) :: st, g) := am_E_sipush (by decide +kernel : am_dc 239 64 = some (.sipush (216))) (by decide) rfl
theorem x_239_67   : am_E d 239 Q (67, L, st, g) ↔ am_K d 239 Q (am_ldA 68 L st g 0) := am_E_aload_n (by decide +kernel : am_dc 239 67 = some (.aload_n 0)) rfl rfl
theorem x_239_68   : am_E d 239 Q (68, L, .ref a :: st, g) ↔ am_kv d 239 Q 71 L st g (am_gf g a 11 39) := am_E_getfield (by decide +kernel : am_dc 239 68 = some (.getfield 97)) (by decide +kernel) rfl
theorem x_239_71   : am_E d 239 Q (71, L, st, g) ↔ am_K d 239 Q (am_ldA 72 L st g 0) := am_E_aload_n (by decide +kernel : am_dc 239 71 = some (.aload_n 0)) rfl rfl
theorem x_239_72   : am_E d 239 Q (72, L, .ref a :: st, g) ↔ am_kv d 239 Q 75 L st g (am_gf g a 11 38) := am_E_getfield (by decide +kernel : am_dc 239 72 = some (.getfield 186)) (by decide +kernel) rfl
theorem x_239_75   : am_E d 239 Q (75, L, .int x :: .ref a :: st, g) ↔ am_kv d 239 Q 76 L st g (am_iat .iaload g a x) := am_E_iaload (by decide +kernel : am_dc 239 75 = some (.iaload)) rfl
theorem x_239_76   : am_E d 239 Q (76, L, .int y :: .int x :: st, g) ↔ am_E d 239 Q (77, L, .int (x * y) :: st, g) := am_E_imul (by decide +kernel : am_dc 239 76 = some (.imul)) rfl
theorem x_239_77   : am_E d 239 Q (77, L, st, g) ↔ am_K d 239 Q (am_ldA 78 L st g 0) := am_E_aload_n (by decide +kernel : am_dc 239 77 = some (.aload_n 0)) rfl rfl
theorem x_239_78   : am_E d 239 Q (78, L, .ref a :: st, g) ↔ am_kv d 239 Q 81 L st g (am_gf g a 11 41) := am_E_getfield (by decide +kernel : am_dc 239 78 = some (.getfield 103)) (by decide +kernel) rfl
theorem x_239_81   : am_E d 239 Q (81, L, st, g) ↔ am_K d 239 Q (am_ldI 82 L st g 1) := am_E_iload_n (by decide +kernel : am_dc 239 81 = some (.iload_n 1)) rfl rfl
theorem x_239_82   : am_E d 239 Q (82, L, .int x :: .ref a :: st, g) ↔ am_kv d 239 Q 83 L st g (am_iat .iaload g a x) := am_E_iaload (by decide +kernel : am_dc 239 82 = some (.iaload)) rfl
theorem x_239_83   : am_E d 239 Q (83, L, .int y :: .int x :: st, g) ↔ am_E d 239 Q (84, L, .int (x + y) :: st, g) := am_E_iadd (by decide +kernel : am_dc 239 83 = some (.iadd)) rfl
theorem x_239_84   : am_E d 239 Q (84, L, st, g) ↔ am_K d 239 Q (am_stI 85 L st g 2) := am_E_istore_n (by decide +kernel : am_dc 239 84 = some (.istore_n 2)) rfl rfl
theorem x_239_85   : am_E d 239 Q (85, L, st, g) ↔ am_K d 239 Q (am_ldA 86 L st g 0) := am_E_aload_n (by decide +kernel : am_dc 239 85 = some (.aload_n 0)) rfl rfl
theorem x_239_86   : am_E d 239 Q (86, L, .ref a :: st, g) ↔ am_kv d 239 Q 89 L st g (am_gf g a 11 9) := am_E_getfield (by decide +kernel : am_dc 239 86 = some (.getfield 36)) (by decide +kernel) rfl
theorem x_239_89   : am_E d 239 Q (89, L, st, g) ↔ am_K d 239 Q (am_ldI 90 L st g 2) := am_E_iload_n (by decide +kernel : am_dc 239 89 = some (.iload_n 2)) rfl rfl
theorem x_239_90   : am_E d 239 Q (90, L, st, g) ↔ am_K d 239 Q (am_ldA 91 L st g 0) := am_E_aload_n (by decide +kernel : am_dc 239 90 = some (.aload_n 0)) rfl rfl
theorem x_239_91   : am_E d 239 Q (91, L, .ref a :: st, g) ↔ am_kv d 239 Q 94 L st g (am_gf g a 11 42) := am_E_getfield (by decide +kernel : am_dc 239 91 = some (.getfield 106)) (by decide +kernel) rfl
theorem x_239_94   : am_E d 239 Q (94, L, st, g) ↔ am_K d 239 Q (am_ldI 95 L st g 1) := am_E_iload_n (by decide +kernel : am_dc 239 94 = some (.iload_n 1)) rfl rfl
theorem x_239_95   : am_E d 239 Q (95, L, .int x :: .ref a :: st, g) ↔ am_kv d 239 Q 96 L st g (am_iat .baload g a x) := am_E_baload (by decide +kernel : am_dc 239 95 = some (.baload)) rfl
theorem x_239_96   : am_E d 239 Q (96, L, v :: .int x :: .ref a :: st, g) ↔ am_kg d 239 Q 97 L st (am_sat .bastore g a x v) := am_E_bastore (by decide +kernel : am_dc 239 96 = some (.bastore)) rfl
theorem x_239_97   : am_E d 239 Q (97, L, st, g) ↔ am_K d 239 Q (am_ldA 98 L st g 0) := am_E_aload_n (by decide +kernel : am_dc 239 97 = some (.aload_n 0)) rfl rfl
theorem x_239_98   : am_E d 239 Q (98, L, .ref a :: st, g) ↔ am_kv d 239 Q 101 L st g (am_gf g a 11 10) := am_E_getfield (by decide +kernel : am_dc 239 98 = some (.getfield 39)) (by decide +kernel) rfl
theorem x_239_101   : am_E d 239 Q (101, L, st, g) ↔ am_K d 239 Q (am_ldI 102 L st g 2) := am_E_iload_n (by decide +kernel : am_dc 239 101 = some (.iload_n 2)) rfl rfl
theorem x_239_102   : am_E d 239 Q (102, L, st, g) ↔ am_K d 239 Q (am_ldA 103 L st g 0) := am_E_aload_n (by decide +kernel : am_dc 239 102 = some (.aload_n 0)) rfl rfl
theorem x_239_103   : am_E d 239 Q (103, L, .ref a :: st, g) ↔ am_kv d 239 Q 106 L st g (am_gf g a 11 43) := am_E_getfield (by decide +kernel : am_dc 239 103 = some (.getfield 109)) (by decide +kernel) rfl
theorem x_239_106   : am_E d 239 Q (106, L, st, g) ↔ am_K d 239 Q (am_ldI 107 L st g 1) := am_E_iload_n (by decide +kernel : am_dc 239 106 = some (.iload_n 1)) rfl rfl
theorem x_239_107   : am_E d 239 Q (107, L, .int x :: .ref a :: st, g) ↔ am_kv d 239 Q 108 L st g (am_iat .iaload g a x) := am_E_iaload (by decide +kernel : am_dc 239 107 = some (.iaload)) rfl
theorem x_239_108   : am_E d 239 Q (108, L, v :: .int x :: .ref a :: st, g) ↔ am_kg d 239 Q 109 L st (am_sat .iastore g a x v) := am_E_iastore (by decide +kernel : am_dc 239 108 = some (.iastore)) rfl
theorem x_239_109   (hk : L.getD 1 none = some (.int x)) (hl : 1 < L.length) : am_E d 239 Q (109, L, st, g) ↔ am_E d 239 Q (112, am_s1 L 1 (.int (x + (1))), st, g) := am_E_iinc (by decide +kernel : am_dc 239 109 = some (.iinc 1 (1))) (by decide) rfl hk hl
theorem x_239_112   : am_E d 239 Q (112, L, st, g) ↔ am_E d 239 Q (42, L, st, g) := am_E_gt (by decide +kernel : am_dc 239 112 = some (.goto (-70))) rfl rfl
theorem x_239_115   : am_E d 239 Q (115, L, st, g) ↔ am_K d 239 Q (am_ldA 116 L st g 0) := am_E_aload_n (by decide +kernel : am_dc 239 115 = some (.aload_n 0)) rfl rfl
theorem x_239_116   : am_E d 239 Q (116, L, .ref a :: st, g) ↔ am_kv d 239 Q 119 L st g (am_gf g a 11 38) := am_E_getfield (by decide +kernel : am_dc 239 116 = some (.getfield 186)) (by decide +kernel) rfl
theorem x_239_119  : am_E d 239 Q (119, L, [.int x], g) ↔ if am_ok (FieldType.int) (.int x) = true then Q (.inl (some (.int x))) g else False := am_E_ireturn (by decide +kernel : am_dc 239 119 = some (.ireturn)) (by decide +kernel)
theorem f_239_186 : am_fl 239 186 = some (11, 38) := by decide +kernel
theorem v_239_196 : am_iv 239 196 = some (1, 185, 4) := by decide +kernel
theorem f_239_100 : am_fl 239 100 = some (11, 40) := by decide +kernel
theorem f_239_97 : am_fl 239 97 = some (11, 39) := by decide +kernel
theorem f_239_103 : am_fl 239 103 = some (11, 41) := by decide +kernel
theorem f_239_36 : am_fl 239 36 = some (11, 9) := by decide +kernel
theorem f_239_106 : am_fl 239 106 = some (11, 42) := by decide +kernel
theorem f_239_39 : am_fl 239 39 = some (11, 10) := by decide +kernel
theorem f_239_109 : am_fl 239 109 = some (11, 43) := by decide +kernel
theorem t_239 : am_t 239 = some (FieldType.int) := by decide +kernel
theorem h_239 : am_h 239 = [] := by decide +kernel
theorem m_239 : am_m 239 = 3 := by decide +kernel
theorem x_240_0   : am_E d 240 Q (0, L, st, g) ↔ am_K d 240 Q (am_ldA 1 L st g 0) := am_E_aload_n (by decide +kernel : am_dc 240 0 = some (.aload_n 0)) rfl rfl
theorem x_240_1   : am_E d 240 Q (1, L, st, g) ↔ am_K d 240 Q (am_ldI 2 L st g 1) := am_E_iload_n (by decide +kernel : am_dc 240 1 = some (.iload_n 1)) rfl rfl
theorem x_240_2  : am_E d 240 Q (2, L, st, g) ↔ am_K d 240 Q (am_S 240 (.invokevirtual 418) 2 L st g) := am_E_x (by decide +kernel : am_dc 240 2 = some (.invokevirtual 418))
theorem x_240_5   : am_E d 240 Q (5, L, .int x :: st, g) ↔ am_E d 240 Q (am_cmp .eq x 0 16 8, L, st, g) := am_E_if (by decide +kernel : am_dc 240 5 = some (.ifCond .eq (11))) rfl rfl
theorem x_240_8   : am_E d 240 Q (8, L, st, g) ↔ am_K d 240 Q (am_ldA 9 L st g 0) := am_E_aload_n (by decide +kernel : am_dc 240 8 = some (.aload_n 0)) rfl rfl
theorem x_240_9   : am_E d 240 Q (9, L, .ref a :: st, g) ↔ am_kv d 240 Q 12 L st g (am_gf g a 11 63) := am_E_getfield (by decide +kernel : am_dc 240 9 = some (.getfield 308)) (by decide +kernel) rfl
theorem x_240_12   : am_E d 240 Q (12, L, .long u :: st, g) ↔ am_E d 240 Q (13, L, .int u.toInt32 :: st, g) := am_E_l2i (by decide +kernel : am_dc 240 12 = some (.l2i)) rfl
theorem x_240_13   : am_E d 240 Q (13, L, st, g) ↔ am_E d 240 Q (17, L, st, g) := am_E_gt (by decide +kernel : am_dc 240 13 = some (.goto (4))) rfl rfl
theorem x_240_16   : am_E d 240 Q (16, L, st, g) ↔ am_E d 240 Q (17, L, .int (0) :: st, g) := am_E_iconst (by decide +kernel : am_dc 240 16 = some (.iconst (0))) (by decide) rfl
theorem x_240_17  : am_E d 240 Q (17, L, [.int x], g) ↔ if am_ok (FieldType.int) (.int x) = true then Q (.inl (some (.int x))) g else False := am_E_ireturn (by decide +kernel : am_dc 240 17 = some (.ireturn)) (by decide +kernel)
theorem v_240_418 : am_iv 240 418 = some (1, 159, 2) := by decide +kernel
theorem f_240_308 : am_fl 240 308 = some (11, 63) := by decide +kernel
theorem t_240 : am_t 240 = some (FieldType.int) := by decide +kernel
theorem h_240 : am_h 240 = [] := by decide +kernel
theorem m_240 : am_m 240 = 2 := by decide +kernel
theorem x_241_0   : am_E d 241 Q (0, L, st, g) ↔ am_K d 241 Q (am_ldI 1 L st g 0) := am_E_iload_n (by decide +kernel : am_dc 241 0 = some (.iload_n 0)) rfl rfl
theorem x_241_1   : am_E d 241 Q (1, L, st, g) ↔ am_E d 241 Q (2, L, .int (2) :: st, g) := am_E_iconst (by decide +kernel : am_dc 241 1 = some (.iconst (2))) (by decide) rfl
theorem x_241_2   : am_E d 241 Q (2, L, .int y :: .int x :: st, g) ↔ am_E d 241 Q (am_cmp .ne x y 9 5, L, st, g) := am_E_ic (by decide +kernel : am_dc 241 2 = some (.if_icmp .ne (7))) rfl rfl
theorem x_241_5   : am_E d 241 Q (5, L, st, g) ↔ am_E d 241 Q (6, L, .int (3) :: st, g) := am_E_iconst (by decide +kernel : am_dc 241 5 = some (.iconst (3))) (by decide) rfl
theorem x_241_6   : am_E d 241 Q (6, L, st, g) ↔ am_E d 241 Q (28, L, st, g) := am_E_gt (by decide +kernel : am_dc 241 6 = some (.goto (22))) rfl rfl
theorem x_241_9   : am_E d 241 Q (9, L, st, g) ↔ am_K d 241 Q (am_ldI 10 L st g 0) := am_E_iload_n (by decide +kernel : am_dc 241 9 = some (.iload_n 0)) rfl rfl
theorem x_241_10   : am_E d 241 Q (10, L, st, g) ↔ am_E d 241 Q (11, L, .int (3) :: st, g) := am_E_iconst (by decide +kernel : am_dc 241 10 = some (.iconst (3))) (by decide) rfl
theorem x_241_11   : am_E d 241 Q (11, L, .int y :: .int x :: st, g) ↔ am_E d 241 Q (am_cmp .ne x y 18 14, L, st, g) := am_E_ic (by decide +kernel : am_dc 241 11 = some (.if_icmp .ne (7))) rfl rfl
theorem x_241_14   : am_E d 241 Q (14, L, st, g) ↔ am_E d 241 Q (15, L, .int (2) :: st, g) := am_E_iconst (by decide +kernel : am_dc 241 14 = some (.iconst (2))) (by decide) rfl
theorem x_241_15   : am_E d 241 Q (15, L, st, g) ↔ am_E d 241 Q (28, L, st, g) := am_E_gt (by decide +kernel : am_dc 241 15 = some (.goto (13))) rfl rfl
theorem x_241_18   : am_E d 241 Q (18, L, st, g) ↔ am_K d 241 Q (am_ldI 19 L st g 0) := am_E_iload_n (by decide +kernel : am_dc 241 18 = some (.iload_n 0)) rfl rfl
theorem x_241_19   : am_E d 241 Q (19, L, st, g) ↔ am_E d 241 Q (20, L, .int (4) :: st, g) := am_E_iconst (by decide +kernel : am_dc 241 19 = some (.iconst (4))) (by decide) rfl
theorem x_241_20   : am_E d 241 Q (20, L, .int y :: .int x :: st, g) ↔ am_E d 241 Q (am_cmp .ne x y 27 23, L, st, g) := am_E_ic (by decide +kernel : am_dc 241 20 = some (.if_icmp .ne (7))) rfl rfl
theorem x_241_23   : am_E d 241 Q (23, L, st, g) ↔ am_E d 241 Q (24, L, .int (1) :: st, g) := am_E_iconst (by decide +kernel : am_dc 241 23 = some (.iconst (1))) (by decide) rfl
theorem x_241_24   : am_E d 241 Q (24, L, st, g) ↔ am_E d 241 Q (28, L, st, g) := am_E_gt (by decide +kernel : am_dc 241 24 = some (.goto (4))) rfl rfl
theorem x_241_27   : am_E d 241 Q (27, L, st, g) ↔ am_E d 241 Q (28, L, .int (0) :: st, g) := am_E_iconst (by decide +kernel : am_dc 241 27 = some (.iconst (0))) (by decide) rfl
theorem x_241_28  : am_E d 241 Q (28, L, [.int x], g) ↔ if am_ok (FieldType.int) (.int x) = true then Q (.inl (some (.int x))) g else False := am_E_ireturn (by decide +kernel : am_dc 241 28 = some (.ireturn)) (by decide +kernel)
theorem t_241 : am_t 241 = some (FieldType.int) := by decide +kernel
theorem h_241 : am_h 241 = [] := by decide +kernel
theorem m_241 : am_m 241 = 1 := by decide +kernel
theorem x_242_0   : am_E d 242 Q (0, L, st, g) ↔ am_K d 242 Q (am_ldA 1 L st g 0) := am_E_aload_n (by decide +kernel : am_dc 242 0 = some (.aload_n 0)) rfl rfl
theorem x_242_1  : am_E d 242 Q (1, L, st, g) ↔ am_K d 242 Q (am_S 242 (.invokevirtual 402) 1 L st g) := am_E_x (by decide +kernel : am_dc 242 1 = some (.invokevirtual 402))
theorem x_242_4   : am_E d 242 Q (4, L, st, g) ↔ am_K d 242 Q (am_stI 5 L st g 1) := am_E_istore_n (by decide +kernel : am_dc 242 4 = some (.istore_n 1)) rfl rfl
theorem x_242_5   : am_E d 242 Q (5, L, st, g) ↔ am_K d 242 Q (am_ldA 6 L st g 0) := am_E_aload_n (by decide +kernel : am_dc 242 5 = some (.aload_n 0)) rfl rfl
theorem x_242_6   : am_E d 242 Q (6, L, st, g) ↔ am_K d 242 Q (am_ldI 7 L st g 1) := am_E_iload_n (by decide +kernel : am_dc 242 6 = some (.iload_n 1)) rfl rfl
theorem x_242_7   : am_E d 242 Q (7, L, .int x :: st, g) ↔ am_E d 242 Q (am_cmp .lt x 0 14 10, L, st, g) := am_E_if (by decide +kernel : am_dc 242 7 = some (.ifCond .lt (7))) rfl rfl
theorem x_242_10   : am_E d 242 Q (10, L, st, g) ↔ am_E d 242 Q (11, L, .int (1) :: st, g) := am_E_iconst (by decide +kernel : am_dc 242 10 = some (.iconst (1))) (by decide) rfl
theorem x_242_11   : am_E d 242 Q (11, L, st, g) ↔ am_E d 242 Q (15, L, st, g) := am_E_gt (by decide +kernel : am_dc 242 11 = some (.goto (4))) rfl rfl
theorem x_242_14   : am_E d 242 Q (14, L, st, g) ↔ am_E d 242 Q (15, L, .int (0) :: st, g) := am_E_iconst (by decide +kernel : am_dc 242 14 = some (.iconst (0))) (by decide) rfl
theorem x_242_15   : am_E d 242 Q (15, L, st, g) ↔ am_E d 242 Q (16, L, .int (1) :: st, g) := am_E_iconst (by decide +kernel : am_dc 242 15 = some (.iconst (1))) (by decide) rfl
theorem x_242_16   : am_E d 242 Q (16, L, st, g) ↔ am_E d 242 Q (17, L, .int (1) :: st, g) := am_E_iconst (by decide +kernel : am_dc 242 16 = some (.iconst (1))) (by decide) rfl
theorem x_242_17  : am_E d 242 Q (17, L, st, g) ↔ am_K d 242 Q (am_S 242 (.invokevirtual 196) 17 L st g) := am_E_x (by decide +kernel : am_dc 242 17 = some (.invokevirtual 196))
theorem x_242_20   : am_E d 242 Q (20, L, .int x :: st, g) ↔ am_E d 242 Q (am_cmp .eq x 0 31 23, L, st, g) := am_E_if (by decide +kernel : am_dc 242 20 = some (.ifCond .eq (11))) rfl rfl
theorem x_242_23   : am_E d 242 Q (23, L, st, g) ↔ am_K d 242 Q (am_ldA 24 L st g 0) := am_E_aload_n (by decide +kernel : am_dc 242 23 = some (.aload_n 0)) rfl rfl
theorem x_242_24   : am_E d 242 Q (24, L, st, g) ↔ am_K d 242 Q (am_ldI 25 L st g 1) := am_E_iload_n (by decide +kernel : am_dc 242 24 = some (.iload_n 1)) rfl rfl
theorem x_242_25  : am_E d 242 Q (25, L, st, g) ↔ am_K d 242 Q (am_S 242 (.invokevirtual 347) 25 L st g) := am_E_x (by decide +kernel : am_dc 242 25 = some (.invokevirtual 347))
theorem x_242_28   : am_E d 242 Q (28, L, st, g) ↔ am_E d 242 Q (32, L, st, g) := am_E_gt (by decide +kernel : am_dc 242 28 = some (.goto (4))) rfl rfl
theorem x_242_31   : am_E d 242 Q (31, L, st, g) ↔ am_E d 242 Q (32, L, .int (0) :: st, g) := am_E_iconst (by decide +kernel : am_dc 242 31 = some (.iconst (0))) (by decide) rfl
theorem x_242_32  : am_E d 242 Q (32, L, [.int x], g) ↔ if am_ok (FieldType.int) (.int x) = true then Q (.inl (some (.int x))) g else False := am_E_ireturn (by decide +kernel : am_dc 242 32 = some (.ireturn)) (by decide +kernel)
theorem v_242_402 : am_iv 242 402 = some (1, 186, 1) := by decide +kernel
theorem v_242_196 : am_iv 242 196 = some (1, 185, 4) := by decide +kernel
theorem v_242_347 : am_iv 242 347 = some (1, 243, 2) := by decide +kernel
theorem t_242 : am_t 242 = some (FieldType.int) := by decide +kernel
theorem h_242 : am_h 242 = [] := by decide +kernel
theorem m_242 : am_m 242 = 2 := by decide +kernel
theorem x_243_0   : am_E d 243 Q (0, L, st, g) ↔ am_E d 243 Q (1, L, .int (-1) :: st, g) := am_E_iconst (by decide +kernel : am_dc 243 0 = some (.iconst (-1))) (by decide) rfl
theorem x_243_1   : am_E d 243 Q (1, L, st, g) ↔ am_K d 243 Q (am_stI 2 L st g 2) := am_E_istore_n (by decide +kernel : am_dc 243 1 = some (.istore_n 2)) rfl rfl
theorem x_243_2   : am_E d 243 Q (2, L, st, g) ↔ am_E d 243 Q (3, L, .int (0) :: st, g) := am_E_iconst (by decide +kernel : am_dc 243 2 = some (.iconst (0))) (by decide) rfl
theorem x_243_3   : am_E d 243 Q (3, L, st, g) ↔ am_K d 243 Q (am_stI 4 L st g 3) := am_E_istore_n (by decide +kernel : am_dc 243 3 = some (.istore_n 3)) rfl rfl
theorem x_243_4   : am_E d 243 Q (4, L, st, g) ↔ am_K d 243 Q (am_ldI 5 L st g 3) := am_E_iload_n (by decide +kernel : am_dc 243 4 = some (.iload_n 3)) rfl rfl
theorem x_243_5   : am_E d 243 Q (5, L, st, g) ↔ am_K d 243 Q (am_ldA 6 L st g 0) := am_E_aload_n (by decide +kernel : am_dc 243 5 = some (.aload_n 0)) rfl rfl
theorem x_243_6   : am_E d 243 Q (6, L, .ref a :: st, g) ↔ am_kv d 243 Q 9 L st g (am_gf g a 11 11) := am_E_getfield (by decide +kernel : am_dc 243 6 = some (.getfield 211)) (by decide +kernel) rfl
theorem x_243_9   : am_E d 243 Q (9, L, .int y :: .int x :: st, g) ↔ am_E d 243 Q (am_cmp .ge x y 95 12, L, st, g) := am_E_ic (by decide +kernel : am_dc 243 9 = some (.if_icmp .ge (86))) rfl rfl
theorem x_243_12   : am_E d 243 Q (12, L, st, g) ↔ am_K d 243 Q (am_ldA 13 L st g 0) := am_E_aload_n (by decide +kernel : am_dc 243 12 = some (.aload_n 0)) rfl rfl
theorem x_243_13   : am_E d 243 Q (13, L, st, g) ↔ am_K d 243 Q (am_ldI 14 L st g 3) := am_E_iload_n (by decide +kernel : am_dc 243 13 = some (.iload_n 3)) rfl rfl
theorem x_243_14   : am_E d 243 Q (14, L, st, g) ↔ am_E d 243 Q (15, L, .int (0) :: st, g) := am_E_iconst (by decide +kernel : am_dc 243 14 = some (.iconst (0))) (by decide) rfl
theorem x_243_15   : am_E d 243 Q (15, L, st, g) ↔ am_K d 243 Q (am_ldI 16 L st g 1) := am_E_iload_n (by decide +kernel : am_dc 243 15 = some (.iload_n 1)) rfl rfl
theorem x_243_16   : am_E d 243 Q (16, L, st, g) ↔ am_E d 243 Q (17, L, .int (0) :: st, g) := am_E_iconst (by decide +kernel : am_dc 243 16 = some (.iconst (0))) (by decide) rfl
theorem x_243_17  : am_E d 243 Q (17, L, st, g) ↔ am_K d 243 Q (am_S 243 (.invokestatic 217) 17 L st g) := am_E_x (by decide +kernel : am_dc 243 17 = some (.invokestatic 217))
theorem x_243_20  : am_E d 243 Q (20, L, st, g) ↔ am_K d 243 Q (am_S 243 (.invokevirtual 289) 20 L st g) := am_E_x (by decide +kernel : am_dc 243 20 = some (.invokevirtual 289))
theorem x_243_23   : am_E d 243 Q (23, L, .int x :: st, g) ↔ am_E d 243 Q (am_cmp .eq x 0 58 26, L, st, g) := am_E_if (by decide +kernel : am_dc 243 23 = some (.ifCond .eq (35))) rfl rfl
theorem x_243_26   : am_E d 243 Q (26, L, st, g) ↔ am_K d 243 Q (am_ldA 27 L st g 0) := am_E_aload_n (by decide +kernel : am_dc 243 26 = some (.aload_n 0)) rfl rfl
theorem x_243_27   : am_E d 243 Q (27, L, st, g) ↔ am_K d 243 Q (am_ldI 28 L st g 3) := am_E_iload_n (by decide +kernel : am_dc 243 27 = some (.iload_n 3)) rfl rfl
theorem x_243_28   : am_E d 243 Q (28, L, st, g) ↔ am_E d 243 Q (29, L, .int (1) :: st, g) := am_E_iconst (by decide +kernel : am_dc 243 28 = some (.iconst (1))) (by decide) rfl
theorem x_243_29   : am_E d 243 Q (29, L, st, g) ↔ am_K d 243 Q (am_ldI 30 L st g 1) := am_E_iload_n (by decide +kernel : am_dc 243 29 = some (.iload_n 1)) rfl rfl
theorem x_243_30   : am_E d 243 Q (30, L, st, g) ↔ am_E d 243 Q (31, L, .int (1) :: st, g) := am_E_iconst (by decide +kernel : am_dc 243 30 = some (.iconst (1))) (by decide) rfl
theorem x_243_31  : am_E d 243 Q (31, L, st, g) ↔ am_K d 243 Q (am_S 243 (.invokestatic 217) 31 L st g) := am_E_x (by decide +kernel : am_dc 243 31 = some (.invokestatic 217))
theorem x_243_34  : am_E d 243 Q (34, L, st, g) ↔ am_K d 243 Q (am_S 243 (.invokevirtual 289) 34 L st g) := am_E_x (by decide +kernel : am_dc 243 34 = some (.invokevirtual 289))
theorem x_243_37   : am_E d 243 Q (37, L, .int x :: st, g) ↔ am_E d 243 Q (am_cmp .eq x 0 58 40, L, st, g) := am_E_if (by decide +kernel : am_dc 243 37 = some (.ifCond .eq (21))) rfl rfl
theorem x_243_40   : am_E d 243 Q (40, L, st, g) ↔ am_K d 243 Q (am_ldA 41 L st g 0) := am_E_aload_n (by decide +kernel : am_dc 243 40 = some (.aload_n 0)) rfl rfl
theorem x_243_41   : am_E d 243 Q (41, L, st, g) ↔ am_K d 243 Q (am_ldI 42 L st g 3) := am_E_iload_n (by decide +kernel : am_dc 243 41 = some (.iload_n 3)) rfl rfl
theorem x_243_42   : am_E d 243 Q (42, L, st, g) ↔ am_E d 243 Q (43, L, .int (2) :: st, g) := am_E_iconst (by decide +kernel : am_dc 243 42 = some (.iconst (2))) (by decide) rfl
theorem x_243_43   : am_E d 243 Q (43, L, st, g) ↔ am_K d 243 Q (am_ldI 44 L st g 1) := am_E_iload_n (by decide +kernel : am_dc 243 43 = some (.iload_n 1)) rfl rfl
theorem x_243_44   : am_E d 243 Q (44, L, st, g) ↔ am_E d 243 Q (45, L, .int (2) :: st, g) := am_E_iconst (by decide +kernel : am_dc 243 44 = some (.iconst (2))) (by decide) rfl
theorem x_243_45  : am_E d 243 Q (45, L, st, g) ↔ am_K d 243 Q (am_S 243 (.invokestatic 217) 45 L st g) := am_E_x (by decide +kernel : am_dc 243 45 = some (.invokestatic 217))
theorem x_243_48  : am_E d 243 Q (48, L, st, g) ↔ am_K d 243 Q (am_S 243 (.invokevirtual 289) 48 L st g) := am_E_x (by decide +kernel : am_dc 243 48 = some (.invokevirtual 289))
theorem x_243_51   : am_E d 243 Q (51, L, .int x :: st, g) ↔ am_E d 243 Q (am_cmp .eq x 0 58 54, L, st, g) := am_E_if (by decide +kernel : am_dc 243 51 = some (.ifCond .eq (7))) rfl rfl
theorem x_243_54   : am_E d 243 Q (54, L, st, g) ↔ am_E d 243 Q (55, L, .int (1) :: st, g) := am_E_iconst (by decide +kernel : am_dc 243 54 = some (.iconst (1))) (by decide) rfl
theorem x_243_55   : am_E d 243 Q (55, L, st, g) ↔ am_E d 243 Q (59, L, st, g) := am_E_gt (by decide +kernel : am_dc 243 55 = some (.goto (4))) rfl rfl
theorem x_243_58   : am_E d 243 Q (58, L, st, g) ↔ am_E d 243 Q (59, L, .int (0) :: st, g) := am_E_iconst (by decide +kernel : am_dc 243 58 = some (.iconst (0))) (by decide) rfl
theorem x_243_59   : am_E d 243 Q (59, L, st, g) ↔ am_K d 243 Q (am_stI 61 L st g 4) := am_E_istore (by decide +kernel : am_dc 243 59 = some (.istore 4)) rfl
theorem x_243_61   : am_E d 243 Q (61, L, st, g) ↔ am_K d 243 Q (am_ldI 63 L st g 4) := am_E_iload (by decide +kernel : am_dc 243 61 = some (.iload 4)) rfl
theorem x_243_63   : am_E d 243 Q (63, L, .int x :: st, g) ↔ am_E d 243 Q (am_cmp .eq x 0 87 66, L, st, g) := am_E_if (by decide +kernel : am_dc 243 63 = some (.ifCond .eq (24))) rfl rfl
theorem x_243_66   : am_E d 243 Q (66, L, st, g) ↔ am_K d 243 Q (am_ldI 67 L st g 2) := am_E_iload_n (by decide +kernel : am_dc 243 66 = some (.iload_n 2)) rfl rfl
theorem x_243_67   : am_E d 243 Q (67, L, .int x :: st, g) ↔ am_E d 243 Q (am_cmp .lt x 0 83 70, L, st, g) := am_E_if (by decide +kernel : am_dc 243 67 = some (.ifCond .lt (16))) rfl rfl
theorem x_243_70   : am_E d 243 Q (70, L, st, g) ↔ am_K d 243 Q (am_ldA 71 L st g 0) := am_E_aload_n (by decide +kernel : am_dc 243 70 = some (.aload_n 0)) rfl rfl
theorem x_243_71   : am_E d 243 Q (71, L, st, g) ↔ am_K d 243 Q (am_ldI 72 L st g 3) := am_E_iload_n (by decide +kernel : am_dc 243 71 = some (.iload_n 3)) rfl rfl
theorem x_243_72  : am_E d 243 Q (72, L, st, g) ↔ am_K d 243 Q (am_S 243 (.invokevirtual 292) 72 L st g) := am_E_x (by decide +kernel : am_dc 243 72 = some (.invokevirtual 292))
theorem x_243_75   : am_E d 243 Q (75, L, st, g) ↔ am_K d 243 Q (am_ldA 76 L st g 0) := am_E_aload_n (by decide +kernel : am_dc 243 75 = some (.aload_n 0)) rfl rfl
theorem x_243_76   : am_E d 243 Q (76, L, st, g) ↔ am_K d 243 Q (am_ldI 77 L st g 2) := am_E_iload_n (by decide +kernel : am_dc 243 76 = some (.iload_n 2)) rfl rfl
theorem x_243_77  : am_E d 243 Q (77, L, st, g) ↔ am_K d 243 Q (am_S 243 (.invokevirtual 292) 77 L st g) := am_E_x (by decide +kernel : am_dc 243 77 = some (.invokevirtual 292))
theorem x_243_80   : am_E d 243 Q (80, L, .int y :: .int x :: st, g) ↔ am_E d 243 Q (am_cmp .lt x y 87 83, L, st, g) := am_E_ic (by decide +kernel : am_dc 243 80 = some (.if_icmp .lt (7))) rfl rfl
theorem x_243_83   : am_E d 243 Q (83, L, st, g) ↔ am_K d 243 Q (am_ldI 84 L st g 3) := am_E_iload_n (by decide +kernel : am_dc 243 83 = some (.iload_n 3)) rfl rfl
theorem x_243_84   : am_E d 243 Q (84, L, st, g) ↔ am_E d 243 Q (88, L, st, g) := am_E_gt (by decide +kernel : am_dc 243 84 = some (.goto (4))) rfl rfl
theorem x_243_87   : am_E d 243 Q (87, L, st, g) ↔ am_K d 243 Q (am_ldI 88 L st g 2) := am_E_iload_n (by decide +kernel : am_dc 243 87 = some (.iload_n 2)) rfl rfl
theorem x_243_88   : am_E d 243 Q (88, L, st, g) ↔ am_K d 243 Q (am_stI 89 L st g 2) := am_E_istore_n (by decide +kernel : am_dc 243 88 = some (.istore_n 2)) rfl rfl
theorem x_243_89   (hk : L.getD 3 none = some (.int x)) (hl : 3 < L.length) : am_E d 243 Q (89, L, st, g) ↔ am_E d 243 Q (92, am_s1 L 3 (.int (x + (1))), st, g) := am_E_iinc (by decide +kernel : am_dc 243 89 = some (.iinc 3 (1))) (by decide) rfl hk hl
theorem x_243_92   : am_E d 243 Q (92, L, st, g) ↔ am_E d 243 Q (4, L, st, g) := am_E_gt (by decide +kernel : am_dc 243 92 = some (.goto (-88))) rfl rfl
theorem x_243_95   : am_E d 243 Q (95, L, st, g) ↔ am_K d 243 Q (am_ldI 96 L st g 2) := am_E_iload_n (by decide +kernel : am_dc 243 95 = some (.iload_n 2)) rfl rfl
theorem x_243_96  : am_E d 243 Q (96, L, [.int x], g) ↔ if am_ok (FieldType.int) (.int x) = true then Q (.inl (some (.int x))) g else False := am_E_ireturn (by decide +kernel : am_dc 243 96 = some (.ireturn)) (by decide +kernel)
theorem f_243_211 : am_fl 243 211 = some (11, 11) := by decide +kernel
theorem v_243_217 : am_iv 243 217 = some (0, 213, 2) := by decide +kernel
theorem v_243_289 : am_iv 243 289 = some (1, 180, 4) := by decide +kernel
theorem v_243_292 : am_iv 243 292 = some (1, 228, 2) := by decide +kernel
theorem t_243 : am_t 243 = some (FieldType.int) := by decide +kernel
theorem h_243 : am_h 243 = [] := by decide +kernel
theorem m_243 : am_m 243 = 5 := by decide +kernel
theorem x_244_0   : am_E d 244 Q (0, L, st, g) ↔ am_K d 244 Q (am_ldA 1 L st g 0) := am_E_aload_n (by decide +kernel : am_dc 244 0 = some (.aload_n 0)) rfl rfl
theorem x_244_1   : am_E d 244 Q (1, L, st, g) ↔ am_K d 244 Q (am_ldI 2 L st g 2) := am_E_iload_n (by decide +kernel : am_dc 244 1 = some (.iload_n 2)) rfl rfl
theorem x_244_2   (hok : (am_ok (am_ft 11 46).1 v && (!(am_ft 11 46).2 || (am_ini 244 && am_co 11 == am_o 244)) && decide (11 < 13)) = true) : am_E d 244 Q (2, L, v :: .ref a :: st, g) ↔ am_kg d 244 Q 5 L st (am_pf g a 11 46 v) := am_E_putfield (by decide +kernel : am_dc 244 2 = some (.putfield 341)) (by decide +kernel) rfl hok
theorem x_244_5   : am_E d 244 Q (5, L, st, g) ↔ am_K d 244 Q (am_ldA 6 L st g 0) := am_E_aload_n (by decide +kernel : am_dc 244 5 = some (.aload_n 0)) rfl rfl
theorem x_244_6   : am_E d 244 Q (6, L, st, g) ↔ am_E d 244 Q (7, L, .int (0) :: st, g) := am_E_iconst (by decide +kernel : am_dc 244 6 = some (.iconst (0))) (by decide) rfl
theorem x_244_7   (hok : (am_ok (am_ft 11 47).1 v && (!(am_ft 11 47).2 || (am_ini 244 && am_co 11 == am_o 244)) && decide (11 < 13)) = true) : am_E d 244 Q (7, L, v :: .ref a :: st, g) ↔ am_kg d 244 Q 10 L st (am_pf g a 11 47 v) := am_E_putfield (by decide +kernel : am_dc 244 7 = some (.putfield 315)) (by decide +kernel) rfl hok
theorem x_244_10   : am_E d 244 Q (10, L, st, g) ↔ am_K d 244 Q (am_ldA 11 L st g 0) := am_E_aload_n (by decide +kernel : am_dc 244 10 = some (.aload_n 0)) rfl rfl
theorem x_244_11   : am_E d 244 Q (11, L, st, g) ↔ am_E d 244 Q (12, L, .int (0) :: st, g) := am_E_iconst (by decide +kernel : am_dc 244 11 = some (.iconst (0))) (by decide) rfl
theorem x_244_12   (hok : (am_ok (am_ft 11 59).1 v && (!(am_ft 11 59).2 || (am_ini 244 && am_co 11 == am_o 244)) && decide (11 < 13)) = true) : am_E d 244 Q (12, L, v :: .ref a :: st, g) ↔ am_kg d 244 Q 15 L st (am_pf g a 11 59 v) := am_E_putfield (by decide +kernel : am_dc 244 12 = some (.putfield 312)) (by decide +kernel) rfl hok
theorem x_244_15   : am_E d 244 Q (15, L, st, g) ↔ am_K d 244 Q (am_ldA 16 L st g 0) := am_E_aload_n (by decide +kernel : am_dc 244 15 = some (.aload_n 0)) rfl rfl
theorem x_244_16   : am_E d 244 Q (16, L, st, g) ↔ am_E d 244 Q (17, L, .int (0) :: st, g) := am_E_iconst (by decide +kernel : am_dc 244 16 = some (.iconst (0))) (by decide) rfl
theorem x_244_17   (hok : (am_ok (am_ft 11 49).1 v && (!(am_ft 11 49).2 || (am_ini 244 && am_co 11 == am_o 244)) && decide (11 < 13)) = true) : am_E d 244 Q (17, L, v :: .ref a :: st, g) ↔ am_kg d 244 Q 20 L st (am_pf g a 11 49 v) := am_E_putfield (by decide +kernel : am_dc 244 17 = some (.putfield 331)) (by decide +kernel) rfl hok
theorem x_244_20   : am_E d 244 Q (20, L, st, g) ↔ am_K d 244 Q (am_ldA 21 L st g 0) := am_E_aload_n (by decide +kernel : am_dc 244 20 = some (.aload_n 0)) rfl rfl
theorem x_244_21   : am_E d 244 Q (21, L, st, g) ↔ am_E d 244 Q (22, L, .int (0) :: st, g) := am_E_iconst (by decide +kernel : am_dc 244 21 = some (.iconst (0))) (by decide) rfl
theorem x_244_22   (hok : (am_ok (am_ft 11 48).1 v && (!(am_ft 11 48).2 || (am_ini 244 && am_co 11 == am_o 244)) && decide (11 < 13)) = true) : am_E d 244 Q (22, L, v :: .ref a :: st, g) ↔ am_kg d 244 Q 25 L st (am_pf g a 11 48 v) := am_E_putfield (by decide +kernel : am_dc 244 22 = some (.putfield 334)) (by decide +kernel) rfl hok
theorem x_244_25   : am_E d 244 Q (25, L, st, g) ↔ am_K d 244 Q (am_ldA 26 L st g 0) := am_E_aload_n (by decide +kernel : am_dc 244 25 = some (.aload_n 0)) rfl rfl
theorem x_244_26   : am_E d 244 Q (26, L, st, g) ↔ am_E d 244 Q (27, L, .int (1) :: st, g) := am_E_iconst (by decide +kernel : am_dc 244 26 = some (.iconst (1))) (by decide) rfl
theorem x_244_27   (hok : (am_ok (am_ft 11 62).1 v && (!(am_ft 11 62).2 || (am_ini 244 && am_co 11 == am_o 244)) && decide (11 < 13)) = true) : am_E d 244 Q (27, L, v :: .ref a :: st, g) ↔ am_kg d 244 Q 30 L st (am_pf g a 11 62 v) := am_E_putfield (by decide +kernel : am_dc 244 27 = some (.putfield 305)) (by decide +kernel) rfl hok
theorem x_244_30   : am_E d 244 Q (30, L, st, g) ↔ am_K d 244 Q (am_ldA 31 L st g 0) := am_E_aload_n (by decide +kernel : am_dc 244 30 = some (.aload_n 0)) rfl rfl
theorem x_244_31   : am_E d 244 Q (31, L, st, g) ↔ am_E d 244 Q (32, L, .long (0) :: st, g) := am_E_lconst (by decide +kernel : am_dc 244 31 = some (.lconst 0)) (by decide) rfl
theorem x_244_32   (hok : (am_ok (am_ft 11 63).1 v && (!(am_ft 11 63).2 || (am_ini 244 && am_co 11 == am_o 244)) && decide (11 < 13)) = true) : am_E d 244 Q (32, L, v :: .ref a :: st, g) ↔ am_kg d 244 Q 35 L st (am_pf g a 11 63 v) := am_E_putfield (by decide +kernel : am_dc 244 32 = some (.putfield 308)) (by decide +kernel) rfl hok
theorem x_244_35   : am_E d 244 Q (35, L, st, g) ↔ am_K d 244 Q (am_ldA 36 L st g 0) := am_E_aload_n (by decide +kernel : am_dc 244 35 = some (.aload_n 0)) rfl rfl
theorem x_244_36   : am_E d 244 Q (36, L, st, g) ↔ am_K d 244 Q (am_ldI 37 L st g 1) := am_E_iload_n (by decide +kernel : am_dc 244 36 = some (.iload_n 1)) rfl rfl
theorem x_244_37  : am_E d 244 Q (37, L, st, g) ↔ am_K d 244 Q (am_S 244 (.invokevirtual 365) 37 L st g) := am_E_x (by decide +kernel : am_dc 244 37 = some (.invokevirtual 365))
theorem x_244_40   : am_E d 244 Q (40, L, st, g) ↔ am_K d 244 Q (am_ldA 41 L st g 0) := am_E_aload_n (by decide +kernel : am_dc 244 40 = some (.aload_n 0)) rfl rfl
theorem x_244_41   : am_E d 244 Q (41, L, .ref a :: st, g) ↔ am_kv d 244 Q 44 L st g (am_gf g a 11 47) := am_E_getfield (by decide +kernel : am_dc 244 41 = some (.getfield 315)) (by decide +kernel) rfl
theorem x_244_44   : am_E d 244 Q (44, L, .int x :: st, g) ↔ am_E d 244 Q (am_cmp .le x 0 86 47, L, st, g) := am_E_if (by decide +kernel : am_dc 244 44 = some (.ifCond .le (42))) rfl rfl
theorem x_244_47   : am_E d 244 Q (47, L, st, g) ↔ am_K d 244 Q (am_ldA 48 L st g 0) := am_E_aload_n (by decide +kernel : am_dc 244 47 = some (.aload_n 0)) rfl rfl
theorem x_244_48   : am_E d 244 Q (48, L, .ref a :: st, g) ↔ am_kv d 244 Q 51 L st g (am_gf g a 11 48) := am_E_getfield (by decide +kernel : am_dc 244 48 = some (.getfield 334)) (by decide +kernel) rfl
theorem x_244_51   : am_E d 244 Q (51, L, .int x :: st, g) ↔ am_E d 244 Q (am_cmp .ne x 0 86 54, L, st, g) := am_E_if (by decide +kernel : am_dc 244 51 = some (.ifCond .ne (35))) rfl rfl
theorem x_244_54   : am_E d 244 Q (54, L, st, g) ↔ am_K d 244 Q (am_ldA 55 L st g 0) := am_E_aload_n (by decide +kernel : am_dc 244 54 = some (.aload_n 0)) rfl rfl
theorem x_244_55   : am_E d 244 Q (55, L, .ref a :: st, g) ↔ am_kv d 244 Q 58 L st g (am_gf g a 11 47) := am_E_getfield (by decide +kernel : am_dc 244 55 = some (.getfield 315)) (by decide +kernel) rfl
theorem x_244_58   : am_E d 244 Q (58, L, st, g) ↔ am_E d 244 Q (59, L, .int (1) :: st, g) := am_E_iconst (by decide +kernel : am_dc 244 58 = some (.iconst (1))) (by decide) rfl
theorem x_244_59   : am_E d 244 Q (59, L, .int y :: .int x :: st, g) ↔ am_E d 244 Q (60, L, .int (x - y) :: st, g) := am_E_isub (by decide +kernel : am_dc 244 59 = some (.isub)) rfl
theorem x_244_60   : am_E d 244 Q (60, L, st, g) ↔ am_K d 244 Q (am_stI 61 L st g 3) := am_E_istore_n (by decide +kernel : am_dc 244 60 = some (.istore_n 3)) rfl rfl
theorem x_244_61   : am_E d 244 Q (61, L, st, g) ↔ am_K d 244 Q (am_ldA 62 L st g 0) := am_E_aload_n (by decide +kernel : am_dc 244 61 = some (.aload_n 0)) rfl rfl
theorem x_244_62   : am_E d 244 Q (62, L, .ref a :: st, g) ↔ am_kv d 244 Q 65 L st g (am_gf g a 11 53) := am_E_getfield (by decide +kernel : am_dc 244 62 = some (.getfield 127)) (by decide +kernel) rfl
theorem x_244_65   : am_E d 244 Q (65, L, st, g) ↔ am_K d 244 Q (am_ldI 66 L st g 3) := am_E_iload_n (by decide +kernel : am_dc 244 65 = some (.iload_n 3)) rfl rfl
theorem x_244_66   : am_E d 244 Q (66, L, .int x :: .ref a :: st, g) ↔ am_kv d 244 Q 67 L st g (am_iat .iaload g a x) := am_E_iaload (by decide +kernel : am_dc 244 66 = some (.iaload)) rfl
theorem x_244_67   : am_E d 244 Q (67, L, .int x :: st, g) ↔ am_E d 244 Q (am_cmp .lt x 0 78 70, L, st, g) := am_E_if (by decide +kernel : am_dc 244 67 = some (.ifCond .lt (11))) rfl rfl
theorem x_244_70   : am_E d 244 Q (70, L, st, g) ↔ am_K d 244 Q (am_ldA 71 L st g 0) := am_E_aload_n (by decide +kernel : am_dc 244 70 = some (.aload_n 0)) rfl rfl
theorem x_244_71   : am_E d 244 Q (71, L, st, g) ↔ am_K d 244 Q (am_ldI 72 L st g 3) := am_E_iload_n (by decide +kernel : am_dc 244 71 = some (.iload_n 3)) rfl rfl
theorem x_244_72  : am_E d 244 Q (72, L, st, g) ↔ am_K d 244 Q (am_S 244 (.invokevirtual 393) 72 L st g) := am_E_x (by decide +kernel : am_dc 244 72 = some (.invokevirtual 393))
theorem x_244_75   : am_E d 244 Q (75, L, st, g) ↔ am_E d 244 Q (83, L, st, g) := am_E_gt (by decide +kernel : am_dc 244 75 = some (.goto (8))) rfl rfl
theorem x_244_78   : am_E d 244 Q (78, L, st, g) ↔ am_K d 244 Q (am_ldA 79 L st g 0) := am_E_aload_n (by decide +kernel : am_dc 244 78 = some (.aload_n 0)) rfl rfl
theorem x_244_79   : am_E d 244 Q (79, L, st, g) ↔ am_K d 244 Q (am_ldI 80 L st g 3) := am_E_iload_n (by decide +kernel : am_dc 244 79 = some (.iload_n 3)) rfl rfl
theorem x_244_80  : am_E d 244 Q (80, L, st, g) ↔ am_K d 244 Q (am_S 244 (.invokevirtual 396) 80 L st g) := am_E_x (by decide +kernel : am_dc 244 80 = some (.invokevirtual 396))
theorem x_244_83   : am_E d 244 Q (83, L, st, g) ↔ am_E d 244 Q (40, L, st, g) := am_E_gt (by decide +kernel : am_dc 244 83 = some (.goto (-43))) rfl rfl
theorem x_244_86   : am_E d 244 Q (86, L, st, g) ↔ am_K d 244 Q (am_ldA 87 L st g 0) := am_E_aload_n (by decide +kernel : am_dc 244 86 = some (.aload_n 0)) rfl rfl
theorem x_244_87   : am_E d 244 Q (87, L, .ref a :: st, g) ↔ am_kv d 244 Q 90 L st g (am_gf g a 11 48) := am_E_getfield (by decide +kernel : am_dc 244 87 = some (.getfield 334)) (by decide +kernel) rfl
theorem x_244_90   : am_E d 244 Q (90, L, .int x :: st, g) ↔ am_E d 244 Q (am_cmp .ne x 0 97 93, L, st, g) := am_E_if (by decide +kernel : am_dc 244 90 = some (.ifCond .ne (7))) rfl rfl
theorem x_244_93   : am_E d 244 Q (93, L, st, g) ↔ am_E d 244 Q (94, L, .int (1) :: st, g) := am_E_iconst (by decide +kernel : am_dc 244 93 = some (.iconst (1))) (by decide) rfl
theorem x_244_94   : am_E d 244 Q (94, L, st, g) ↔ am_E d 244 Q (98, L, st, g) := am_E_gt (by decide +kernel : am_dc 244 94 = some (.goto (4))) rfl rfl
theorem x_244_97   : am_E d 244 Q (97, L, st, g) ↔ am_E d 244 Q (98, L, .int (0) :: st, g) := am_E_iconst (by decide +kernel : am_dc 244 97 = some (.iconst (0))) (by decide) rfl
theorem x_244_98  : am_E d 244 Q (98, L, [.int x], g) ↔ if am_ok (FieldType.boolean) (.int x) = true then Q (.inl (some (.int x))) g else False := am_E_ireturn (by decide +kernel : am_dc 244 98 = some (.ireturn)) (by decide +kernel)
theorem f_244_341 : am_fl 244 341 = some (11, 46) := by decide +kernel
theorem f_244_315 : am_fl 244 315 = some (11, 47) := by decide +kernel
theorem f_244_312 : am_fl 244 312 = some (11, 59) := by decide +kernel
theorem f_244_331 : am_fl 244 331 = some (11, 49) := by decide +kernel
theorem f_244_334 : am_fl 244 334 = some (11, 48) := by decide +kernel
theorem f_244_305 : am_fl 244 305 = some (11, 62) := by decide +kernel
theorem f_244_308 : am_fl 244 308 = some (11, 63) := by decide +kernel
theorem v_244_365 : am_iv 244 365 = some (1, 208, 2) := by decide +kernel
theorem f_244_127 : am_fl 244 127 = some (11, 53) := by decide +kernel
theorem v_244_393 : am_iv 244 393 = some (1, 233, 2) := by decide +kernel
theorem v_244_396 : am_iv 244 396 = some (1, 212, 2) := by decide +kernel
theorem t_244 : am_t 244 = some (FieldType.boolean) := by decide +kernel
theorem h_244 : am_h 244 = [] := by decide +kernel
theorem m_244 : am_m 244 = 4 := by decide +kernel
theorem x_245_0   : am_E d 245 Q (0, L, st, g) ↔ am_E d 245 Q (1, L, .int (0) :: st, g) := am_E_iconst (by decide +kernel : am_dc 245 0 = some (.iconst (0))) (by decide) rfl
theorem x_245_1   : am_E d 245 Q (1, L, st, g) ↔ am_K d 245 Q (am_stI 2 L st g 2) := am_E_istore_n (by decide +kernel : am_dc 245 1 = some (.istore_n 2)) rfl rfl
theorem x_245_2   : am_E d 245 Q (2, L, st, g) ↔ am_E d 245 Q (3, L, .int (0) :: st, g) := am_E_iconst (by decide +kernel : am_dc 245 2 = some (.iconst (0))) (by decide) rfl
theorem x_245_3   : am_E d 245 Q (3, L, st, g) ↔ am_K d 245 Q (am_stI 4 L st g 3) := am_E_istore_n (by decide +kernel : am_dc 245 3 = some (.istore_n 3)) rfl rfl
theorem x_245_4   : am_E d 245 Q (4, L, st, g) ↔ am_K d 245 Q (am_ldI 5 L st g 3) := am_E_iload_n (by decide +kernel : am_dc 245 4 = some (.iload_n 3)) rfl rfl
theorem x_245_5   : am_E d 245 Q (5, L, st, g) ↔ am_K d 245 Q (am_ldA 6 L st g 0) := am_E_aload_n (by decide +kernel : am_dc 245 5 = some (.aload_n 0)) rfl rfl
theorem x_245_6   : am_E d 245 Q (6, L, .ref a :: st, g) ↔ am_kv d 245 Q 9 L st g (am_gf g a 11 47) := am_E_getfield (by decide +kernel : am_dc 245 6 = some (.getfield 315)) (by decide +kernel) rfl
theorem x_245_9   : am_E d 245 Q (9, L, .int y :: .int x :: st, g) ↔ am_E d 245 Q (am_cmp .ge x y 38 12, L, st, g) := am_E_ic (by decide +kernel : am_dc 245 9 = some (.if_icmp .ge (29))) rfl rfl
theorem x_245_12   : am_E d 245 Q (12, L, st, g) ↔ am_K d 245 Q (am_ldI 13 L st g 2) := am_E_iload_n (by decide +kernel : am_dc 245 12 = some (.iload_n 2)) rfl rfl
theorem x_245_13   : am_E d 245 Q (13, L, .int x :: st, g) ↔ am_E d 245 Q (am_cmp .ne x 0 26 16, L, st, g) := am_E_if (by decide +kernel : am_dc 245 13 = some (.ifCond .ne (13))) rfl rfl
theorem x_245_16   : am_E d 245 Q (16, L, st, g) ↔ am_K d 245 Q (am_ldA 17 L st g 0) := am_E_aload_n (by decide +kernel : am_dc 245 16 = some (.aload_n 0)) rfl rfl
theorem x_245_17   : am_E d 245 Q (17, L, .ref a :: st, g) ↔ am_kv d 245 Q 20 L st g (am_gf g a 11 50) := am_E_getfield (by decide +kernel : am_dc 245 17 = some (.getfield 118)) (by decide +kernel) rfl
theorem x_245_20   : am_E d 245 Q (20, L, st, g) ↔ am_K d 245 Q (am_ldI 21 L st g 3) := am_E_iload_n (by decide +kernel : am_dc 245 20 = some (.iload_n 3)) rfl rfl
theorem x_245_21   : am_E d 245 Q (21, L, .int x :: .ref a :: st, g) ↔ am_kv d 245 Q 22 L st g (am_iat .iaload g a x) := am_E_iaload (by decide +kernel : am_dc 245 21 = some (.iaload)) rfl
theorem x_245_22   : am_E d 245 Q (22, L, st, g) ↔ am_K d 245 Q (am_ldI 23 L st g 1) := am_E_iload_n (by decide +kernel : am_dc 245 22 = some (.iload_n 1)) rfl rfl
theorem x_245_23   : am_E d 245 Q (23, L, .int y :: .int x :: st, g) ↔ am_E d 245 Q (am_cmp .ne x y 30 26, L, st, g) := am_E_ic (by decide +kernel : am_dc 245 23 = some (.if_icmp .ne (7))) rfl rfl
theorem x_245_26   : am_E d 245 Q (26, L, st, g) ↔ am_E d 245 Q (27, L, .int (1) :: st, g) := am_E_iconst (by decide +kernel : am_dc 245 26 = some (.iconst (1))) (by decide) rfl
theorem x_245_27   : am_E d 245 Q (27, L, st, g) ↔ am_E d 245 Q (31, L, st, g) := am_E_gt (by decide +kernel : am_dc 245 27 = some (.goto (4))) rfl rfl
theorem x_245_30   : am_E d 245 Q (30, L, st, g) ↔ am_E d 245 Q (31, L, .int (0) :: st, g) := am_E_iconst (by decide +kernel : am_dc 245 30 = some (.iconst (0))) (by decide) rfl
theorem x_245_31   : am_E d 245 Q (31, L, st, g) ↔ am_K d 245 Q (am_stI 32 L st g 2) := am_E_istore_n (by decide +kernel : am_dc 245 31 = some (.istore_n 2)) rfl rfl
theorem x_245_32   (hk : L.getD 3 none = some (.int x)) (hl : 3 < L.length) : am_E d 245 Q (32, L, st, g) ↔ am_E d 245 Q (35, am_s1 L 3 (.int (x + (1))), st, g) := am_E_iinc (by decide +kernel : am_dc 245 32 = some (.iinc 3 (1))) (by decide) rfl hk hl
theorem x_245_35   : am_E d 245 Q (35, L, st, g) ↔ am_E d 245 Q (4, L, st, g) := am_E_gt (by decide +kernel : am_dc 245 35 = some (.goto (-31))) rfl rfl
theorem x_245_38   : am_E d 245 Q (38, L, st, g) ↔ am_K d 245 Q (am_ldI 39 L st g 2) := am_E_iload_n (by decide +kernel : am_dc 245 38 = some (.iload_n 2)) rfl rfl
theorem x_245_39  : am_E d 245 Q (39, L, [.int x], g) ↔ if am_ok (FieldType.boolean) (.int x) = true then Q (.inl (some (.int x))) g else False := am_E_ireturn (by decide +kernel : am_dc 245 39 = some (.ireturn)) (by decide +kernel)
theorem f_245_315 : am_fl 245 315 = some (11, 47) := by decide +kernel
theorem f_245_118 : am_fl 245 118 = some (11, 50) := by decide +kernel
theorem t_245 : am_t 245 = some (FieldType.boolean) := by decide +kernel
theorem h_245 : am_h 245 = [] := by decide +kernel
theorem m_245 : am_m 245 = 4 := by decide +kernel
theorem x_246_0   : am_E d 246 Q (0, L, st, g) ↔ am_K d 246 Q (am_ldA 1 L st g 0) := am_E_aload_n (by decide +kernel : am_dc 246 0 = some (.aload_n 0)) rfl rfl
theorem x_246_1  : am_E d 246 Q (1, L, st, g) ↔ am_K d 246 Q (am_S 246 (.invokespecial 3) 1 L st g) := am_E_x (by decide +kernel : am_dc 246 1 = some (.invokespecial 3))
theorem x_246_4  : am_E d 246 Q (4, L, st, g) ↔ am_K d 246 Q (am_S 246 (.getstatic 18) 4 L st g) := am_E_x (by decide +kernel : am_dc 246 4 = some (.getstatic 18))
theorem x_246_7   : am_E d 246 Q (7, L, .int x :: st, g) ↔ am_E d 246 Q (am_cmp .eq x 0 25 10, L, st, g) := am_E_if (by decide +kernel : am_dc 246 7 = some (.ifCond .eq (18))) rfl rfl
theorem x_246_10   : am_E d 246 Q (10, L, st, g) ↔ am_K d 246 Q (am_ldA 11 L st g 0) := am_E_aload_n (by decide +kernel : am_dc 246 10 = some (.aload_n 0)) rfl rfl
theorem x_246_11   : am_E d 246 Q (11, L, st, g) ↔ am_K d 246 Q (am_ldI 12 L st g 1) := am_E_iload_n (by decide +kernel : am_dc 246 11 = some (.iload_n 1)) rfl rfl
theorem x_246_12  : am_E d 246 Q (12, L, st, g) ↔ am_K d 246 Q (am_S 246 (.newarray .byte) 12 L st g) := am_E_x (by decide +kernel : am_dc 246 12 = some (.newarray .byte))
theorem x_246_14   (hok : (am_ok (am_ft 12 0).1 v && (!(am_ft 12 0).2 || (am_ini 246 && am_co 12 == am_o 246)) && decide (12 < 13)) = true) : am_E d 246 Q (14, L, v :: .ref a :: st, g) ↔ am_kg d 246 Q 17 L st (am_pf g a 12 0 v) := am_E_putfield (by decide +kernel : am_dc 246 14 = some (.putfield 15)) (by decide +kernel) rfl hok
theorem x_246_17   : am_E d 246 Q (17, L, st, g) ↔ am_K d 246 Q (am_ldA 18 L st g 0) := am_E_aload_n (by decide +kernel : am_dc 246 17 = some (.aload_n 0)) rfl rfl
theorem x_246_18   : am_E d 246 Q (18, L, st, g) ↔ am_E d 246 Q (19, L, .int (0) :: st, g) := am_E_iconst (by decide +kernel : am_dc 246 18 = some (.iconst (0))) (by decide) rfl
theorem x_246_19   (hok : (am_ok (am_ft 12 1).1 v && (!(am_ft 12 1).2 || (am_ini 246 && am_co 12 == am_o 246)) && decide (12 < 13)) = true) : am_E d 246 Q (19, L, v :: .ref a :: st, g) ↔ am_kg d 246 Q 22 L st (am_pf g a 12 1 v) := am_E_putfield (by decide +kernel : am_dc 246 19 = some (.putfield 22)) (by decide +kernel) rfl hok
theorem x_246_22   : am_E d 246 Q (22, L, st, g) ↔ am_E d 246 Q (38, L, st, g) := am_E_gt (by decide +kernel : am_dc 246 22 = some (.goto (16))) rfl rfl
theorem x_246_25   : am_E d 246 Q (25, L, st, g) ↔ am_K d 246 Q (am_ldA 26 L st g 0) := am_E_aload_n (by decide +kernel : am_dc 246 25 = some (.aload_n 0)) rfl rfl
theorem x_246_26   : am_E d 246 Q (26, L, st, g) ↔ am_K d 246 Q (am_ldI 27 L st g 1) := am_E_iload_n (by decide +kernel : am_dc 246 26 = some (.iload_n 1)) rfl rfl
theorem x_246_27  : am_E d 246 Q (27, L, st, g) ↔ am_K d 246 Q (am_S 246 (.invokestatic 26) 27 L st g) := am_E_x (by decide +kernel : am_dc 246 27 = some (.invokestatic 26))
theorem x_246_30   (hok : (am_ok (am_ft 12 0).1 v && (!(am_ft 12 0).2 || (am_ini 246 && am_co 12 == am_o 246)) && decide (12 < 13)) = true) : am_E d 246 Q (30, L, v :: .ref a :: st, g) ↔ am_kg d 246 Q 33 L st (am_pf g a 12 0 v) := am_E_putfield (by decide +kernel : am_dc 246 30 = some (.putfield 15)) (by decide +kernel) rfl hok
theorem x_246_33   : am_E d 246 Q (33, L, st, g) ↔ am_K d 246 Q (am_ldA 34 L st g 0) := am_E_aload_n (by decide +kernel : am_dc 246 33 = some (.aload_n 0)) rfl rfl
theorem x_246_34   : am_E d 246 Q (34, L, st, g) ↔ am_E d 246 Q (35, L, .int (1) :: st, g) := am_E_iconst (by decide +kernel : am_dc 246 34 = some (.iconst (1))) (by decide) rfl
theorem x_246_35   (hok : (am_ok (am_ft 12 1).1 v && (!(am_ft 12 1).2 || (am_ini 246 && am_co 12 == am_o 246)) && decide (12 < 13)) = true) : am_E d 246 Q (35, L, v :: .ref a :: st, g) ↔ am_kg d 246 Q 38 L st (am_pf g a 12 1 v) := am_E_putfield (by decide +kernel : am_dc 246 35 = some (.putfield 22)) (by decide +kernel) rfl hok
theorem x_246_38  : am_E d 246 Q (38, L, [], g) ↔ Q (.inl none) g := am_E_return (by decide +kernel : am_dc 246 38 = some (.return_)) (by decide +kernel)
theorem v_246_3 : am_iv 246 3 = some (3, 0, 1) := by decide +kernel
theorem s_246_18 : am_gs 246 18 = some 101 := by decide +kernel
theorem f_246_15 : am_fl 246 15 = some (12, 0) := by decide +kernel
theorem f_246_22 : am_fl 246 22 = some (12, 1) := by decide +kernel
theorem v_246_26 : am_iv 246 26 = some (0, 304, 1) := by decide +kernel
theorem t_246 : am_t 246 = none := by decide +kernel
theorem h_246 : am_h 246 = [] := by decide +kernel
theorem m_246 : am_m 246 = 2 := by decide +kernel
theorem x_247_0   : am_E d 247 Q (0, L, st, g) ↔ am_K d 247 Q (am_ldA 1 L st g 0) := am_E_aload_n (by decide +kernel : am_dc 247 0 = some (.aload_n 0)) rfl rfl
theorem x_247_1   : am_E d 247 Q (1, L, st, g) ↔ am_K d 247 Q (am_ldA 2 L st g 0) := am_E_aload_n (by decide +kernel : am_dc 247 1 = some (.aload_n 0)) rfl rfl
theorem x_247_2   : am_E d 247 Q (2, L, .ref a :: st, g) ↔ am_kv d 247 Q 5 L st g (am_gf g a 12 3) := am_E_getfield (by decide +kernel : am_dc 247 2 = some (.getfield 79)) (by decide +kernel) rfl
theorem x_247_5   : am_E d 247 Q (5, L, st, g) ↔ am_E d 247 Q (6, L, .int (1) :: st, g) := am_E_iconst (by decide +kernel : am_dc 247 5 = some (.iconst (1))) (by decide) rfl
theorem x_247_6   : am_E d 247 Q (6, L, .int y :: .int x :: st, g) ↔ am_E d 247 Q (7, L, .int (x + y) :: st, g) := am_E_iadd (by decide +kernel : am_dc 247 6 = some (.iadd)) rfl
theorem x_247_7  : am_E d 247 Q (7, L, st, g) ↔ am_K d 247 Q (am_S 247 (.invokevirtual 100) 7 L st g) := am_E_x (by decide +kernel : am_dc 247 7 = some (.invokevirtual 100))
theorem x_247_10   : am_E d 247 Q (10, L, st, g) ↔ am_K d 247 Q (am_ldA 11 L st g 0) := am_E_aload_n (by decide +kernel : am_dc 247 10 = some (.aload_n 0)) rfl rfl
theorem x_247_11  : am_E d 247 Q (11, L, st, g) ↔ am_K d 247 Q (am_S 247 (.invokevirtual 83) 11 L st g) := am_E_x (by decide +kernel : am_dc 247 11 = some (.invokevirtual 83))
theorem x_247_14   : am_E d 247 Q (14, L, .int x :: st, g) ↔ am_E d 247 Q (am_cmp .eq x 0 45 17, L, st, g) := am_E_if (by decide +kernel : am_dc 247 14 = some (.ifCond .eq (31))) rfl rfl
theorem x_247_17   : am_E d 247 Q (17, L, st, g) ↔ am_K d 247 Q (am_ldI 18 L st g 1) := am_E_iload_n (by decide +kernel : am_dc 247 17 = some (.iload_n 1)) rfl rfl
theorem x_247_18  : am_E d 247 Q (18, L, st, g) ↔ am_K d 247 Q (am_S 247 (.invokestatic 191) 18 L st g) := am_E_x (by decide +kernel : am_dc 247 18 = some (.invokestatic 191))
theorem x_247_21   : am_E d 247 Q (21, L, .int x :: st, g) ↔ am_E d 247 Q (am_cmp .eq x 0 45 24, L, st, g) := am_E_if (by decide +kernel : am_dc 247 21 = some (.ifCond .eq (24))) rfl rfl
theorem x_247_24   : am_E d 247 Q (24, L, st, g) ↔ am_K d 247 Q (am_ldA 25 L st g 0) := am_E_aload_n (by decide +kernel : am_dc 247 24 = some (.aload_n 0)) rfl rfl
theorem x_247_25   : am_E d 247 Q (25, L, .ref a :: st, g) ↔ am_kv d 247 Q 28 L st g (am_gf g a 12 0) := am_E_getfield (by decide +kernel : am_dc 247 25 = some (.getfield 15)) (by decide +kernel) rfl
theorem x_247_28   : am_E d 247 Q (28, L, st, g) ↔ am_K d 247 Q (am_ldA 29 L st g 0) := am_E_aload_n (by decide +kernel : am_dc 247 28 = some (.aload_n 0)) rfl rfl
theorem x_247_29   : am_E d 247 Q (29, L, v :: st, g) ↔ if v.category = 1 then am_E d 247 Q (30, L, v :: v :: st, g) else False := am_E_dup (by decide +kernel : am_dc 247 29 = some (.dup)) rfl
theorem x_247_30   : am_E d 247 Q (30, L, .ref a :: st, g) ↔ am_kv d 247 Q 33 L st g (am_gf g a 12 3) := am_E_getfield (by decide +kernel : am_dc 247 30 = some (.getfield 79)) (by decide +kernel) rfl
theorem x_247_33   : am_E d 247 Q (33, L, v :: v1 :: st, g) ↔ if v.category = 1 ∧ v1.category = 1 then am_E d 247 Q (34, L, v :: v1 :: v :: st, g) else False := am_E_dup_x1 (by decide +kernel : am_dc 247 33 = some (.dup_x1)) rfl
theorem x_247_34   : am_E d 247 Q (34, L, st, g) ↔ am_E d 247 Q (35, L, .int (1) :: st, g) := am_E_iconst (by decide +kernel : am_dc 247 34 = some (.iconst (1))) (by decide) rfl
theorem x_247_35   : am_E d 247 Q (35, L, .int y :: .int x :: st, g) ↔ am_E d 247 Q (36, L, .int (x + y) :: st, g) := am_E_iadd (by decide +kernel : am_dc 247 35 = some (.iadd)) rfl
theorem x_247_36   (hok : (am_ok (am_ft 12 3).1 v && (!(am_ft 12 3).2 || (am_ini 247 && am_co 12 == am_o 247)) && decide (12 < 13)) = true) : am_E d 247 Q (36, L, v :: .ref a :: st, g) ↔ am_kg d 247 Q 39 L st (am_pf g a 12 3 v) := am_E_putfield (by decide +kernel : am_dc 247 36 = some (.putfield 79)) (by decide +kernel) rfl hok
theorem x_247_39   : am_E d 247 Q (39, L, st, g) ↔ am_K d 247 Q (am_ldI 40 L st g 1) := am_E_iload_n (by decide +kernel : am_dc 247 39 = some (.iload_n 1)) rfl rfl
theorem x_247_40   : am_E d 247 Q (40, L, .int x :: st, g) ↔ am_E d 247 Q (41, L, .int x.toInt8.toInt32 :: st, g) := am_E_i2b (by decide +kernel : am_dc 247 40 = some (.i2b)) rfl
theorem x_247_41   : am_E d 247 Q (41, L, v :: .int x :: .ref a :: st, g) ↔ am_kg d 247 Q 42 L st (am_sat .bastore g a x v) := am_E_bastore (by decide +kernel : am_dc 247 41 = some (.bastore)) rfl
theorem x_247_42   : am_E d 247 Q (42, L, st, g) ↔ am_E d 247 Q (75, L, st, g) := am_E_gt (by decide +kernel : am_dc 247 42 = some (.goto (33))) rfl rfl
theorem x_247_45   : am_E d 247 Q (45, L, st, g) ↔ am_K d 247 Q (am_ldA 46 L st g 0) := am_E_aload_n (by decide +kernel : am_dc 247 45 = some (.aload_n 0)) rfl rfl
theorem x_247_46  : am_E d 247 Q (46, L, st, g) ↔ am_K d 247 Q (am_S 247 (.invokevirtual 83) 46 L st g) := am_E_x (by decide +kernel : am_dc 247 46 = some (.invokevirtual 83))
theorem x_247_49   : am_E d 247 Q (49, L, .int x :: st, g) ↔ am_E d 247 Q (am_cmp .eq x 0 56 52, L, st, g) := am_E_if (by decide +kernel : am_dc 247 49 = some (.ifCond .eq (7))) rfl rfl
theorem x_247_52   : am_E d 247 Q (52, L, st, g) ↔ am_K d 247 Q (am_ldA 53 L st g 0) := am_E_aload_n (by decide +kernel : am_dc 247 52 = some (.aload_n 0)) rfl rfl
theorem x_247_53  : am_E d 247 Q (53, L, st, g) ↔ am_K d 247 Q (am_S 247 (.invokevirtual 195) 53 L st g) := am_E_x (by decide +kernel : am_dc 247 53 = some (.invokevirtual 195))
theorem x_247_56   : am_E d 247 Q (56, L, st, g) ↔ am_K d 247 Q (am_ldA 57 L st g 0) := am_E_aload_n (by decide +kernel : am_dc 247 56 = some (.aload_n 0)) rfl rfl
theorem x_247_57   : am_E d 247 Q (57, L, .ref a :: st, g) ↔ am_kv d 247 Q 60 L st g (am_gf g a 12 0) := am_E_getfield (by decide +kernel : am_dc 247 57 = some (.getfield 15)) (by decide +kernel) rfl
theorem x_247_60   : am_E d 247 Q (60, L, st, g) ↔ am_K d 247 Q (am_ldA 61 L st g 0) := am_E_aload_n (by decide +kernel : am_dc 247 60 = some (.aload_n 0)) rfl rfl
theorem x_247_61   : am_E d 247 Q (61, L, v :: st, g) ↔ if v.category = 1 then am_E d 247 Q (62, L, v :: v :: st, g) else False := am_E_dup (by decide +kernel : am_dc 247 61 = some (.dup)) rfl
theorem x_247_62   : am_E d 247 Q (62, L, .ref a :: st, g) ↔ am_kv d 247 Q 65 L st g (am_gf g a 12 3) := am_E_getfield (by decide +kernel : am_dc 247 62 = some (.getfield 79)) (by decide +kernel) rfl
theorem x_247_65   : am_E d 247 Q (65, L, v :: v1 :: st, g) ↔ if v.category = 1 ∧ v1.category = 1 then am_E d 247 Q (66, L, v :: v1 :: v :: st, g) else False := am_E_dup_x1 (by decide +kernel : am_dc 247 65 = some (.dup_x1)) rfl
theorem x_247_66   : am_E d 247 Q (66, L, st, g) ↔ am_E d 247 Q (67, L, .int (1) :: st, g) := am_E_iconst (by decide +kernel : am_dc 247 66 = some (.iconst (1))) (by decide) rfl
theorem x_247_67   : am_E d 247 Q (67, L, .int y :: .int x :: st, g) ↔ am_E d 247 Q (68, L, .int (x + y) :: st, g) := am_E_iadd (by decide +kernel : am_dc 247 67 = some (.iadd)) rfl
theorem x_247_68   (hok : (am_ok (am_ft 12 3).1 v && (!(am_ft 12 3).2 || (am_ini 247 && am_co 12 == am_o 247)) && decide (12 < 13)) = true) : am_E d 247 Q (68, L, v :: .ref a :: st, g) ↔ am_kg d 247 Q 71 L st (am_pf g a 12 3 v) := am_E_putfield (by decide +kernel : am_dc 247 68 = some (.putfield 79)) (by decide +kernel) rfl hok
theorem x_247_71   : am_E d 247 Q (71, L, st, g) ↔ am_K d 247 Q (am_ldI 72 L st g 1) := am_E_iload_n (by decide +kernel : am_dc 247 71 = some (.iload_n 1)) rfl rfl
theorem x_247_72  : am_E d 247 Q (72, L, st, g) ↔ am_K d 247 Q (am_S 247 (.invokestatic 197) 72 L st g) := am_E_x (by decide +kernel : am_dc 247 72 = some (.invokestatic 197))
theorem x_247_75   : am_E d 247 Q (75, L, st, g) ↔ am_K d 247 Q (am_ldA 76 L st g 0) := am_E_aload_n (by decide +kernel : am_dc 247 75 = some (.aload_n 0)) rfl rfl
theorem x_247_76  : am_E d 247 Q (76, L, [.ref a], g) ↔ if am_ok ((FieldType.object "java/lang/AbstractStringBuilder")) (.ref a) = true then Q (.inl (some (.ref a))) g else False := am_E_areturn (by decide +kernel : am_dc 247 76 = some (.areturn)) (by decide +kernel)
theorem f_247_79 : am_fl 247 79 = some (12, 3) := by decide +kernel
theorem v_247_100 : am_iv 247 100 = some (7, 252, 2) := by decide +kernel
theorem v_247_83 : am_iv 247 83 = some (6, 255, 1) := by decide +kernel
theorem v_247_191 : am_iv 247 191 = some (0, 287, 1) := by decide +kernel
theorem f_247_15 : am_fl 247 15 = some (12, 0) := by decide +kernel
theorem v_247_195 : am_iv 247 195 = some (7, 253, 1) := by decide +kernel
theorem v_247_197 : am_iv 247 197 = some (0, 307, 3) := by decide +kernel
theorem t_247 : am_t 247 = some ((FieldType.object "java/lang/AbstractStringBuilder")) := by decide +kernel
theorem h_247 : am_h 247 = [] := by decide +kernel
theorem m_247 : am_m 247 = 2 := by decide +kernel
theorem x_248_0   : am_E d 248 Q (0, L, st, g) ↔ am_K d 248 Q (am_ldA 1 L st g 0) := am_E_aload_n (by decide +kernel : am_dc 248 0 = some (.aload_n 0)) rfl rfl
theorem x_248_1   : am_E d 248 Q (1, L, .ref a :: st, g) ↔ am_kv d 248 Q 4 L st g (am_gf g a 12 3) := am_E_getfield (by decide +kernel : am_dc 248 1 = some (.getfield 79)) (by decide +kernel) rfl
theorem x_248_4   : am_E d 248 Q (4, L, st, g) ↔ am_K d 248 Q (am_stI 5 L st g 2) := am_E_istore_n (by decide +kernel : am_dc 248 4 = some (.istore_n 2)) rfl rfl
theorem x_248_5   : am_E d 248 Q (5, L, st, g) ↔ am_K d 248 Q (am_ldI 6 L st g 2) := am_E_iload_n (by decide +kernel : am_dc 248 5 = some (.iload_n 2)) rfl rfl
theorem x_248_6   : am_E d 248 Q (6, L, st, g) ↔ am_K d 248 Q (am_ldI 7 L st g 1) := am_E_iload_n (by decide +kernel : am_dc 248 6 = some (.iload_n 1)) rfl rfl
theorem x_248_7  : am_E d 248 Q (7, L, st, g) ↔ am_K d 248 Q (am_S 248 (.invokestatic 245) 7 L st g) := am_E_x (by decide +kernel : am_dc 248 7 = some (.invokestatic 245))
theorem x_248_10   : am_E d 248 Q (10, L, .int y :: .int x :: st, g) ↔ am_E d 248 Q (11, L, .int (x + y) :: st, g) := am_E_iadd (by decide +kernel : am_dc 248 10 = some (.iadd)) rfl
theorem x_248_11   : am_E d 248 Q (11, L, st, g) ↔ am_K d 248 Q (am_stI 12 L st g 3) := am_E_istore_n (by decide +kernel : am_dc 248 11 = some (.istore_n 3)) rfl rfl
theorem x_248_12   : am_E d 248 Q (12, L, st, g) ↔ am_K d 248 Q (am_ldA 13 L st g 0) := am_E_aload_n (by decide +kernel : am_dc 248 12 = some (.aload_n 0)) rfl rfl
theorem x_248_13   : am_E d 248 Q (13, L, st, g) ↔ am_K d 248 Q (am_ldI 14 L st g 3) := am_E_iload_n (by decide +kernel : am_dc 248 13 = some (.iload_n 3)) rfl rfl
theorem x_248_14  : am_E d 248 Q (14, L, st, g) ↔ am_K d 248 Q (am_S 248 (.invokevirtual 100) 14 L st g) := am_E_x (by decide +kernel : am_dc 248 14 = some (.invokevirtual 100))
theorem x_248_17   : am_E d 248 Q (17, L, st, g) ↔ am_K d 248 Q (am_ldA 18 L st g 0) := am_E_aload_n (by decide +kernel : am_dc 248 17 = some (.aload_n 0)) rfl rfl
theorem x_248_18  : am_E d 248 Q (18, L, st, g) ↔ am_K d 248 Q (am_S 248 (.invokevirtual 83) 18 L st g) := am_E_x (by decide +kernel : am_dc 248 18 = some (.invokevirtual 83))
theorem x_248_21   : am_E d 248 Q (21, L, .int x :: st, g) ↔ am_E d 248 Q (am_cmp .eq x 0 37 24, L, st, g) := am_E_if (by decide +kernel : am_dc 248 21 = some (.ifCond .eq (16))) rfl rfl
theorem x_248_24   : am_E d 248 Q (24, L, st, g) ↔ am_K d 248 Q (am_ldI 25 L st g 1) := am_E_iload_n (by decide +kernel : am_dc 248 24 = some (.iload_n 1)) rfl rfl
theorem x_248_25   : am_E d 248 Q (25, L, st, g) ↔ am_K d 248 Q (am_ldI 26 L st g 3) := am_E_iload_n (by decide +kernel : am_dc 248 25 = some (.iload_n 3)) rfl rfl
theorem x_248_26   : am_E d 248 Q (26, L, st, g) ↔ am_K d 248 Q (am_ldA 27 L st g 0) := am_E_aload_n (by decide +kernel : am_dc 248 26 = some (.aload_n 0)) rfl rfl
theorem x_248_27   : am_E d 248 Q (27, L, .ref a :: st, g) ↔ am_kv d 248 Q 30 L st g (am_gf g a 12 0) := am_E_getfield (by decide +kernel : am_dc 248 27 = some (.getfield 15)) (by decide +kernel) rfl
theorem x_248_30  : am_E d 248 Q (30, L, st, g) ↔ am_K d 248 Q (am_S 248 (.invokestatic 248) 30 L st g) := am_E_x (by decide +kernel : am_dc 248 30 = some (.invokestatic 248))
theorem x_248_33   : am_E d 248 Q (33, L, v :: st, g) ↔ if v.category = 1 then am_E d 248 Q (34, L, st, g) else False := am_E_pop (by decide +kernel : am_dc 248 33 = some (.pop)) rfl
theorem x_248_34   : am_E d 248 Q (34, L, st, g) ↔ am_E d 248 Q (48, L, st, g) := am_E_gt (by decide +kernel : am_dc 248 34 = some (.goto (14))) rfl rfl
theorem x_248_37   : am_E d 248 Q (37, L, st, g) ↔ am_K d 248 Q (am_ldI 38 L st g 1) := am_E_iload_n (by decide +kernel : am_dc 248 37 = some (.iload_n 1)) rfl rfl
theorem x_248_38   : am_E d 248 Q (38, L, st, g) ↔ am_K d 248 Q (am_ldI 39 L st g 2) := am_E_iload_n (by decide +kernel : am_dc 248 38 = some (.iload_n 2)) rfl rfl
theorem x_248_39   : am_E d 248 Q (39, L, st, g) ↔ am_K d 248 Q (am_ldI 40 L st g 3) := am_E_iload_n (by decide +kernel : am_dc 248 39 = some (.iload_n 3)) rfl rfl
theorem x_248_40   : am_E d 248 Q (40, L, st, g) ↔ am_K d 248 Q (am_ldA 41 L st g 0) := am_E_aload_n (by decide +kernel : am_dc 248 40 = some (.aload_n 0)) rfl rfl
theorem x_248_41   : am_E d 248 Q (41, L, .ref a :: st, g) ↔ am_kv d 248 Q 44 L st g (am_gf g a 12 0) := am_E_getfield (by decide +kernel : am_dc 248 41 = some (.getfield 15)) (by decide +kernel) rfl
theorem x_248_44  : am_E d 248 Q (44, L, st, g) ↔ am_K d 248 Q (am_S 248 (.invokestatic 251) 44 L st g) := am_E_x (by decide +kernel : am_dc 248 44 = some (.invokestatic 251))
theorem x_248_47   : am_E d 248 Q (47, L, v :: st, g) ↔ if v.category = 1 then am_E d 248 Q (48, L, st, g) else False := am_E_pop (by decide +kernel : am_dc 248 47 = some (.pop)) rfl
theorem x_248_48   : am_E d 248 Q (48, L, st, g) ↔ am_K d 248 Q (am_ldA 49 L st g 0) := am_E_aload_n (by decide +kernel : am_dc 248 48 = some (.aload_n 0)) rfl rfl
theorem x_248_49   : am_E d 248 Q (49, L, st, g) ↔ am_K d 248 Q (am_ldI 50 L st g 3) := am_E_iload_n (by decide +kernel : am_dc 248 49 = some (.iload_n 3)) rfl rfl
theorem x_248_50   (hok : (am_ok (am_ft 12 3).1 v && (!(am_ft 12 3).2 || (am_ini 248 && am_co 12 == am_o 248)) && decide (12 < 13)) = true) : am_E d 248 Q (50, L, v :: .ref a :: st, g) ↔ am_kg d 248 Q 53 L st (am_pf g a 12 3 v) := am_E_putfield (by decide +kernel : am_dc 248 50 = some (.putfield 79)) (by decide +kernel) rfl hok
theorem x_248_53   : am_E d 248 Q (53, L, st, g) ↔ am_K d 248 Q (am_ldA 54 L st g 0) := am_E_aload_n (by decide +kernel : am_dc 248 53 = some (.aload_n 0)) rfl rfl
theorem x_248_54  : am_E d 248 Q (54, L, [.ref a], g) ↔ if am_ok ((FieldType.object "java/lang/AbstractStringBuilder")) (.ref a) = true then Q (.inl (some (.ref a))) g else False := am_E_areturn (by decide +kernel : am_dc 248 54 = some (.areturn)) (by decide +kernel)
theorem f_248_79 : am_fl 248 79 = some (12, 3) := by decide +kernel
theorem v_248_245 : am_iv 248 245 = some (0, 266, 1) := by decide +kernel
theorem v_248_100 : am_iv 248 100 = some (7, 252, 2) := by decide +kernel
theorem v_248_83 : am_iv 248 83 = some (6, 255, 1) := by decide +kernel
theorem f_248_15 : am_fl 248 15 = some (12, 0) := by decide +kernel
theorem v_248_248 : am_iv 248 248 = some (0, 265, 3) := by decide +kernel
theorem v_248_251 : am_iv 248 251 = some (0, 296, 4) := by decide +kernel
theorem t_248 : am_t 248 = some ((FieldType.object "java/lang/AbstractStringBuilder")) := by decide +kernel
theorem h_248 : am_h 248 = [] := by decide +kernel
theorem m_248 : am_m 248 = 4 := by decide +kernel
end AMZ
