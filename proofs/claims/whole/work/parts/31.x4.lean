/-! Rules of the machine, an instruction each. Written by program (wip/gen/genx.py). -/
section AMZ
variable {d : Nat} {Q : am_Ou → am_G → Prop} {L : am_Lo} {st : List Value} {g : am_G} {x y : Int32} {u w : Int64} {e1 : UInt32} {a : Nat} {v v1 : Value}
theorem x_167_0   : am_E d 167 Q (0, L, st, g) ↔ am_K d 167 Q (am_ldA 1 L st g 0) := am_E_aload_n (by decide +kernel : am_dc 167 0 = some (.aload_n 0)) rfl rfl
theorem x_167_1   : am_E d 167 Q (1, L, .ref a :: st, g) ↔ am_kv d 167 Q 4 L st g (am_gf g a 11 47) := am_E_getfield (by decide +kernel : am_dc 167 1 = some (.getfield 315)) (by decide +kernel) rfl
theorem x_167_4   : am_E d 167 Q (4, L, .int x :: st, g) ↔ am_E d 167 Q (am_cmp .le x 0 11 7, L, st, g) := am_E_if (by decide +kernel : am_dc 167 4 = some (.ifCond .le (7))) rfl rfl
theorem x_167_7   : am_E d 167 Q (7, L, st, g) ↔ am_E d 167 Q (8, L, .int (1) :: st, g) := am_E_iconst (by decide +kernel : am_dc 167 7 = some (.iconst (1))) (by decide) rfl
theorem x_167_8   : am_E d 167 Q (8, L, st, g) ↔ am_E d 167 Q (12, L, st, g) := am_E_gt (by decide +kernel : am_dc 167 8 = some (.goto (4))) rfl rfl
theorem x_167_11   : am_E d 167 Q (11, L, st, g) ↔ am_E d 167 Q (12, L, .int (0) :: st, g) := am_E_iconst (by decide +kernel : am_dc 167 11 = some (.iconst (0))) (by decide) rfl
theorem x_167_12   : am_E d 167 Q (12, L, st, g) ↔ am_K d 167 Q (am_stI 13 L st g 1) := am_E_istore_n (by decide +kernel : am_dc 167 12 = some (.istore_n 1)) rfl rfl
theorem x_167_13   : am_E d 167 Q (13, L, st, g) ↔ am_K d 167 Q (am_ldI 14 L st g 1) := am_E_iload_n (by decide +kernel : am_dc 167 13 = some (.iload_n 1)) rfl rfl
theorem x_167_14   : am_E d 167 Q (14, L, .int x :: st, g) ↔ am_E d 167 Q (am_cmp .eq x 0 114 17, L, st, g) := am_E_if (by decide +kernel : am_dc 167 14 = some (.ifCond .eq (100))) rfl rfl
theorem x_167_17   : am_E d 167 Q (17, L, st, g) ↔ am_K d 167 Q (am_ldA 18 L st g 0) := am_E_aload_n (by decide +kernel : am_dc 167 17 = some (.aload_n 0)) rfl rfl
theorem x_167_18   : am_E d 167 Q (18, L, .ref a :: st, g) ↔ am_kv d 167 Q 21 L st g (am_gf g a 11 47) := am_E_getfield (by decide +kernel : am_dc 167 18 = some (.getfield 315)) (by decide +kernel) rfl
theorem x_167_21   : am_E d 167 Q (21, L, st, g) ↔ am_E d 167 Q (22, L, .int (1) :: st, g) := am_E_iconst (by decide +kernel : am_dc 167 21 = some (.iconst (1))) (by decide) rfl
theorem x_167_22   : am_E d 167 Q (22, L, .int y :: .int x :: st, g) ↔ am_E d 167 Q (23, L, .int (x - y) :: st, g) := am_E_isub (by decide +kernel : am_dc 167 22 = some (.isub)) rfl
theorem x_167_23   : am_E d 167 Q (23, L, st, g) ↔ am_K d 167 Q (am_stI 24 L st g 2) := am_E_istore_n (by decide +kernel : am_dc 167 23 = some (.istore_n 2)) rfl rfl
theorem x_167_24   : am_E d 167 Q (24, L, st, g) ↔ am_K d 167 Q (am_ldA 25 L st g 0) := am_E_aload_n (by decide +kernel : am_dc 167 24 = some (.aload_n 0)) rfl rfl
theorem x_167_25   : am_E d 167 Q (25, L, .ref a :: st, g) ↔ am_kv d 167 Q 28 L st g (am_gf g a 11 51) := am_E_getfield (by decide +kernel : am_dc 167 25 = some (.getfield 121)) (by decide +kernel) rfl
theorem x_167_28   : am_E d 167 Q (28, L, st, g) ↔ am_K d 167 Q (am_ldI 29 L st g 2) := am_E_iload_n (by decide +kernel : am_dc 167 28 = some (.iload_n 2)) rfl rfl
theorem x_167_29   : am_E d 167 Q (29, L, .int x :: .ref a :: st, g) ↔ am_kv d 167 Q 30 L st g (am_iat .iaload g a x) := am_E_iaload (by decide +kernel : am_dc 167 29 = some (.iaload)) rfl
theorem x_167_30   : am_E d 167 Q (30, L, .int x :: st, g) ↔ am_E d 167 Q (am_cmp .ge x 0 71 33, L, st, g) := am_E_if (by decide +kernel : am_dc 167 30 = some (.ifCond .ge (41))) rfl rfl
theorem x_167_33   : am_E d 167 Q (33, L, st, g) ↔ am_K d 167 Q (am_ldA 34 L st g 0) := am_E_aload_n (by decide +kernel : am_dc 167 33 = some (.aload_n 0)) rfl rfl
theorem x_167_34   : am_E d 167 Q (34, L, .ref a :: st, g) ↔ am_kv d 167 Q 37 L st g (am_gf g a 11 3) := am_E_getfield (by decide +kernel : am_dc 167 34 = some (.getfield 17)) (by decide +kernel) rfl
theorem x_167_37   : am_E d 167 Q (37, L, st, g) ↔ am_E d 167 Q (39, L, .int (6) :: st, g) := am_E_bipush (by decide +kernel : am_dc 167 37 = some (.bipush (6))) (by decide) rfl
theorem x_167_39   : am_E d 167 Q (39, L, st, g) ↔ am_K d 167 Q (am_ldA 40 L st g 0) := am_E_aload_n (by decide +kernel : am_dc 167 39 = some (.aload_n 0)) rfl rfl
theorem x_167_40   : am_E d 167 Q (40, L, .ref a :: st, g) ↔ am_kv d 167 Q 43 L st g (am_gf g a 11 53) := am_E_getfield (by decide +kernel : am_dc 167 40 = some (.getfield 127)) (by decide +kernel) rfl
theorem x_167_43   : am_E d 167 Q (43, L, st, g) ↔ am_K d 167 Q (am_ldI 44 L st g 2) := am_E_iload_n (by decide +kernel : am_dc 167 43 = some (.iload_n 2)) rfl rfl
theorem x_167_44   : am_E d 167 Q (44, L, .int x :: .ref a :: st, g) ↔ am_kv d 167 Q 45 L st g (am_iat .iaload g a x) := am_E_iaload (by decide +kernel : am_dc 167 44 = some (.iaload)) rfl
theorem x_167_45   : am_E d 167 Q (45, L, .int y :: .int x :: st, g) ↔ am_E d 167 Q (46, L, .int (x * y) :: st, g) := am_E_imul (by decide +kernel : am_dc 167 45 = some (.imul)) rfl
theorem x_167_46   : am_E d 167 Q (46, L, st, g) ↔ am_K d 167 Q (am_ldA 47 L st g 0) := am_E_aload_n (by decide +kernel : am_dc 167 46 = some (.aload_n 0)) rfl rfl
theorem x_167_47   : am_E d 167 Q (47, L, .ref a :: st, g) ↔ am_kv d 167 Q 50 L st g (am_gf g a 11 50) := am_E_getfield (by decide +kernel : am_dc 167 47 = some (.getfield 118)) (by decide +kernel) rfl
theorem x_167_50   : am_E d 167 Q (50, L, st, g) ↔ am_K d 167 Q (am_ldI 51 L st g 2) := am_E_iload_n (by decide +kernel : am_dc 167 50 = some (.iload_n 2)) rfl rfl
theorem x_167_51   : am_E d 167 Q (51, L, .int x :: .ref a :: st, g) ↔ am_kv d 167 Q 52 L st g (am_iat .iaload g a x) := am_E_iaload (by decide +kernel : am_dc 167 51 = some (.iaload)) rfl
theorem x_167_52   : am_E d 167 Q (52, L, st, g) ↔ am_K d 167 Q (am_ldA 53 L st g 0) := am_E_aload_n (by decide +kernel : am_dc 167 52 = some (.aload_n 0)) rfl rfl
theorem x_167_53   : am_E d 167 Q (53, L, .ref a :: st, g) ↔ am_kv d 167 Q 56 L st g (am_gf g a 11 53) := am_E_getfield (by decide +kernel : am_dc 167 53 = some (.getfield 127)) (by decide +kernel) rfl
theorem x_167_56   : am_E d 167 Q (56, L, st, g) ↔ am_K d 167 Q (am_ldI 57 L st g 2) := am_E_iload_n (by decide +kernel : am_dc 167 56 = some (.iload_n 2)) rfl rfl
theorem x_167_57   : am_E d 167 Q (57, L, .int x :: .ref a :: st, g) ↔ am_kv d 167 Q 58 L st g (am_iat .iaload g a x) := am_E_iaload (by decide +kernel : am_dc 167 57 = some (.iaload)) rfl
theorem x_167_58  : am_E d 167 Q (58, L, st, g) ↔ am_K d 167 Q (am_S 167 (.invokestatic 217) 58 L st g) := am_E_x (by decide +kernel : am_dc 167 58 = some (.invokestatic 217))
theorem x_167_61   : am_E d 167 Q (61, L, .int y :: .int x :: st, g) ↔ am_E d 167 Q (62, L, .int (x + y) :: st, g) := am_E_iadd (by decide +kernel : am_dc 167 61 = some (.iadd)) rfl
theorem x_167_62   : am_E d 167 Q (62, L, .int x :: .ref a :: st, g) ↔ am_kv d 167 Q 63 L st g (am_iat .iaload g a x) := am_E_iaload (by decide +kernel : am_dc 167 62 = some (.iaload)) rfl
theorem x_167_63   : am_E d 167 Q (63, L, st, g) ↔ am_E d 167 Q (64, L, .int (2) :: st, g) := am_E_iconst (by decide +kernel : am_dc 167 63 = some (.iconst (2))) (by decide) rfl
theorem x_167_64   : am_E d 167 Q (64, L, .int y :: .int x :: st, g) ↔ am_E d 167 Q (am_cmp .le x y 71 67, L, st, g) := am_E_ic (by decide +kernel : am_dc 167 64 = some (.if_icmp .le (7))) rfl rfl
theorem x_167_67   : am_E d 167 Q (67, L, st, g) ↔ am_E d 167 Q (68, L, .int (1) :: st, g) := am_E_iconst (by decide +kernel : am_dc 167 67 = some (.iconst (1))) (by decide) rfl
theorem x_167_68   : am_E d 167 Q (68, L, st, g) ↔ am_E d 167 Q (72, L, st, g) := am_E_gt (by decide +kernel : am_dc 167 68 = some (.goto (4))) rfl rfl
theorem x_167_71   : am_E d 167 Q (71, L, st, g) ↔ am_E d 167 Q (72, L, .int (0) :: st, g) := am_E_iconst (by decide +kernel : am_dc 167 71 = some (.iconst (0))) (by decide) rfl
theorem x_167_72   : am_E d 167 Q (72, L, st, g) ↔ am_K d 167 Q (am_stI 73 L st g 3) := am_E_istore_n (by decide +kernel : am_dc 167 72 = some (.istore_n 3)) rfl rfl
theorem x_167_73   : am_E d 167 Q (73, L, st, g) ↔ am_K d 167 Q (am_ldA 74 L st g 0) := am_E_aload_n (by decide +kernel : am_dc 167 73 = some (.aload_n 0)) rfl rfl
theorem x_167_74   : am_E d 167 Q (74, L, st, g) ↔ am_K d 167 Q (am_ldI 75 L st g 3) := am_E_iload_n (by decide +kernel : am_dc 167 74 = some (.iload_n 3)) rfl rfl
theorem x_167_75   : am_E d 167 Q (75, L, .int x :: st, g) ↔ am_E d 167 Q (am_cmp .eq x 0 87 78, L, st, g) := am_E_if (by decide +kernel : am_dc 167 75 = some (.ifCond .eq (12))) rfl rfl
theorem x_167_78   : am_E d 167 Q (78, L, st, g) ↔ am_K d 167 Q (am_ldA 79 L st g 0) := am_E_aload_n (by decide +kernel : am_dc 167 78 = some (.aload_n 0)) rfl rfl
theorem x_167_79   : am_E d 167 Q (79, L, .ref a :: st, g) ↔ am_kv d 167 Q 82 L st g (am_gf g a 11 47) := am_E_getfield (by decide +kernel : am_dc 167 79 = some (.getfield 315)) (by decide +kernel) rfl
theorem x_167_82   : am_E d 167 Q (82, L, st, g) ↔ am_E d 167 Q (83, L, .int (1) :: st, g) := am_E_iconst (by decide +kernel : am_dc 167 82 = some (.iconst (1))) (by decide) rfl
theorem x_167_83   : am_E d 167 Q (83, L, .int y :: .int x :: st, g) ↔ am_E d 167 Q (84, L, .int (x - y) :: st, g) := am_E_isub (by decide +kernel : am_dc 167 83 = some (.isub)) rfl
theorem x_167_84   : am_E d 167 Q (84, L, st, g) ↔ am_E d 167 Q (91, L, st, g) := am_E_gt (by decide +kernel : am_dc 167 84 = some (.goto (7))) rfl rfl
theorem x_167_87   : am_E d 167 Q (87, L, st, g) ↔ am_K d 167 Q (am_ldA 88 L st g 0) := am_E_aload_n (by decide +kernel : am_dc 167 87 = some (.aload_n 0)) rfl rfl
theorem x_167_88   : am_E d 167 Q (88, L, .ref a :: st, g) ↔ am_kv d 167 Q 91 L st g (am_gf g a 11 47) := am_E_getfield (by decide +kernel : am_dc 167 88 = some (.getfield 315)) (by decide +kernel) rfl
theorem x_167_91   (hok : (am_ok (am_ft 11 47).1 v && (!(am_ft 11 47).2 || (am_ini 167 && am_co 11 == am_o 167)) && decide (11 < 13)) = true) : am_E d 167 Q (91, L, v :: .ref a :: st, g) ↔ am_kg d 167 Q 94 L st (am_pf g a 11 47 v) := am_E_putfield (by decide +kernel : am_dc 167 91 = some (.putfield 315)) (by decide +kernel) rfl hok
theorem x_167_94   : am_E d 167 Q (94, L, st, g) ↔ am_K d 167 Q (am_ldI 95 L st g 3) := am_E_iload_n (by decide +kernel : am_dc 167 94 = some (.iload_n 3)) rfl rfl
theorem x_167_95   : am_E d 167 Q (95, L, .int x :: st, g) ↔ am_E d 167 Q (am_cmp .eq x 0 109 98, L, st, g) := am_E_if (by decide +kernel : am_dc 167 95 = some (.ifCond .eq (14))) rfl rfl
theorem x_167_98   : am_E d 167 Q (98, L, st, g) ↔ am_K d 167 Q (am_ldA 99 L st g 0) := am_E_aload_n (by decide +kernel : am_dc 167 98 = some (.aload_n 0)) rfl rfl
theorem x_167_99   : am_E d 167 Q (99, L, .ref a :: st, g) ↔ am_kv d 167 Q 102 L st g (am_gf g a 11 47) := am_E_getfield (by decide +kernel : am_dc 167 99 = some (.getfield 315)) (by decide +kernel) rfl
theorem x_167_102   : am_E d 167 Q (102, L, .int x :: st, g) ↔ am_E d 167 Q (am_cmp .le x 0 109 105, L, st, g) := am_E_if (by decide +kernel : am_dc 167 102 = some (.ifCond .le (7))) rfl rfl
theorem x_167_105   : am_E d 167 Q (105, L, st, g) ↔ am_E d 167 Q (106, L, .int (1) :: st, g) := am_E_iconst (by decide +kernel : am_dc 167 105 = some (.iconst (1))) (by decide) rfl
theorem x_167_106   : am_E d 167 Q (106, L, st, g) ↔ am_E d 167 Q (110, L, st, g) := am_E_gt (by decide +kernel : am_dc 167 106 = some (.goto (4))) rfl rfl
theorem x_167_109   : am_E d 167 Q (109, L, st, g) ↔ am_E d 167 Q (110, L, .int (0) :: st, g) := am_E_iconst (by decide +kernel : am_dc 167 109 = some (.iconst (0))) (by decide) rfl
theorem x_167_110   : am_E d 167 Q (110, L, st, g) ↔ am_K d 167 Q (am_stI 111 L st g 1) := am_E_istore_n (by decide +kernel : am_dc 167 110 = some (.istore_n 1)) rfl rfl
theorem x_167_111   : am_E d 167 Q (111, L, st, g) ↔ am_E d 167 Q (13, L, st, g) := am_E_gt (by decide +kernel : am_dc 167 111 = some (.goto (-98))) rfl rfl
theorem x_167_114   : am_E d 167 Q (114, L, st, g) ↔ am_K d 167 Q (am_ldA 115 L st g 0) := am_E_aload_n (by decide +kernel : am_dc 167 114 = some (.aload_n 0)) rfl rfl
theorem x_167_115   : am_E d 167 Q (115, L, .ref a :: st, g) ↔ am_kv d 167 Q 118 L st g (am_gf g a 11 47) := am_E_getfield (by decide +kernel : am_dc 167 115 = some (.getfield 315)) (by decide +kernel) rfl
theorem x_167_118   : am_E d 167 Q (118, L, .int x :: st, g) ↔ am_E d 167 Q (am_cmp .le x 0 217 121, L, st, g) := am_E_if (by decide +kernel : am_dc 167 118 = some (.ifCond .le (99))) rfl rfl
theorem x_167_121   : am_E d 167 Q (121, L, st, g) ↔ am_K d 167 Q (am_ldA 122 L st g 0) := am_E_aload_n (by decide +kernel : am_dc 167 121 = some (.aload_n 0)) rfl rfl
theorem x_167_122   : am_E d 167 Q (122, L, .ref a :: st, g) ↔ am_kv d 167 Q 125 L st g (am_gf g a 11 47) := am_E_getfield (by decide +kernel : am_dc 167 122 = some (.getfield 315)) (by decide +kernel) rfl
theorem x_167_125   : am_E d 167 Q (125, L, st, g) ↔ am_E d 167 Q (126, L, .int (1) :: st, g) := am_E_iconst (by decide +kernel : am_dc 167 125 = some (.iconst (1))) (by decide) rfl
theorem x_167_126   : am_E d 167 Q (126, L, .int y :: .int x :: st, g) ↔ am_E d 167 Q (127, L, .int (x - y) :: st, g) := am_E_isub (by decide +kernel : am_dc 167 126 = some (.isub)) rfl
theorem x_167_127   : am_E d 167 Q (127, L, st, g) ↔ am_K d 167 Q (am_stI 128 L st g 2) := am_E_istore_n (by decide +kernel : am_dc 167 127 = some (.istore_n 2)) rfl rfl
theorem x_167_128   : am_E d 167 Q (128, L, st, g) ↔ am_K d 167 Q (am_ldA 129 L st g 0) := am_E_aload_n (by decide +kernel : am_dc 167 128 = some (.aload_n 0)) rfl rfl
theorem x_167_129   : am_E d 167 Q (129, L, .ref a :: st, g) ↔ am_kv d 167 Q 132 L st g (am_gf g a 11 53) := am_E_getfield (by decide +kernel : am_dc 167 129 = some (.getfield 127)) (by decide +kernel) rfl
theorem x_167_132   : am_E d 167 Q (132, L, st, g) ↔ am_K d 167 Q (am_ldI 133 L st g 2) := am_E_iload_n (by decide +kernel : am_dc 167 132 = some (.iload_n 2)) rfl rfl
theorem x_167_133   : am_E d 167 Q (133, L, .int x :: .ref a :: st, g) ↔ am_kv d 167 Q 134 L st g (am_iat .iaload g a x) := am_E_iaload (by decide +kernel : am_dc 167 133 = some (.iaload)) rfl
theorem x_167_134   : am_E d 167 Q (134, L, .int x :: st, g) ↔ am_E d 167 Q (am_cmp .ge x 0 152 137, L, st, g) := am_E_if (by decide +kernel : am_dc 167 134 = some (.ifCond .ge (18))) rfl rfl
theorem x_167_137   : am_E d 167 Q (137, L, st, g) ↔ am_K d 167 Q (am_ldA 138 L st g 0) := am_E_aload_n (by decide +kernel : am_dc 167 137 = some (.aload_n 0)) rfl rfl
theorem x_167_138   : am_E d 167 Q (138, L, st, g) ↔ am_K d 167 Q (am_ldA 139 L st g 0) := am_E_aload_n (by decide +kernel : am_dc 167 138 = some (.aload_n 0)) rfl rfl
theorem x_167_139   : am_E d 167 Q (139, L, .ref a :: st, g) ↔ am_kv d 167 Q 142 L st g (am_gf g a 11 62) := am_E_getfield (by decide +kernel : am_dc 167 139 = some (.getfield 305)) (by decide +kernel) rfl
theorem x_167_142   : am_E d 167 Q (142, L, st, g) ↔ am_K d 167 Q (am_ldA 143 L st g 0) := am_E_aload_n (by decide +kernel : am_dc 167 142 = some (.aload_n 0)) rfl rfl
theorem x_167_143   : am_E d 167 Q (143, L, .ref a :: st, g) ↔ am_kv d 167 Q 146 L st g (am_gf g a 11 63) := am_E_getfield (by decide +kernel : am_dc 167 143 = some (.getfield 308)) (by decide +kernel) rfl
theorem x_167_146  : am_E d 167 Q (146, L, st, g) ↔ am_K d 167 Q (am_S 167 (.invokevirtual 356) 146 L st g) := am_E_x (by decide +kernel : am_dc 167 146 = some (.invokevirtual 356))
theorem x_167_149   : am_E d 167 Q (149, L, st, g) ↔ am_E d 167 Q (217, L, st, g) := am_E_gt (by decide +kernel : am_dc 167 149 = some (.goto (68))) rfl rfl
theorem x_167_152   : am_E d 167 Q (152, L, st, g) ↔ am_K d 167 Q (am_ldA 153 L st g 0) := am_E_aload_n (by decide +kernel : am_dc 167 152 = some (.aload_n 0)) rfl rfl
theorem x_167_153   : am_E d 167 Q (153, L, .ref a :: st, g) ↔ am_kv d 167 Q 156 L st g (am_gf g a 11 56) := am_E_getfield (by decide +kernel : am_dc 167 153 = some (.getfield 136)) (by decide +kernel) rfl
theorem x_167_156   : am_E d 167 Q (156, L, st, g) ↔ am_K d 167 Q (am_ldI 157 L st g 2) := am_E_iload_n (by decide +kernel : am_dc 167 156 = some (.iload_n 2)) rfl rfl
theorem x_167_157   : am_E d 167 Q (157, L, st, g) ↔ am_K d 167 Q (am_ldA 158 L st g 0) := am_E_aload_n (by decide +kernel : am_dc 167 157 = some (.aload_n 0)) rfl rfl
theorem x_167_158   : am_E d 167 Q (158, L, .ref a :: st, g) ↔ am_kv d 167 Q 161 L st g (am_gf g a 11 56) := am_E_getfield (by decide +kernel : am_dc 167 158 = some (.getfield 136)) (by decide +kernel) rfl
theorem x_167_161   : am_E d 167 Q (161, L, st, g) ↔ am_K d 167 Q (am_ldI 162 L st g 2) := am_E_iload_n (by decide +kernel : am_dc 167 161 = some (.iload_n 2)) rfl rfl
theorem x_167_162   : am_E d 167 Q (162, L, .int x :: .ref a :: st, g) ↔ am_kv d 167 Q 163 L st g (am_iat .laload g a x) := am_E_laload (by decide +kernel : am_dc 167 162 = some (.laload)) rfl
theorem x_167_163   : am_E d 167 Q (163, L, st, g) ↔ am_K d 167 Q (am_ldA 164 L st g 0) := am_E_aload_n (by decide +kernel : am_dc 167 163 = some (.aload_n 0)) rfl rfl
theorem x_167_164   : am_E d 167 Q (164, L, .ref a :: st, g) ↔ am_kv d 167 Q 167 L st g (am_gf g a 11 63) := am_E_getfield (by decide +kernel : am_dc 167 164 = some (.getfield 308)) (by decide +kernel) rfl
theorem x_167_167   : am_E d 167 Q (167, L, .long w :: .long u :: st, g) ↔ am_E d 167 Q (168, L, .long (u + w) :: st, g) := am_E_ladd (by decide +kernel : am_dc 167 167 = some (.ladd)) rfl
theorem x_167_168   : am_E d 167 Q (168, L, v :: .int x :: .ref a :: st, g) ↔ am_kg d 167 Q 169 L st (am_sat .lastore g a x v) := am_E_lastore (by decide +kernel : am_dc 167 168 = some (.lastore)) rfl
theorem x_167_169   : am_E d 167 Q (169, L, st, g) ↔ am_K d 167 Q (am_ldA 170 L st g 0) := am_E_aload_n (by decide +kernel : am_dc 167 169 = some (.aload_n 0)) rfl rfl
theorem x_167_170   : am_E d 167 Q (170, L, .ref a :: st, g) ↔ am_kv d 167 Q 173 L st g (am_gf g a 11 57) := am_E_getfield (by decide +kernel : am_dc 167 170 = some (.getfield 140)) (by decide +kernel) rfl
theorem x_167_173   : am_E d 167 Q (173, L, st, g) ↔ am_K d 167 Q (am_ldI 174 L st g 2) := am_E_iload_n (by decide +kernel : am_dc 167 173 = some (.iload_n 2)) rfl rfl
theorem x_167_174   : am_E d 167 Q (174, L, st, g) ↔ am_K d 167 Q (am_ldA 175 L st g 0) := am_E_aload_n (by decide +kernel : am_dc 167 174 = some (.aload_n 0)) rfl rfl
theorem x_167_175   : am_E d 167 Q (175, L, .ref a :: st, g) ↔ am_kv d 167 Q 178 L st g (am_gf g a 11 62) := am_E_getfield (by decide +kernel : am_dc 167 175 = some (.getfield 305)) (by decide +kernel) rfl
theorem x_167_178  : am_E d 167 Q (178, L, st, g) ↔ am_K d 167 Q (am_S 167 (.invokestatic 359) 178 L st g) := am_E_x (by decide +kernel : am_dc 167 178 = some (.invokestatic 359))
theorem x_167_181   : am_E d 167 Q (181, L, st, g) ↔ am_K d 167 Q (am_ldA 182 L st g 0) := am_E_aload_n (by decide +kernel : am_dc 167 181 = some (.aload_n 0)) rfl rfl
theorem x_167_182   : am_E d 167 Q (182, L, .ref a :: st, g) ↔ am_kv d 167 Q 185 L st g (am_gf g a 11 57) := am_E_getfield (by decide +kernel : am_dc 167 182 = some (.getfield 140)) (by decide +kernel) rfl
theorem x_167_185   : am_E d 167 Q (185, L, st, g) ↔ am_K d 167 Q (am_ldI 186 L st g 2) := am_E_iload_n (by decide +kernel : am_dc 167 185 = some (.iload_n 2)) rfl rfl
theorem x_167_186   : am_E d 167 Q (186, L, .int x :: .ref a :: st, g) ↔ am_kv d 167 Q 187 L st g (am_iat .iaload g a x) := am_E_iaload (by decide +kernel : am_dc 167 186 = some (.iaload)) rfl
theorem x_167_187   : am_E d 167 Q (187, L, .int y :: .int x :: st, g) ↔ am_E d 167 Q (am_cmp .le x y 200 190, L, st, g) := am_E_ic (by decide +kernel : am_dc 167 187 = some (.if_icmp .le (13))) rfl rfl
theorem x_167_190   : am_E d 167 Q (190, L, st, g) ↔ am_K d 167 Q (am_ldA 191 L st g 0) := am_E_aload_n (by decide +kernel : am_dc 167 190 = some (.aload_n 0)) rfl rfl
theorem x_167_191   : am_E d 167 Q (191, L, .ref a :: st, g) ↔ am_kv d 167 Q 194 L st g (am_gf g a 11 62) := am_E_getfield (by decide +kernel : am_dc 167 191 = some (.getfield 305)) (by decide +kernel) rfl
theorem x_167_194  : am_E d 167 Q (194, L, st, g) ↔ am_K d 167 Q (am_S 167 (.invokestatic 359) 194 L st g) := am_E_x (by decide +kernel : am_dc 167 194 = some (.invokestatic 359))
theorem x_167_197   : am_E d 167 Q (197, L, st, g) ↔ am_E d 167 Q (206, L, st, g) := am_E_gt (by decide +kernel : am_dc 167 197 = some (.goto (9))) rfl rfl
theorem x_167_200   : am_E d 167 Q (200, L, st, g) ↔ am_K d 167 Q (am_ldA 201 L st g 0) := am_E_aload_n (by decide +kernel : am_dc 167 200 = some (.aload_n 0)) rfl rfl
theorem x_167_201   : am_E d 167 Q (201, L, .ref a :: st, g) ↔ am_kv d 167 Q 204 L st g (am_gf g a 11 57) := am_E_getfield (by decide +kernel : am_dc 167 201 = some (.getfield 140)) (by decide +kernel) rfl
theorem x_167_204   : am_E d 167 Q (204, L, st, g) ↔ am_K d 167 Q (am_ldI 205 L st g 2) := am_E_iload_n (by decide +kernel : am_dc 167 204 = some (.iload_n 2)) rfl rfl
theorem x_167_205   : am_E d 167 Q (205, L, .int x :: .ref a :: st, g) ↔ am_kv d 167 Q 206 L st g (am_iat .iaload g a x) := am_E_iaload (by decide +kernel : am_dc 167 205 = some (.iaload)) rfl
theorem x_167_206   : am_E d 167 Q (206, L, v :: .int x :: .ref a :: st, g) ↔ am_kg d 167 Q 207 L st (am_sat .iastore g a x v) := am_E_iastore (by decide +kernel : am_dc 167 206 = some (.iastore)) rfl
theorem x_167_207   : am_E d 167 Q (207, L, st, g) ↔ am_K d 167 Q (am_ldA 208 L st g 0) := am_E_aload_n (by decide +kernel : am_dc 167 207 = some (.aload_n 0)) rfl rfl
theorem x_167_208   : am_E d 167 Q (208, L, .ref a :: st, g) ↔ am_kv d 167 Q 211 L st g (am_gf g a 11 58) := am_E_getfield (by decide +kernel : am_dc 167 208 = some (.getfield 143)) (by decide +kernel) rfl
theorem x_167_211   : am_E d 167 Q (211, L, st, g) ↔ am_K d 167 Q (am_ldI 212 L st g 2) := am_E_iload_n (by decide +kernel : am_dc 167 211 = some (.iload_n 2)) rfl rfl
theorem x_167_212   : am_E d 167 Q (212, L, v :: v1 :: st, g) ↔ if v.category = 1 ∧ v1.category = 1 then am_E d 167 Q (213, L, v :: v1 :: v :: v1 :: st, g) else False := am_E_dup2 (by decide +kernel : am_dc 167 212 = some (.dup2)) rfl
theorem x_167_213   : am_E d 167 Q (213, L, .int x :: .ref a :: st, g) ↔ am_kv d 167 Q 214 L st g (am_iat .iaload g a x) := am_E_iaload (by decide +kernel : am_dc 167 213 = some (.iaload)) rfl
theorem x_167_214   : am_E d 167 Q (214, L, st, g) ↔ am_E d 167 Q (215, L, .int (1) :: st, g) := am_E_iconst (by decide +kernel : am_dc 167 214 = some (.iconst (1))) (by decide) rfl
theorem x_167_215   : am_E d 167 Q (215, L, .int y :: .int x :: st, g) ↔ am_E d 167 Q (216, L, .int (x + y) :: st, g) := am_E_iadd (by decide +kernel : am_dc 167 215 = some (.iadd)) rfl
theorem x_167_216   : am_E d 167 Q (216, L, v :: .int x :: .ref a :: st, g) ↔ am_kg d 167 Q 217 L st (am_sat .iastore g a x v) := am_E_iastore (by decide +kernel : am_dc 167 216 = some (.iastore)) rfl
theorem x_167_217  : am_E d 167 Q (217, L, [], g) ↔ Q (.inl none) g := am_E_return (by decide +kernel : am_dc 167 217 = some (.return_)) (by decide +kernel)
theorem f_167_315 : am_fl 167 315 = some (11, 47) := by decide +kernel
theorem f_167_121 : am_fl 167 121 = some (11, 51) := by decide +kernel
theorem f_167_17 : am_fl 167 17 = some (11, 3) := by decide +kernel
theorem f_167_127 : am_fl 167 127 = some (11, 53) := by decide +kernel
theorem f_167_118 : am_fl 167 118 = some (11, 50) := by decide +kernel
theorem v_167_217 : am_iv 167 217 = some (0, 213, 2) := by decide +kernel
theorem f_167_305 : am_fl 167 305 = some (11, 62) := by decide +kernel
theorem f_167_308 : am_fl 167 308 = some (11, 63) := by decide +kernel
theorem v_167_356 : am_iv 167 356 = some (1, 217, 3) := by decide +kernel
theorem f_167_136 : am_fl 167 136 = some (11, 56) := by decide +kernel
theorem f_167_140 : am_fl 167 140 = some (11, 57) := by decide +kernel
theorem v_167_359 : am_iv 167 359 = some (0, 241, 1) := by decide +kernel
theorem f_167_143 : am_fl 167 143 = some (11, 58) := by decide +kernel
theorem t_167 : am_t 167 = none := by decide +kernel
theorem h_167 : am_h 167 = [] := by decide +kernel
theorem m_167 : am_m 167 = 4 := by decide +kernel
theorem x_168_0   : am_E d 168 Q (0, L, st, g) ↔ am_E d 168 Q (1, L, .int (0) :: st, g) := am_E_iconst (by decide +kernel : am_dc 168 0 = some (.iconst (0))) (by decide) rfl
theorem x_168_1   : am_E d 168 Q (1, L, st, g) ↔ am_K d 168 Q (am_stI 2 L st g 3) := am_E_istore_n (by decide +kernel : am_dc 168 1 = some (.istore_n 3)) rfl rfl
theorem x_168_2   : am_E d 168 Q (2, L, st, g) ↔ am_K d 168 Q (am_ldI 3 L st g 2) := am_E_iload_n (by decide +kernel : am_dc 168 2 = some (.iload_n 2)) rfl rfl
theorem x_168_3   : am_E d 168 Q (3, L, st, g) ↔ am_K d 168 Q (am_stI 5 L st g 4) := am_E_istore (by decide +kernel : am_dc 168 3 = some (.istore 4)) rfl
theorem x_168_5   : am_E d 168 Q (5, L, st, g) ↔ am_E d 168 Q (6, L, .int (0) :: st, g) := am_E_iconst (by decide +kernel : am_dc 168 5 = some (.iconst (0))) (by decide) rfl
theorem x_168_6   : am_E d 168 Q (6, L, st, g) ↔ am_K d 168 Q (am_stI 8 L st g 5) := am_E_istore (by decide +kernel : am_dc 168 6 = some (.istore 5)) rfl
theorem x_168_8   : am_E d 168 Q (8, L, st, g) ↔ am_K d 168 Q (am_ldI 10 L st g 5) := am_E_iload (by decide +kernel : am_dc 168 8 = some (.iload 5)) rfl
theorem x_168_10   : am_E d 168 Q (10, L, st, g) ↔ am_E d 168 Q (12, L, .int (6) :: st, g) := am_E_bipush (by decide +kernel : am_dc 168 10 = some (.bipush (6))) (by decide) rfl
theorem x_168_12   : am_E d 168 Q (12, L, .int y :: .int x :: st, g) ↔ am_E d 168 Q (am_cmp .ge x y 53 15, L, st, g) := am_E_ic (by decide +kernel : am_dc 168 12 = some (.if_icmp .ge (41))) rfl rfl
theorem x_168_15   : am_E d 168 Q (15, L, st, g) ↔ am_K d 168 Q (am_ldA 16 L st g 0) := am_E_aload_n (by decide +kernel : am_dc 168 15 = some (.aload_n 0)) rfl rfl
theorem x_168_16   : am_E d 168 Q (16, L, .ref a :: st, g) ↔ am_kv d 168 Q 19 L st g (am_gf g a 11 2) := am_E_getfield (by decide +kernel : am_dc 168 16 = some (.getfield 13)) (by decide +kernel) rfl
theorem x_168_19   : am_E d 168 Q (19, L, st, g) ↔ am_E d 168 Q (21, L, .int (6) :: st, g) := am_E_bipush (by decide +kernel : am_dc 168 19 = some (.bipush (6))) (by decide) rfl
theorem x_168_21   : am_E d 168 Q (21, L, st, g) ↔ am_K d 168 Q (am_ldI 22 L st g 1) := am_E_iload_n (by decide +kernel : am_dc 168 21 = some (.iload_n 1)) rfl rfl
theorem x_168_22   : am_E d 168 Q (22, L, .int y :: .int x :: st, g) ↔ am_E d 168 Q (23, L, .int (x * y) :: st, g) := am_E_imul (by decide +kernel : am_dc 168 22 = some (.imul)) rfl
theorem x_168_23   : am_E d 168 Q (23, L, st, g) ↔ am_K d 168 Q (am_ldI 25 L st g 4) := am_E_iload (by decide +kernel : am_dc 168 23 = some (.iload 4)) rfl
theorem x_168_25   : am_E d 168 Q (25, L, .int y :: .int x :: st, g) ↔ am_E d 168 Q (26, L, .int (x + y) :: st, g) := am_E_iadd (by decide +kernel : am_dc 168 25 = some (.iadd)) rfl
theorem x_168_26   : am_E d 168 Q (26, L, .int x :: .ref a :: st, g) ↔ am_kv d 168 Q 27 L st g (am_iat .iaload g a x) := am_E_iaload (by decide +kernel : am_dc 168 26 = some (.iaload)) rfl
theorem x_168_27   : am_E d 168 Q (27, L, .int x :: st, g) ↔ am_E d 168 Q (am_cmp .lt x 0 53 30, L, st, g) := am_E_if (by decide +kernel : am_dc 168 27 = some (.ifCond .lt (26))) rfl rfl
theorem x_168_30   : am_E d 168 Q (30, L, st, g) ↔ am_K d 168 Q (am_ldA 31 L st g 0) := am_E_aload_n (by decide +kernel : am_dc 168 30 = some (.aload_n 0)) rfl rfl
theorem x_168_31   : am_E d 168 Q (31, L, .ref a :: st, g) ↔ am_kv d 168 Q 34 L st g (am_gf g a 11 2) := am_E_getfield (by decide +kernel : am_dc 168 31 = some (.getfield 13)) (by decide +kernel) rfl
theorem x_168_34   : am_E d 168 Q (34, L, st, g) ↔ am_E d 168 Q (36, L, .int (6) :: st, g) := am_E_bipush (by decide +kernel : am_dc 168 34 = some (.bipush (6))) (by decide) rfl
theorem x_168_36   : am_E d 168 Q (36, L, st, g) ↔ am_K d 168 Q (am_ldI 37 L st g 1) := am_E_iload_n (by decide +kernel : am_dc 168 36 = some (.iload_n 1)) rfl rfl
theorem x_168_37   : am_E d 168 Q (37, L, .int y :: .int x :: st, g) ↔ am_E d 168 Q (38, L, .int (x * y) :: st, g) := am_E_imul (by decide +kernel : am_dc 168 37 = some (.imul)) rfl
theorem x_168_38   : am_E d 168 Q (38, L, st, g) ↔ am_K d 168 Q (am_ldI 40 L st g 4) := am_E_iload (by decide +kernel : am_dc 168 38 = some (.iload 4)) rfl
theorem x_168_40   : am_E d 168 Q (40, L, .int y :: .int x :: st, g) ↔ am_E d 168 Q (41, L, .int (x + y) :: st, g) := am_E_iadd (by decide +kernel : am_dc 168 40 = some (.iadd)) rfl
theorem x_168_41   : am_E d 168 Q (41, L, .int x :: .ref a :: st, g) ↔ am_kv d 168 Q 42 L st g (am_iat .iaload g a x) := am_E_iaload (by decide +kernel : am_dc 168 41 = some (.iaload)) rfl
theorem x_168_42   : am_E d 168 Q (42, L, st, g) ↔ am_K d 168 Q (am_stI 44 L st g 4) := am_E_istore (by decide +kernel : am_dc 168 42 = some (.istore 4)) rfl
theorem x_168_44   (hk : L.getD 3 none = some (.int x)) (hl : 3 < L.length) : am_E d 168 Q (44, L, st, g) ↔ am_E d 168 Q (47, am_s1 L 3 (.int (x + (1))), st, g) := am_E_iinc (by decide +kernel : am_dc 168 44 = some (.iinc 3 (1))) (by decide) rfl hk hl
theorem x_168_47   (hk : L.getD 5 none = some (.int x)) (hl : 5 < L.length) : am_E d 168 Q (47, L, st, g) ↔ am_E d 168 Q (50, am_s1 L 5 (.int (x + (1))), st, g) := am_E_iinc (by decide +kernel : am_dc 168 47 = some (.iinc 5 (1))) (by decide) rfl hk hl
theorem x_168_50   : am_E d 168 Q (50, L, st, g) ↔ am_E d 168 Q (8, L, st, g) := am_E_gt (by decide +kernel : am_dc 168 50 = some (.goto (-42))) rfl rfl
theorem x_168_53   : am_E d 168 Q (53, L, st, g) ↔ am_K d 168 Q (am_ldI 54 L st g 3) := am_E_iload_n (by decide +kernel : am_dc 168 53 = some (.iload_n 3)) rfl rfl
theorem x_168_54  : am_E d 168 Q (54, L, [.int x], g) ↔ if am_ok (FieldType.int) (.int x) = true then Q (.inl (some (.int x))) g else False := am_E_ireturn (by decide +kernel : am_dc 168 54 = some (.ireturn)) (by decide +kernel)
theorem f_168_13 : am_fl 168 13 = some (11, 2) := by decide +kernel
theorem t_168 : am_t 168 = some (FieldType.int) := by decide +kernel
theorem h_168 : am_h 168 = [] := by decide +kernel
theorem m_168 : am_m 168 = 6 := by decide +kernel
theorem x_169_0   : am_E d 169 Q (0, L, st, g) ↔ am_K d 169 Q (am_ldA 1 L st g 0) := am_E_aload_n (by decide +kernel : am_dc 169 0 = some (.aload_n 0)) rfl rfl
theorem x_169_1   : am_E d 169 Q (1, L, st, g) ↔ am_K d 169 Q (am_ldI 2 L st g 1) := am_E_iload_n (by decide +kernel : am_dc 169 1 = some (.iload_n 1)) rfl rfl
theorem x_169_2   : am_E d 169 Q (2, L, st, g) ↔ am_K d 169 Q (am_ldI 3 L st g 2) := am_E_iload_n (by decide +kernel : am_dc 169 2 = some (.iload_n 2)) rfl rfl
theorem x_169_3  : am_E d 169 Q (3, L, st, g) ↔ am_K d 169 Q (am_S 169 (.invokevirtual 189) 3 L st g) := am_E_x (by decide +kernel : am_dc 169 3 = some (.invokevirtual 189))
theorem x_169_6   : am_E d 169 Q (6, L, st, g) ↔ am_K d 169 Q (am_stI 7 L st g 3) := am_E_istore_n (by decide +kernel : am_dc 169 6 = some (.istore_n 3)) rfl rfl
theorem x_169_7   : am_E d 169 Q (7, L, st, g) ↔ am_K d 169 Q (am_ldA 8 L st g 0) := am_E_aload_n (by decide +kernel : am_dc 169 7 = some (.aload_n 0)) rfl rfl
theorem x_169_8   : am_E d 169 Q (8, L, st, g) ↔ am_K d 169 Q (am_ldI 9 L st g 3) := am_E_iload_n (by decide +kernel : am_dc 169 8 = some (.iload_n 3)) rfl rfl
theorem x_169_9   : am_E d 169 Q (9, L, st, g) ↔ am_K d 169 Q (am_ldI 10 L st g 3) := am_E_iload_n (by decide +kernel : am_dc 169 9 = some (.iload_n 3)) rfl rfl
theorem x_169_10   : am_E d 169 Q (10, L, .int x :: st, g) ↔ am_E d 169 Q (am_cmp .eq x 0 31 13, L, st, g) := am_E_if (by decide +kernel : am_dc 169 10 = some (.ifCond .eq (21))) rfl rfl
theorem x_169_13   : am_E d 169 Q (13, L, st, g) ↔ am_K d 169 Q (am_ldA 14 L st g 0) := am_E_aload_n (by decide +kernel : am_dc 169 13 = some (.aload_n 0)) rfl rfl
theorem x_169_14   : am_E d 169 Q (14, L, st, g) ↔ am_K d 169 Q (am_ldI 15 L st g 1) := am_E_iload_n (by decide +kernel : am_dc 169 14 = some (.iload_n 1)) rfl rfl
theorem x_169_15   : am_E d 169 Q (15, L, st, g) ↔ am_K d 169 Q (am_ldI 16 L st g 2) := am_E_iload_n (by decide +kernel : am_dc 169 15 = some (.iload_n 2)) rfl rfl
theorem x_169_16  : am_E d 169 Q (16, L, st, g) ↔ am_K d 169 Q (am_S 169 (.invokevirtual 179) 16 L st g) := am_E_x (by decide +kernel : am_dc 169 16 = some (.invokevirtual 179))
theorem x_169_19   : am_E d 169 Q (19, L, .int x :: st, g) ↔ am_E d 169 Q (am_cmp .eq x 0 35 22, L, st, g) := am_E_if (by decide +kernel : am_dc 169 19 = some (.ifCond .eq (16))) rfl rfl
theorem x_169_22   : am_E d 169 Q (22, L, st, g) ↔ am_K d 169 Q (am_ldA 23 L st g 0) := am_E_aload_n (by decide +kernel : am_dc 169 22 = some (.aload_n 0)) rfl rfl
theorem x_169_23   : am_E d 169 Q (23, L, st, g) ↔ am_K d 169 Q (am_ldI 24 L st g 1) := am_E_iload_n (by decide +kernel : am_dc 169 23 = some (.iload_n 1)) rfl rfl
theorem x_169_24   : am_E d 169 Q (24, L, st, g) ↔ am_K d 169 Q (am_ldI 25 L st g 2) := am_E_iload_n (by decide +kernel : am_dc 169 24 = some (.iload_n 2)) rfl rfl
theorem x_169_25  : am_E d 169 Q (25, L, st, g) ↔ am_K d 169 Q (am_S 169 (.invokevirtual 214) 25 L st g) := am_E_x (by decide +kernel : am_dc 169 25 = some (.invokevirtual 214))
theorem x_169_28   : am_E d 169 Q (28, L, .int x :: st, g) ↔ am_E d 169 Q (am_cmp .ne x 0 35 31, L, st, g) := am_E_if (by decide +kernel : am_dc 169 28 = some (.ifCond .ne (7))) rfl rfl
theorem x_169_31   : am_E d 169 Q (31, L, st, g) ↔ am_E d 169 Q (32, L, .int (1) :: st, g) := am_E_iconst (by decide +kernel : am_dc 169 31 = some (.iconst (1))) (by decide) rfl
theorem x_169_32   : am_E d 169 Q (32, L, st, g) ↔ am_E d 169 Q (36, L, st, g) := am_E_gt (by decide +kernel : am_dc 169 32 = some (.goto (4))) rfl rfl
theorem x_169_35   : am_E d 169 Q (35, L, st, g) ↔ am_E d 169 Q (36, L, .int (0) :: st, g) := am_E_iconst (by decide +kernel : am_dc 169 35 = some (.iconst (0))) (by decide) rfl
theorem x_169_36   : am_E d 169 Q (36, L, st, g) ↔ am_E d 169 Q (37, L, .int (1) :: st, g) := am_E_iconst (by decide +kernel : am_dc 169 36 = some (.iconst (1))) (by decide) rfl
theorem x_169_37  : am_E d 169 Q (37, L, st, g) ↔ am_K d 169 Q (am_S 169 (.invokevirtual 196) 37 L st g) := am_E_x (by decide +kernel : am_dc 169 37 = some (.invokevirtual 196))
theorem x_169_40   : am_E d 169 Q (40, L, .int x :: st, g) ↔ am_E d 169 Q (am_cmp .ne x 0 45 43, L, st, g) := am_E_if (by decide +kernel : am_dc 169 40 = some (.ifCond .ne (5))) rfl rfl
theorem x_169_43   : am_E d 169 Q (43, L, st, g) ↔ am_E d 169 Q (44, L, .int (0) :: st, g) := am_E_iconst (by decide +kernel : am_dc 169 43 = some (.iconst (0))) (by decide) rfl
theorem x_169_44  : am_E d 169 Q (44, L, [.int x], g) ↔ if am_ok (FieldType.int) (.int x) = true then Q (.inl (some (.int x))) g else False := am_E_ireturn (by decide +kernel : am_dc 169 44 = some (.ireturn)) (by decide +kernel)
theorem x_169_45   : am_E d 169 Q (45, L, st, g) ↔ am_E d 169 Q (46, L, .int (0) :: st, g) := am_E_iconst (by decide +kernel : am_dc 169 45 = some (.iconst (0))) (by decide) rfl
theorem x_169_46   : am_E d 169 Q (46, L, st, g) ↔ am_K d 169 Q (am_stI 48 L st g 4) := am_E_istore (by decide +kernel : am_dc 169 46 = some (.istore 4)) rfl
theorem x_169_48   : am_E d 169 Q (48, L, st, g) ↔ am_E d 169 Q (49, L, .int (0) :: st, g) := am_E_iconst (by decide +kernel : am_dc 169 48 = some (.iconst (0))) (by decide) rfl
theorem x_169_49   : am_E d 169 Q (49, L, st, g) ↔ am_K d 169 Q (am_stI 51 L st g 5) := am_E_istore (by decide +kernel : am_dc 169 49 = some (.istore 5)) rfl
theorem x_169_51   : am_E d 169 Q (51, L, st, g) ↔ am_K d 169 Q (am_ldI 53 L st g 5) := am_E_iload (by decide +kernel : am_dc 169 51 = some (.iload 5)) rfl
theorem x_169_53   : am_E d 169 Q (53, L, st, g) ↔ am_E d 169 Q (56, L, .int (648) :: st, g) := am_E_sipush (by decide +kernel : am_dc 169 53 = some (.sipush (648))) (by decide) rfl
theorem x_169_56   : am_E d 169 Q (56, L, .int y :: .int x :: st, g) ↔ am_E d 169 Q (am_cmp .ge x y 100 59, L, st, g) := am_E_ic (by decide +kernel : am_dc 169 56 = some (.if_icmp .ge (44))) rfl rfl
theorem x_169_59   : am_E d 169 Q (59, L, st, g) ↔ am_K d 169 Q (am_ldA 60 L st g 0) := am_E_aload_n (by decide +kernel : am_dc 169 59 = some (.aload_n 0)) rfl rfl
theorem x_169_60   : am_E d 169 Q (60, L, .ref a :: st, g) ↔ am_kv d 169 Q 63 L st g (am_gf g a 11 9) := am_E_getfield (by decide +kernel : am_dc 169 60 = some (.getfield 36)) (by decide +kernel) rfl
theorem x_169_63   : am_E d 169 Q (63, L, st, g) ↔ am_K d 169 Q (am_ldI 65 L st g 5) := am_E_iload (by decide +kernel : am_dc 169 63 = some (.iload 5)) rfl
theorem x_169_65   : am_E d 169 Q (65, L, .int x :: .ref a :: st, g) ↔ am_kv d 169 Q 66 L st g (am_iat .baload g a x) := am_E_baload (by decide +kernel : am_dc 169 65 = some (.baload)) rfl
theorem x_169_66   : am_E d 169 Q (66, L, .int x :: st, g) ↔ am_E d 169 Q (am_cmp .eq x 0 94 69, L, st, g) := am_E_if (by decide +kernel : am_dc 169 66 = some (.ifCond .eq (28))) rfl rfl
theorem x_169_69   : am_E d 169 Q (69, L, st, g) ↔ am_K d 169 Q (am_ldI 71 L st g 5) := am_E_iload (by decide +kernel : am_dc 169 69 = some (.iload 5)) rfl
theorem x_169_71   : am_E d 169 Q (71, L, st, g) ↔ am_E d 169 Q (74, L, .int (216) :: st, g) := am_E_sipush (by decide +kernel : am_dc 169 71 = some (.sipush (216))) (by decide) rfl
theorem x_169_74   : am_E d 169 Q (74, L, .int y :: .int x :: st, g) ↔ if y = 0 then False else am_E d 169 Q (75, L, .int (x - x / y * y) :: st, g) := am_E_irem (by decide +kernel : am_dc 169 74 = some (.irem)) rfl
theorem x_169_75   : am_E d 169 Q (75, L, st, g) ↔ am_K d 169 Q (am_ldI 76 L st g 1) := am_E_iload_n (by decide +kernel : am_dc 169 75 = some (.iload_n 1)) rfl rfl
theorem x_169_76  : am_E d 169 Q (76, L, st, g) ↔ am_K d 169 Q (am_S 169 (.invokestatic 217) 76 L st g) := am_E_x (by decide +kernel : am_dc 169 76 = some (.invokestatic 217))
theorem x_169_79   : am_E d 169 Q (79, L, st, g) ↔ am_K d 169 Q (am_ldI 80 L st g 2) := am_E_iload_n (by decide +kernel : am_dc 169 79 = some (.iload_n 2)) rfl rfl
theorem x_169_80   : am_E d 169 Q (80, L, .int y :: .int x :: st, g) ↔ am_E d 169 Q (am_cmp .ne x y 94 83, L, st, g) := am_E_ic (by decide +kernel : am_dc 169 80 = some (.if_icmp .ne (14))) rfl rfl
theorem x_169_83   : am_E d 169 Q (83, L, st, g) ↔ am_K d 169 Q (am_ldA 84 L st g 0) := am_E_aload_n (by decide +kernel : am_dc 169 83 = some (.aload_n 0)) rfl rfl
theorem x_169_84   : am_E d 169 Q (84, L, .ref a :: st, g) ↔ am_kv d 169 Q 87 L st g (am_gf g a 11 9) := am_E_getfield (by decide +kernel : am_dc 169 84 = some (.getfield 36)) (by decide +kernel) rfl
theorem x_169_87   : am_E d 169 Q (87, L, st, g) ↔ am_K d 169 Q (am_ldI 89 L st g 5) := am_E_iload (by decide +kernel : am_dc 169 87 = some (.iload 5)) rfl
theorem x_169_89   : am_E d 169 Q (89, L, st, g) ↔ am_E d 169 Q (90, L, .int (0) :: st, g) := am_E_iconst (by decide +kernel : am_dc 169 89 = some (.iconst (0))) (by decide) rfl
theorem x_169_90   : am_E d 169 Q (90, L, v :: .int x :: .ref a :: st, g) ↔ am_kg d 169 Q 91 L st (am_sat .bastore g a x v) := am_E_bastore (by decide +kernel : am_dc 169 90 = some (.bastore)) rfl
theorem x_169_91   (hk : L.getD 4 none = some (.int x)) (hl : 4 < L.length) : am_E d 169 Q (91, L, st, g) ↔ am_E d 169 Q (94, am_s1 L 4 (.int (x + (1))), st, g) := am_E_iinc (by decide +kernel : am_dc 169 91 = some (.iinc 4 (1))) (by decide) rfl hk hl
theorem x_169_94   (hk : L.getD 5 none = some (.int x)) (hl : 5 < L.length) : am_E d 169 Q (94, L, st, g) ↔ am_E d 169 Q (97, am_s1 L 5 (.int (x + (1))), st, g) := am_E_iinc (by decide +kernel : am_dc 169 94 = some (.iinc 5 (1))) (by decide) rfl hk hl
theorem x_169_97   : am_E d 169 Q (97, L, st, g) ↔ am_E d 169 Q (51, L, st, g) := am_E_gt (by decide +kernel : am_dc 169 97 = some (.goto (-46))) rfl rfl
theorem x_169_100   : am_E d 169 Q (100, L, st, g) ↔ am_K d 169 Q (am_ldA 101 L st g 0) := am_E_aload_n (by decide +kernel : am_dc 169 100 = some (.aload_n 0)) rfl rfl
theorem x_169_101   : am_E d 169 Q (101, L, .ref a :: st, g) ↔ am_kv d 169 Q 104 L st g (am_gf g a 11 21) := am_E_getfield (by decide +kernel : am_dc 169 101 = some (.getfield 69)) (by decide +kernel) rfl
theorem x_169_104   : am_E d 169 Q (104, L, st, g) ↔ am_K d 169 Q (am_ldI 105 L st g 1) := am_E_iload_n (by decide +kernel : am_dc 169 104 = some (.iload_n 1)) rfl rfl
theorem x_169_105   : am_E d 169 Q (105, L, .int x :: .ref a :: st, g) ↔ am_kv d 169 Q 106 L st g (am_iat .iaload g a x) := am_E_iaload (by decide +kernel : am_dc 169 105 = some (.iaload)) rfl
theorem x_169_106   : am_E d 169 Q (106, L, .int x :: st, g) ↔ am_E d 169 Q (am_cmp .le x 0 126 109, L, st, g) := am_E_if (by decide +kernel : am_dc 169 106 = some (.ifCond .le (20))) rfl rfl
theorem x_169_109   : am_E d 169 Q (109, L, st, g) ↔ am_K d 169 Q (am_ldA 110 L st g 0) := am_E_aload_n (by decide +kernel : am_dc 169 109 = some (.aload_n 0)) rfl rfl
theorem x_169_110   : am_E d 169 Q (110, L, .ref a :: st, g) ↔ am_kv d 169 Q 113 L st g (am_gf g a 11 22) := am_E_getfield (by decide +kernel : am_dc 169 110 = some (.getfield 72)) (by decide +kernel) rfl
theorem x_169_113   : am_E d 169 Q (113, L, st, g) ↔ am_K d 169 Q (am_ldI 114 L st g 1) := am_E_iload_n (by decide +kernel : am_dc 169 113 = some (.iload_n 1)) rfl rfl
theorem x_169_114   : am_E d 169 Q (114, L, .int x :: .ref a :: st, g) ↔ am_kv d 169 Q 115 L st g (am_iat .iaload g a x) := am_E_iaload (by decide +kernel : am_dc 169 114 = some (.iaload)) rfl
theorem x_169_115   : am_E d 169 Q (115, L, st, g) ↔ am_K d 169 Q (am_ldI 116 L st g 2) := am_E_iload_n (by decide +kernel : am_dc 169 115 = some (.iload_n 2)) rfl rfl
theorem x_169_116   : am_E d 169 Q (116, L, .int y :: .int x :: st, g) ↔ am_E d 169 Q (am_cmp .ne x y 126 119, L, st, g) := am_E_ic (by decide +kernel : am_dc 169 116 = some (.if_icmp .ne (10))) rfl rfl
theorem x_169_119   : am_E d 169 Q (119, L, st, g) ↔ am_K d 169 Q (am_ldA 120 L st g 0) := am_E_aload_n (by decide +kernel : am_dc 169 119 = some (.aload_n 0)) rfl rfl
theorem x_169_120   : am_E d 169 Q (120, L, .ref a :: st, g) ↔ am_kv d 169 Q 123 L st g (am_gf g a 11 21) := am_E_getfield (by decide +kernel : am_dc 169 120 = some (.getfield 69)) (by decide +kernel) rfl
theorem x_169_123   : am_E d 169 Q (123, L, st, g) ↔ am_K d 169 Q (am_ldI 124 L st g 1) := am_E_iload_n (by decide +kernel : am_dc 169 123 = some (.iload_n 1)) rfl rfl
theorem x_169_124   : am_E d 169 Q (124, L, st, g) ↔ am_E d 169 Q (125, L, .int (0) :: st, g) := am_E_iconst (by decide +kernel : am_dc 169 124 = some (.iconst (0))) (by decide) rfl
theorem x_169_125   : am_E d 169 Q (125, L, v :: .int x :: .ref a :: st, g) ↔ am_kg d 169 Q 126 L st (am_sat .iastore g a x v) := am_E_iastore (by decide +kernel : am_dc 169 125 = some (.iastore)) rfl
theorem x_169_126   : am_E d 169 Q (126, L, st, g) ↔ am_K d 169 Q (am_ldA 127 L st g 0) := am_E_aload_n (by decide +kernel : am_dc 169 126 = some (.aload_n 0)) rfl rfl
theorem x_169_127   : am_E d 169 Q (127, L, .ref a :: st, g) ↔ am_kv d 169 Q 130 L st g (am_gf g a 11 1) := am_E_getfield (by decide +kernel : am_dc 169 127 = some (.getfield 7)) (by decide +kernel) rfl
theorem x_169_130   : am_E d 169 Q (130, L, st, g) ↔ am_E d 169 Q (132, L, .int (6) :: st, g) := am_E_bipush (by decide +kernel : am_dc 169 130 = some (.bipush (6))) (by decide) rfl
theorem x_169_132   : am_E d 169 Q (132, L, st, g) ↔ am_K d 169 Q (am_ldI 133 L st g 1) := am_E_iload_n (by decide +kernel : am_dc 169 132 = some (.iload_n 1)) rfl rfl
theorem x_169_133   : am_E d 169 Q (133, L, .int y :: .int x :: st, g) ↔ am_E d 169 Q (134, L, .int (x * y) :: st, g) := am_E_imul (by decide +kernel : am_dc 169 133 = some (.imul)) rfl
theorem x_169_134   : am_E d 169 Q (134, L, st, g) ↔ am_K d 169 Q (am_ldI 135 L st g 2) := am_E_iload_n (by decide +kernel : am_dc 169 134 = some (.iload_n 2)) rfl rfl
theorem x_169_135   : am_E d 169 Q (135, L, .int y :: .int x :: st, g) ↔ am_E d 169 Q (136, L, .int (x + y) :: st, g) := am_E_iadd (by decide +kernel : am_dc 169 135 = some (.iadd)) rfl
theorem x_169_136   : am_E d 169 Q (136, L, st, g) ↔ am_E d 169 Q (137, L, .int (0) :: st, g) := am_E_iconst (by decide +kernel : am_dc 169 136 = some (.iconst (0))) (by decide) rfl
theorem x_169_137   : am_E d 169 Q (137, L, v :: .int x :: .ref a :: st, g) ↔ am_kg d 169 Q 138 L st (am_sat .bastore g a x v) := am_E_bastore (by decide +kernel : am_dc 169 137 = some (.bastore)) rfl
theorem x_169_138   : am_E d 169 Q (138, L, st, g) ↔ am_K d 169 Q (am_ldA 139 L st g 0) := am_E_aload_n (by decide +kernel : am_dc 169 138 = some (.aload_n 0)) rfl rfl
theorem x_169_139   : am_E d 169 Q (139, L, st, g) ↔ am_K d 169 Q (am_ldI 140 L st g 1) := am_E_iload_n (by decide +kernel : am_dc 169 139 = some (.iload_n 1)) rfl rfl
theorem x_169_140  : am_E d 169 Q (140, L, st, g) ↔ am_K d 169 Q (am_S 169 (.invokevirtual 164) 140 L st g) := am_E_x (by decide +kernel : am_dc 169 140 = some (.invokevirtual 164))
theorem x_169_143   : am_E d 169 Q (143, L, st, g) ↔ am_K d 169 Q (am_ldA 144 L st g 0) := am_E_aload_n (by decide +kernel : am_dc 169 143 = some (.aload_n 0)) rfl rfl
theorem x_169_144  : am_E d 169 Q (144, L, st, g) ↔ am_K d 169 Q (am_S 169 (.invokevirtual 200) 144 L st g) := am_E_x (by decide +kernel : am_dc 169 144 = some (.invokevirtual 200))
theorem x_169_147   : am_E d 169 Q (147, L, st, g) ↔ am_K d 169 Q (am_ldI 149 L st g 4) := am_E_iload (by decide +kernel : am_dc 169 147 = some (.iload 4)) rfl
theorem x_169_149  : am_E d 169 Q (149, L, [.int x], g) ↔ if am_ok (FieldType.int) (.int x) = true then Q (.inl (some (.int x))) g else False := am_E_ireturn (by decide +kernel : am_dc 169 149 = some (.ireturn)) (by decide +kernel)
theorem v_169_189 : am_iv 169 189 = some (1, 196, 3) := by decide +kernel
theorem v_169_179 : am_iv 169 179 = some (1, 194, 3) := by decide +kernel
theorem v_169_214 : am_iv 169 214 = some (1, 187, 3) := by decide +kernel
theorem v_169_196 : am_iv 169 196 = some (1, 185, 4) := by decide +kernel
theorem f_169_36 : am_fl 169 36 = some (11, 9) := by decide +kernel
theorem v_169_217 : am_iv 169 217 = some (0, 213, 2) := by decide +kernel
theorem f_169_69 : am_fl 169 69 = some (11, 21) := by decide +kernel
theorem f_169_72 : am_fl 169 72 = some (11, 22) := by decide +kernel
theorem f_169_7 : am_fl 169 7 = some (11, 1) := by decide +kernel
theorem v_169_164 : am_iv 169 164 = some (1, 179, 2) := by decide +kernel
theorem v_169_200 : am_iv 169 200 = some (1, 182, 1) := by decide +kernel
theorem t_169 : am_t 169 = some (FieldType.int) := by decide +kernel
theorem h_169 : am_h 169 = [] := by decide +kernel
theorem m_169 : am_m 169 = 6 := by decide +kernel
theorem x_170_0   : am_E d 170 Q (0, L, st, g) ↔ am_K d 170 Q (am_ldA 1 L st g 0) := am_E_aload_n (by decide +kernel : am_dc 170 0 = some (.aload_n 0)) rfl rfl
theorem x_170_1   : am_E d 170 Q (1, L, st, g) ↔ am_K d 170 Q (am_ldA 2 L st g 0) := am_E_aload_n (by decide +kernel : am_dc 170 1 = some (.aload_n 0)) rfl rfl
theorem x_170_2   : am_E d 170 Q (2, L, .ref a :: st, g) ↔ am_kv d 170 Q 5 L st g (am_gf g a 11 8) := am_E_getfield (by decide +kernel : am_dc 170 2 = some (.getfield 32)) (by decide +kernel) rfl
theorem x_170_5   : am_E d 170 Q (5, L, st, g) ↔ am_E d 170 Q (6, L, .int (1) :: st, g) := am_E_iconst (by decide +kernel : am_dc 170 5 = some (.iconst (1))) (by decide) rfl
theorem x_170_6   : am_E d 170 Q (6, L, .int y :: .int x :: st, g) ↔ am_E d 170 Q (am_cmp .le x y 13 9, L, st, g) := am_E_ic (by decide +kernel : am_dc 170 6 = some (.if_icmp .le (7))) rfl rfl
theorem x_170_9   : am_E d 170 Q (9, L, st, g) ↔ am_E d 170 Q (10, L, .int (1) :: st, g) := am_E_iconst (by decide +kernel : am_dc 170 9 = some (.iconst (1))) (by decide) rfl
theorem x_170_10   : am_E d 170 Q (10, L, st, g) ↔ am_E d 170 Q (14, L, st, g) := am_E_gt (by decide +kernel : am_dc 170 10 = some (.goto (4))) rfl rfl
theorem x_170_13   : am_E d 170 Q (13, L, st, g) ↔ am_E d 170 Q (14, L, .int (0) :: st, g) := am_E_iconst (by decide +kernel : am_dc 170 13 = some (.iconst (0))) (by decide) rfl
theorem x_170_14   : am_E d 170 Q (14, L, st, g) ↔ am_E d 170 Q (15, L, .int (1) :: st, g) := am_E_iconst (by decide +kernel : am_dc 170 14 = some (.iconst (1))) (by decide) rfl
theorem x_170_15   : am_E d 170 Q (15, L, st, g) ↔ am_E d 170 Q (16, L, .int (1) :: st, g) := am_E_iconst (by decide +kernel : am_dc 170 15 = some (.iconst (1))) (by decide) rfl
theorem x_170_16  : am_E d 170 Q (16, L, st, g) ↔ am_K d 170 Q (am_S 170 (.invokevirtual 196) 16 L st g) := am_E_x (by decide +kernel : am_dc 170 16 = some (.invokevirtual 196))
theorem x_170_19   : am_E d 170 Q (19, L, .int x :: st, g) ↔ am_E d 170 Q (am_cmp .ne x 0 24 22, L, st, g) := am_E_if (by decide +kernel : am_dc 170 19 = some (.ifCond .ne (5))) rfl rfl
theorem x_170_22   : am_E d 170 Q (22, L, st, g) ↔ am_E d 170 Q (23, L, .int (0) :: st, g) := am_E_iconst (by decide +kernel : am_dc 170 22 = some (.iconst (0))) (by decide) rfl
theorem x_170_23  : am_E d 170 Q (23, L, [.int x], g) ↔ if am_ok (FieldType.int) (.int x) = true then Q (.inl (some (.int x))) g else False := am_E_ireturn (by decide +kernel : am_dc 170 23 = some (.ireturn)) (by decide +kernel)
theorem x_170_24   : am_E d 170 Q (24, L, st, g) ↔ am_K d 170 Q (am_ldA 25 L st g 0) := am_E_aload_n (by decide +kernel : am_dc 170 24 = some (.aload_n 0)) rfl rfl
theorem x_170_25   : am_E d 170 Q (25, L, v :: st, g) ↔ if v.category = 1 then am_E d 170 Q (26, L, v :: v :: st, g) else False := am_E_dup (by decide +kernel : am_dc 170 25 = some (.dup)) rfl
theorem x_170_26   : am_E d 170 Q (26, L, .ref a :: st, g) ↔ am_kv d 170 Q 29 L st g (am_gf g a 11 8) := am_E_getfield (by decide +kernel : am_dc 170 26 = some (.getfield 32)) (by decide +kernel) rfl
theorem x_170_29   : am_E d 170 Q (29, L, st, g) ↔ am_E d 170 Q (30, L, .int (1) :: st, g) := am_E_iconst (by decide +kernel : am_dc 170 29 = some (.iconst (1))) (by decide) rfl
theorem x_170_30   : am_E d 170 Q (30, L, .int y :: .int x :: st, g) ↔ am_E d 170 Q (31, L, .int (x - y) :: st, g) := am_E_isub (by decide +kernel : am_dc 170 30 = some (.isub)) rfl
theorem x_170_31   (hok : (am_ok (am_ft 11 8).1 v && (!(am_ft 11 8).2 || (am_ini 170 && am_co 11 == am_o 170)) && decide (11 < 13)) = true) : am_E d 170 Q (31, L, v :: .ref a :: st, g) ↔ am_kg d 170 Q 34 L st (am_pf g a 11 8 v) := am_E_putfield (by decide +kernel : am_dc 170 31 = some (.putfield 32)) (by decide +kernel) rfl hok
theorem x_170_34   : am_E d 170 Q (34, L, st, g) ↔ am_E d 170 Q (35, L, .int (0) :: st, g) := am_E_iconst (by decide +kernel : am_dc 170 34 = some (.iconst (0))) (by decide) rfl
theorem x_170_35   : am_E d 170 Q (35, L, st, g) ↔ am_K d 170 Q (am_stI 36 L st g 2) := am_E_istore_n (by decide +kernel : am_dc 170 35 = some (.istore_n 2)) rfl rfl
theorem x_170_36   : am_E d 170 Q (36, L, st, g) ↔ am_E d 170 Q (37, L, .int (0) :: st, g) := am_E_iconst (by decide +kernel : am_dc 170 36 = some (.iconst (0))) (by decide) rfl
theorem x_170_37   : am_E d 170 Q (37, L, st, g) ↔ am_K d 170 Q (am_stI 38 L st g 3) := am_E_istore_n (by decide +kernel : am_dc 170 37 = some (.istore_n 3)) rfl rfl
theorem x_170_38   : am_E d 170 Q (38, L, st, g) ↔ am_K d 170 Q (am_ldI 39 L st g 3) := am_E_iload_n (by decide +kernel : am_dc 170 38 = some (.iload_n 3)) rfl rfl
theorem x_170_39   : am_E d 170 Q (39, L, st, g) ↔ am_E d 170 Q (42, L, .int (216) :: st, g) := am_E_sipush (by decide +kernel : am_dc 170 39 = some (.sipush (216))) (by decide) rfl
theorem x_170_42   : am_E d 170 Q (42, L, .int y :: .int x :: st, g) ↔ am_E d 170 Q (am_cmp .ge x y 118 45, L, st, g) := am_E_ic (by decide +kernel : am_dc 170 42 = some (.if_icmp .ge (76))) rfl rfl
theorem x_170_45   : am_E d 170 Q (45, L, st, g) ↔ am_E d 170 Q (48, L, .int (216) :: st, g) := am_E_sipush (by decide +kernel : am_dc 170 45 = some (.sipush (216))) (by decide) rfl
theorem x_170_48   : am_E d 170 Q (48, L, st, g) ↔ am_K d 170 Q (am_ldA 49 L st g 0) := am_E_aload_n (by decide +kernel : am_dc 170 48 = some (.aload_n 0)) rfl rfl
theorem x_170_49   : am_E d 170 Q (49, L, .ref a :: st, g) ↔ am_kv d 170 Q 52 L st g (am_gf g a 11 8) := am_E_getfield (by decide +kernel : am_dc 170 49 = some (.getfield 32)) (by decide +kernel) rfl
theorem x_170_52   : am_E d 170 Q (52, L, .int y :: .int x :: st, g) ↔ am_E d 170 Q (53, L, .int (x * y) :: st, g) := am_E_imul (by decide +kernel : am_dc 170 52 = some (.imul)) rfl
theorem x_170_53   : am_E d 170 Q (53, L, st, g) ↔ am_K d 170 Q (am_ldI 54 L st g 3) := am_E_iload_n (by decide +kernel : am_dc 170 53 = some (.iload_n 3)) rfl rfl
theorem x_170_54   : am_E d 170 Q (54, L, .int y :: .int x :: st, g) ↔ am_E d 170 Q (55, L, .int (x + y) :: st, g) := am_E_iadd (by decide +kernel : am_dc 170 54 = some (.iadd)) rfl
theorem x_170_55   : am_E d 170 Q (55, L, st, g) ↔ am_K d 170 Q (am_stI 57 L st g 4) := am_E_istore (by decide +kernel : am_dc 170 55 = some (.istore 4)) rfl
theorem x_170_57   : am_E d 170 Q (57, L, st, g) ↔ am_K d 170 Q (am_ldA 58 L st g 0) := am_E_aload_n (by decide +kernel : am_dc 170 57 = some (.aload_n 0)) rfl rfl
theorem x_170_58   : am_E d 170 Q (58, L, .ref a :: st, g) ↔ am_kv d 170 Q 61 L st g (am_gf g a 11 9) := am_E_getfield (by decide +kernel : am_dc 170 58 = some (.getfield 36)) (by decide +kernel) rfl
theorem x_170_61   : am_E d 170 Q (61, L, st, g) ↔ am_K d 170 Q (am_ldI 63 L st g 4) := am_E_iload (by decide +kernel : am_dc 170 61 = some (.iload 4)) rfl
theorem x_170_63   : am_E d 170 Q (63, L, .int x :: .ref a :: st, g) ↔ am_kv d 170 Q 64 L st g (am_iat .baload g a x) := am_E_baload (by decide +kernel : am_dc 170 63 = some (.baload)) rfl
theorem x_170_64   : am_E d 170 Q (64, L, .int x :: st, g) ↔ am_E d 170 Q (am_cmp .eq x 0 112 67, L, st, g) := am_E_if (by decide +kernel : am_dc 170 64 = some (.ifCond .eq (48))) rfl rfl
theorem x_170_67   (hk : L.getD 2 none = some (.int x)) (hl : 2 < L.length) : am_E d 170 Q (67, L, st, g) ↔ am_E d 170 Q (70, am_s1 L 2 (.int (x + (1))), st, g) := am_E_iinc (by decide +kernel : am_dc 170 67 = some (.iinc 2 (1))) (by decide) rfl hk hl
theorem x_170_70   : am_E d 170 Q (70, L, st, g) ↔ am_K d 170 Q (am_ldI 71 L st g 1) := am_E_iload_n (by decide +kernel : am_dc 170 70 = some (.iload_n 1)) rfl rfl
theorem x_170_71   : am_E d 170 Q (71, L, .int x :: st, g) ↔ am_E d 170 Q (am_cmp .eq x 0 104 74, L, st, g) := am_E_if (by decide +kernel : am_dc 170 71 = some (.ifCond .eq (33))) rfl rfl
theorem x_170_74   : am_E d 170 Q (74, L, st, g) ↔ am_K d 170 Q (am_ldA 75 L st g 0) := am_E_aload_n (by decide +kernel : am_dc 170 74 = some (.aload_n 0)) rfl rfl
theorem x_170_75   : am_E d 170 Q (75, L, .ref a :: st, g) ↔ am_kv d 170 Q 78 L st g (am_gf g a 11 9) := am_E_getfield (by decide +kernel : am_dc 170 75 = some (.getfield 36)) (by decide +kernel) rfl
theorem x_170_78   : am_E d 170 Q (78, L, st, g) ↔ am_K d 170 Q (am_ldI 80 L st g 4) := am_E_iload (by decide +kernel : am_dc 170 78 = some (.iload 4)) rfl
theorem x_170_80   : am_E d 170 Q (80, L, st, g) ↔ am_E d 170 Q (83, L, .int (216) :: st, g) := am_E_sipush (by decide +kernel : am_dc 170 80 = some (.sipush (216))) (by decide) rfl
theorem x_170_83   : am_E d 170 Q (83, L, .int y :: .int x :: st, g) ↔ am_E d 170 Q (84, L, .int (x - y) :: st, g) := am_E_isub (by decide +kernel : am_dc 170 83 = some (.isub)) rfl
theorem x_170_84   : am_E d 170 Q (84, L, st, g) ↔ am_E d 170 Q (85, L, .int (1) :: st, g) := am_E_iconst (by decide +kernel : am_dc 170 84 = some (.iconst (1))) (by decide) rfl
theorem x_170_85   : am_E d 170 Q (85, L, v :: .int x :: .ref a :: st, g) ↔ am_kg d 170 Q 86 L st (am_sat .bastore g a x v) := am_E_bastore (by decide +kernel : am_dc 170 85 = some (.bastore)) rfl
theorem x_170_86   : am_E d 170 Q (86, L, st, g) ↔ am_K d 170 Q (am_ldA 87 L st g 0) := am_E_aload_n (by decide +kernel : am_dc 170 86 = some (.aload_n 0)) rfl rfl
theorem x_170_87   : am_E d 170 Q (87, L, .ref a :: st, g) ↔ am_kv d 170 Q 90 L st g (am_gf g a 11 10) := am_E_getfield (by decide +kernel : am_dc 170 87 = some (.getfield 39)) (by decide +kernel) rfl
theorem x_170_90   : am_E d 170 Q (90, L, st, g) ↔ am_K d 170 Q (am_ldI 92 L st g 4) := am_E_iload (by decide +kernel : am_dc 170 90 = some (.iload 4)) rfl
theorem x_170_92   : am_E d 170 Q (92, L, st, g) ↔ am_E d 170 Q (95, L, .int (216) :: st, g) := am_E_sipush (by decide +kernel : am_dc 170 92 = some (.sipush (216))) (by decide) rfl
theorem x_170_95   : am_E d 170 Q (95, L, .int y :: .int x :: st, g) ↔ am_E d 170 Q (96, L, .int (x - y) :: st, g) := am_E_isub (by decide +kernel : am_dc 170 95 = some (.isub)) rfl
theorem x_170_96   : am_E d 170 Q (96, L, st, g) ↔ am_K d 170 Q (am_ldA 97 L st g 0) := am_E_aload_n (by decide +kernel : am_dc 170 96 = some (.aload_n 0)) rfl rfl
theorem x_170_97   : am_E d 170 Q (97, L, .ref a :: st, g) ↔ am_kv d 170 Q 100 L st g (am_gf g a 11 10) := am_E_getfield (by decide +kernel : am_dc 170 97 = some (.getfield 39)) (by decide +kernel) rfl
theorem x_170_100   : am_E d 170 Q (100, L, st, g) ↔ am_K d 170 Q (am_ldI 102 L st g 4) := am_E_iload (by decide +kernel : am_dc 170 100 = some (.iload 4)) rfl
theorem x_170_102   : am_E d 170 Q (102, L, .int x :: .ref a :: st, g) ↔ am_kv d 170 Q 103 L st g (am_iat .iaload g a x) := am_E_iaload (by decide +kernel : am_dc 170 102 = some (.iaload)) rfl
theorem x_170_103   : am_E d 170 Q (103, L, v :: .int x :: .ref a :: st, g) ↔ am_kg d 170 Q 104 L st (am_sat .iastore g a x v) := am_E_iastore (by decide +kernel : am_dc 170 103 = some (.iastore)) rfl
theorem x_170_104   : am_E d 170 Q (104, L, st, g) ↔ am_K d 170 Q (am_ldA 105 L st g 0) := am_E_aload_n (by decide +kernel : am_dc 170 104 = some (.aload_n 0)) rfl rfl
theorem x_170_105   : am_E d 170 Q (105, L, .ref a :: st, g) ↔ am_kv d 170 Q 108 L st g (am_gf g a 11 9) := am_E_getfield (by decide +kernel : am_dc 170 105 = some (.getfield 36)) (by decide +kernel) rfl
theorem x_170_108   : am_E d 170 Q (108, L, st, g) ↔ am_K d 170 Q (am_ldI 110 L st g 4) := am_E_iload (by decide +kernel : am_dc 170 108 = some (.iload 4)) rfl
theorem x_170_110   : am_E d 170 Q (110, L, st, g) ↔ am_E d 170 Q (111, L, .int (0) :: st, g) := am_E_iconst (by decide +kernel : am_dc 170 110 = some (.iconst (0))) (by decide) rfl
theorem x_170_111   : am_E d 170 Q (111, L, v :: .int x :: .ref a :: st, g) ↔ am_kg d 170 Q 112 L st (am_sat .bastore g a x v) := am_E_bastore (by decide +kernel : am_dc 170 111 = some (.bastore)) rfl
theorem x_170_112   (hk : L.getD 3 none = some (.int x)) (hl : 3 < L.length) : am_E d 170 Q (112, L, st, g) ↔ am_E d 170 Q (115, am_s1 L 3 (.int (x + (1))), st, g) := am_E_iinc (by decide +kernel : am_dc 170 112 = some (.iinc 3 (1))) (by decide) rfl hk hl
theorem x_170_115   : am_E d 170 Q (115, L, st, g) ↔ am_E d 170 Q (38, L, st, g) := am_E_gt (by decide +kernel : am_dc 170 115 = some (.goto (-77))) rfl rfl
theorem x_170_118   : am_E d 170 Q (118, L, st, g) ↔ am_K d 170 Q (am_ldA 119 L st g 0) := am_E_aload_n (by decide +kernel : am_dc 170 118 = some (.aload_n 0)) rfl rfl
theorem x_170_119  : am_E d 170 Q (119, L, st, g) ↔ am_K d 170 Q (am_S 170 (.invokevirtual 200) 119 L st g) := am_E_x (by decide +kernel : am_dc 170 119 = some (.invokevirtual 200))
theorem x_170_122   : am_E d 170 Q (122, L, st, g) ↔ am_K d 170 Q (am_ldI 123 L st g 2) := am_E_iload_n (by decide +kernel : am_dc 170 122 = some (.iload_n 2)) rfl rfl
theorem x_170_123  : am_E d 170 Q (123, L, [.int x], g) ↔ if am_ok (FieldType.int) (.int x) = true then Q (.inl (some (.int x))) g else False := am_E_ireturn (by decide +kernel : am_dc 170 123 = some (.ireturn)) (by decide +kernel)
theorem f_170_32 : am_fl 170 32 = some (11, 8) := by decide +kernel
theorem v_170_196 : am_iv 170 196 = some (1, 185, 4) := by decide +kernel
theorem f_170_36 : am_fl 170 36 = some (11, 9) := by decide +kernel
theorem f_170_39 : am_fl 170 39 = some (11, 10) := by decide +kernel
theorem v_170_200 : am_iv 170 200 = some (1, 182, 1) := by decide +kernel
theorem t_170 : am_t 170 = some (FieldType.int) := by decide +kernel
theorem h_170 : am_h 170 = [] := by decide +kernel
theorem m_170 : am_m 170 = 5 := by decide +kernel
theorem x_171_0   : am_E d 171 Q (0, L, st, g) ↔ am_K d 171 Q (am_ldA 1 L st g 0) := am_E_aload_n (by decide +kernel : am_dc 171 0 = some (.aload_n 0)) rfl rfl
theorem x_171_1   : am_E d 171 Q (1, L, st, g) ↔ am_K d 171 Q (am_ldI 2 L st g 1) := am_E_iload_n (by decide +kernel : am_dc 171 1 = some (.iload_n 1)) rfl rfl
theorem x_171_2   : am_E d 171 Q (2, L, .int x :: st, g) ↔ am_E d 171 Q (am_cmp .lt x 0 17 5, L, st, g) := am_E_if (by decide +kernel : am_dc 171 2 = some (.ifCond .lt (15))) rfl rfl
theorem x_171_5   : am_E d 171 Q (5, L, st, g) ↔ am_K d 171 Q (am_ldI 6 L st g 1) := am_E_iload_n (by decide +kernel : am_dc 171 5 = some (.iload_n 1)) rfl rfl
theorem x_171_6   : am_E d 171 Q (6, L, st, g) ↔ am_K d 171 Q (am_ldA 7 L st g 0) := am_E_aload_n (by decide +kernel : am_dc 171 6 = some (.aload_n 0)) rfl rfl
theorem x_171_7   : am_E d 171 Q (7, L, .ref a :: st, g) ↔ am_kv d 171 Q 10 L st g (am_gf g a 11 11) := am_E_getfield (by decide +kernel : am_dc 171 7 = some (.getfield 211)) (by decide +kernel) rfl
theorem x_171_10   : am_E d 171 Q (10, L, .int y :: .int x :: st, g) ↔ am_E d 171 Q (am_cmp .ge x y 17 13, L, st, g) := am_E_ic (by decide +kernel : am_dc 171 10 = some (.if_icmp .ge (7))) rfl rfl
theorem x_171_13   : am_E d 171 Q (13, L, st, g) ↔ am_E d 171 Q (14, L, .int (1) :: st, g) := am_E_iconst (by decide +kernel : am_dc 171 13 = some (.iconst (1))) (by decide) rfl
theorem x_171_14   : am_E d 171 Q (14, L, st, g) ↔ am_E d 171 Q (18, L, st, g) := am_E_gt (by decide +kernel : am_dc 171 14 = some (.goto (4))) rfl rfl
theorem x_171_17   : am_E d 171 Q (17, L, st, g) ↔ am_E d 171 Q (18, L, .int (0) :: st, g) := am_E_iconst (by decide +kernel : am_dc 171 17 = some (.iconst (0))) (by decide) rfl
theorem x_171_18   : am_E d 171 Q (18, L, st, g) ↔ am_E d 171 Q (19, L, .int (1) :: st, g) := am_E_iconst (by decide +kernel : am_dc 171 18 = some (.iconst (1))) (by decide) rfl
theorem x_171_19   : am_E d 171 Q (19, L, st, g) ↔ am_E d 171 Q (20, L, .int (1) :: st, g) := am_E_iconst (by decide +kernel : am_dc 171 19 = some (.iconst (1))) (by decide) rfl
theorem x_171_20  : am_E d 171 Q (20, L, st, g) ↔ am_K d 171 Q (am_S 171 (.invokevirtual 196) 20 L st g) := am_E_x (by decide +kernel : am_dc 171 20 = some (.invokevirtual 196))
theorem x_171_23   : am_E d 171 Q (23, L, .int x :: st, g) ↔ am_E d 171 Q (am_cmp .ne x 0 28 26, L, st, g) := am_E_if (by decide +kernel : am_dc 171 23 = some (.ifCond .ne (5))) rfl rfl
theorem x_171_26   : am_E d 171 Q (26, L, st, g) ↔ am_E d 171 Q (27, L, .int (0) :: st, g) := am_E_iconst (by decide +kernel : am_dc 171 26 = some (.iconst (0))) (by decide) rfl
theorem x_171_27  : am_E d 171 Q (27, L, [.int x], g) ↔ if am_ok (FieldType.int) (.int x) = true then Q (.inl (some (.int x))) g else False := am_E_ireturn (by decide +kernel : am_dc 171 27 = some (.ireturn)) (by decide +kernel)
theorem x_171_28   : am_E d 171 Q (28, L, st, g) ↔ am_K d 171 Q (am_ldI 29 L st g 1) := am_E_iload_n (by decide +kernel : am_dc 171 28 = some (.iload_n 1)) rfl rfl
theorem x_171_29   : am_E d 171 Q (29, L, st, g) ↔ am_K d 171 Q (am_stI 30 L st g 2) := am_E_istore_n (by decide +kernel : am_dc 171 29 = some (.istore_n 2)) rfl rfl
theorem x_171_30   : am_E d 171 Q (30, L, st, g) ↔ am_K d 171 Q (am_ldI 31 L st g 2) := am_E_iload_n (by decide +kernel : am_dc 171 30 = some (.iload_n 2)) rfl rfl
theorem x_171_31   : am_E d 171 Q (31, L, st, g) ↔ am_E d 171 Q (32, L, .int (1) :: st, g) := am_E_iconst (by decide +kernel : am_dc 171 31 = some (.iconst (1))) (by decide) rfl
theorem x_171_32   : am_E d 171 Q (32, L, .int y :: .int x :: st, g) ↔ am_E d 171 Q (33, L, .int (x + y) :: st, g) := am_E_iadd (by decide +kernel : am_dc 171 32 = some (.iadd)) rfl
theorem x_171_33   : am_E d 171 Q (33, L, st, g) ↔ am_K d 171 Q (am_ldA 34 L st g 0) := am_E_aload_n (by decide +kernel : am_dc 171 33 = some (.aload_n 0)) rfl rfl
theorem x_171_34   : am_E d 171 Q (34, L, .ref a :: st, g) ↔ am_kv d 171 Q 37 L st g (am_gf g a 11 11) := am_E_getfield (by decide +kernel : am_dc 171 34 = some (.getfield 211)) (by decide +kernel) rfl
theorem x_171_37   : am_E d 171 Q (37, L, .int y :: .int x :: st, g) ↔ am_E d 171 Q (am_cmp .ge x y 284 40, L, st, g) := am_E_ic (by decide +kernel : am_dc 171 37 = some (.if_icmp .ge (247))) rfl rfl
theorem x_171_40   : am_E d 171 Q (40, L, st, g) ↔ am_E d 171 Q (41, L, .int (0) :: st, g) := am_E_iconst (by decide +kernel : am_dc 171 40 = some (.iconst (0))) (by decide) rfl
theorem x_171_41   : am_E d 171 Q (41, L, st, g) ↔ am_K d 171 Q (am_stI 42 L st g 3) := am_E_istore_n (by decide +kernel : am_dc 171 41 = some (.istore_n 3)) rfl rfl
theorem x_171_42   : am_E d 171 Q (42, L, st, g) ↔ am_K d 171 Q (am_ldI 43 L st g 3) := am_E_iload_n (by decide +kernel : am_dc 171 42 = some (.iload_n 3)) rfl rfl
theorem x_171_43   : am_E d 171 Q (43, L, st, g) ↔ am_E d 171 Q (44, L, .int (3) :: st, g) := am_E_iconst (by decide +kernel : am_dc 171 43 = some (.iconst (3))) (by decide) rfl
theorem x_171_44   : am_E d 171 Q (44, L, .int y :: .int x :: st, g) ↔ am_E d 171 Q (am_cmp .ge x y 97 47, L, st, g) := am_E_ic (by decide +kernel : am_dc 171 44 = some (.if_icmp .ge (53))) rfl rfl
theorem x_171_47   : am_E d 171 Q (47, L, st, g) ↔ am_K d 171 Q (am_ldA 48 L st g 0) := am_E_aload_n (by decide +kernel : am_dc 171 47 = some (.aload_n 0)) rfl rfl
theorem x_171_48   : am_E d 171 Q (48, L, .ref a :: st, g) ↔ am_kv d 171 Q 51 L st g (am_gf g a 11 12) := am_E_getfield (by decide +kernel : am_dc 171 48 = some (.getfield 42)) (by decide +kernel) rfl
theorem x_171_51   : am_E d 171 Q (51, L, st, g) ↔ am_E d 171 Q (52, L, .int (3) :: st, g) := am_E_iconst (by decide +kernel : am_dc 171 51 = some (.iconst (3))) (by decide) rfl
theorem x_171_52   : am_E d 171 Q (52, L, st, g) ↔ am_K d 171 Q (am_ldI 53 L st g 2) := am_E_iload_n (by decide +kernel : am_dc 171 52 = some (.iload_n 2)) rfl rfl
theorem x_171_53   : am_E d 171 Q (53, L, .int y :: .int x :: st, g) ↔ am_E d 171 Q (54, L, .int (x * y) :: st, g) := am_E_imul (by decide +kernel : am_dc 171 53 = some (.imul)) rfl
theorem x_171_54   : am_E d 171 Q (54, L, st, g) ↔ am_K d 171 Q (am_ldI 55 L st g 3) := am_E_iload_n (by decide +kernel : am_dc 171 54 = some (.iload_n 3)) rfl rfl
theorem x_171_55   : am_E d 171 Q (55, L, .int y :: .int x :: st, g) ↔ am_E d 171 Q (56, L, .int (x + y) :: st, g) := am_E_iadd (by decide +kernel : am_dc 171 55 = some (.iadd)) rfl
theorem x_171_56   : am_E d 171 Q (56, L, st, g) ↔ am_K d 171 Q (am_ldA 57 L st g 0) := am_E_aload_n (by decide +kernel : am_dc 171 56 = some (.aload_n 0)) rfl rfl
theorem x_171_57   : am_E d 171 Q (57, L, .ref a :: st, g) ↔ am_kv d 171 Q 60 L st g (am_gf g a 11 12) := am_E_getfield (by decide +kernel : am_dc 171 57 = some (.getfield 42)) (by decide +kernel) rfl
theorem x_171_60   : am_E d 171 Q (60, L, st, g) ↔ am_E d 171 Q (61, L, .int (3) :: st, g) := am_E_iconst (by decide +kernel : am_dc 171 60 = some (.iconst (3))) (by decide) rfl
theorem x_171_61   : am_E d 171 Q (61, L, st, g) ↔ am_K d 171 Q (am_ldI 62 L st g 2) := am_E_iload_n (by decide +kernel : am_dc 171 61 = some (.iload_n 2)) rfl rfl
theorem x_171_62   : am_E d 171 Q (62, L, .int y :: .int x :: st, g) ↔ am_E d 171 Q (63, L, .int (x * y) :: st, g) := am_E_imul (by decide +kernel : am_dc 171 62 = some (.imul)) rfl
theorem x_171_63   : am_E d 171 Q (63, L, st, g) ↔ am_E d 171 Q (64, L, .int (3) :: st, g) := am_E_iconst (by decide +kernel : am_dc 171 63 = some (.iconst (3))) (by decide) rfl
theorem x_171_64   : am_E d 171 Q (64, L, .int y :: .int x :: st, g) ↔ am_E d 171 Q (65, L, .int (x + y) :: st, g) := am_E_iadd (by decide +kernel : am_dc 171 64 = some (.iadd)) rfl
theorem x_171_65   : am_E d 171 Q (65, L, st, g) ↔ am_K d 171 Q (am_ldI 66 L st g 3) := am_E_iload_n (by decide +kernel : am_dc 171 65 = some (.iload_n 3)) rfl rfl
theorem x_171_66   : am_E d 171 Q (66, L, .int y :: .int x :: st, g) ↔ am_E d 171 Q (67, L, .int (x + y) :: st, g) := am_E_iadd (by decide +kernel : am_dc 171 66 = some (.iadd)) rfl
theorem x_171_67   : am_E d 171 Q (67, L, .int x :: .ref a :: st, g) ↔ am_kv d 171 Q 68 L st g (am_iat .iaload g a x) := am_E_iaload (by decide +kernel : am_dc 171 67 = some (.iaload)) rfl
theorem x_171_68   : am_E d 171 Q (68, L, v :: .int x :: .ref a :: st, g) ↔ am_kg d 171 Q 69 L st (am_sat .iastore g a x v) := am_E_iastore (by decide +kernel : am_dc 171 68 = some (.iastore)) rfl
theorem x_171_69   : am_E d 171 Q (69, L, st, g) ↔ am_K d 171 Q (am_ldA 70 L st g 0) := am_E_aload_n (by decide +kernel : am_dc 171 69 = some (.aload_n 0)) rfl rfl
theorem x_171_70   : am_E d 171 Q (70, L, .ref a :: st, g) ↔ am_kv d 171 Q 73 L st g (am_gf g a 11 13) := am_E_getfield (by decide +kernel : am_dc 171 70 = some (.getfield 45)) (by decide +kernel) rfl
theorem x_171_73   : am_E d 171 Q (73, L, st, g) ↔ am_E d 171 Q (74, L, .int (3) :: st, g) := am_E_iconst (by decide +kernel : am_dc 171 73 = some (.iconst (3))) (by decide) rfl
theorem x_171_74   : am_E d 171 Q (74, L, st, g) ↔ am_K d 171 Q (am_ldI 75 L st g 2) := am_E_iload_n (by decide +kernel : am_dc 171 74 = some (.iload_n 2)) rfl rfl
theorem x_171_75   : am_E d 171 Q (75, L, .int y :: .int x :: st, g) ↔ am_E d 171 Q (76, L, .int (x * y) :: st, g) := am_E_imul (by decide +kernel : am_dc 171 75 = some (.imul)) rfl
theorem x_171_76   : am_E d 171 Q (76, L, st, g) ↔ am_K d 171 Q (am_ldI 77 L st g 3) := am_E_iload_n (by decide +kernel : am_dc 171 76 = some (.iload_n 3)) rfl rfl
theorem x_171_77   : am_E d 171 Q (77, L, .int y :: .int x :: st, g) ↔ am_E d 171 Q (78, L, .int (x + y) :: st, g) := am_E_iadd (by decide +kernel : am_dc 171 77 = some (.iadd)) rfl
theorem x_171_78   : am_E d 171 Q (78, L, st, g) ↔ am_K d 171 Q (am_ldA 79 L st g 0) := am_E_aload_n (by decide +kernel : am_dc 171 78 = some (.aload_n 0)) rfl rfl
theorem x_171_79   : am_E d 171 Q (79, L, .ref a :: st, g) ↔ am_kv d 171 Q 82 L st g (am_gf g a 11 13) := am_E_getfield (by decide +kernel : am_dc 171 79 = some (.getfield 45)) (by decide +kernel) rfl
theorem x_171_82   : am_E d 171 Q (82, L, st, g) ↔ am_E d 171 Q (83, L, .int (3) :: st, g) := am_E_iconst (by decide +kernel : am_dc 171 82 = some (.iconst (3))) (by decide) rfl
theorem x_171_83   : am_E d 171 Q (83, L, st, g) ↔ am_K d 171 Q (am_ldI 84 L st g 2) := am_E_iload_n (by decide +kernel : am_dc 171 83 = some (.iload_n 2)) rfl rfl
theorem x_171_84   : am_E d 171 Q (84, L, .int y :: .int x :: st, g) ↔ am_E d 171 Q (85, L, .int (x * y) :: st, g) := am_E_imul (by decide +kernel : am_dc 171 84 = some (.imul)) rfl
theorem x_171_85   : am_E d 171 Q (85, L, st, g) ↔ am_E d 171 Q (86, L, .int (3) :: st, g) := am_E_iconst (by decide +kernel : am_dc 171 85 = some (.iconst (3))) (by decide) rfl
theorem x_171_86   : am_E d 171 Q (86, L, .int y :: .int x :: st, g) ↔ am_E d 171 Q (87, L, .int (x + y) :: st, g) := am_E_iadd (by decide +kernel : am_dc 171 86 = some (.iadd)) rfl
theorem x_171_87   : am_E d 171 Q (87, L, st, g) ↔ am_K d 171 Q (am_ldI 88 L st g 3) := am_E_iload_n (by decide +kernel : am_dc 171 87 = some (.iload_n 3)) rfl rfl
theorem x_171_88   : am_E d 171 Q (88, L, .int y :: .int x :: st, g) ↔ am_E d 171 Q (89, L, .int (x + y) :: st, g) := am_E_iadd (by decide +kernel : am_dc 171 88 = some (.iadd)) rfl
theorem x_171_89   : am_E d 171 Q (89, L, .int x :: .ref a :: st, g) ↔ am_kv d 171 Q 90 L st g (am_iat .iaload g a x) := am_E_iaload (by decide +kernel : am_dc 171 89 = some (.iaload)) rfl
theorem x_171_90   : am_E d 171 Q (90, L, v :: .int x :: .ref a :: st, g) ↔ am_kg d 171 Q 91 L st (am_sat .iastore g a x v) := am_E_iastore (by decide +kernel : am_dc 171 90 = some (.iastore)) rfl
theorem x_171_91   (hk : L.getD 3 none = some (.int x)) (hl : 3 < L.length) : am_E d 171 Q (91, L, st, g) ↔ am_E d 171 Q (94, am_s1 L 3 (.int (x + (1))), st, g) := am_E_iinc (by decide +kernel : am_dc 171 91 = some (.iinc 3 (1))) (by decide) rfl hk hl
theorem x_171_94   : am_E d 171 Q (94, L, st, g) ↔ am_E d 171 Q (42, L, st, g) := am_E_gt (by decide +kernel : am_dc 171 94 = some (.goto (-52))) rfl rfl
theorem x_171_97   : am_E d 171 Q (97, L, st, g) ↔ am_K d 171 Q (am_ldA 98 L st g 0) := am_E_aload_n (by decide +kernel : am_dc 171 97 = some (.aload_n 0)) rfl rfl
theorem x_171_98   : am_E d 171 Q (98, L, .ref a :: st, g) ↔ am_kv d 171 Q 101 L st g (am_gf g a 11 14) := am_E_getfield (by decide +kernel : am_dc 171 98 = some (.getfield 48)) (by decide +kernel) rfl
theorem x_171_101   : am_E d 171 Q (101, L, st, g) ↔ am_K d 171 Q (am_ldI 102 L st g 2) := am_E_iload_n (by decide +kernel : am_dc 171 101 = some (.iload_n 2)) rfl rfl
theorem x_171_102   : am_E d 171 Q (102, L, st, g) ↔ am_K d 171 Q (am_ldA 103 L st g 0) := am_E_aload_n (by decide +kernel : am_dc 171 102 = some (.aload_n 0)) rfl rfl
theorem x_171_103   : am_E d 171 Q (103, L, .ref a :: st, g) ↔ am_kv d 171 Q 106 L st g (am_gf g a 11 14) := am_E_getfield (by decide +kernel : am_dc 171 103 = some (.getfield 48)) (by decide +kernel) rfl
theorem x_171_106   : am_E d 171 Q (106, L, st, g) ↔ am_K d 171 Q (am_ldI 107 L st g 2) := am_E_iload_n (by decide +kernel : am_dc 171 106 = some (.iload_n 2)) rfl rfl
theorem x_171_107   : am_E d 171 Q (107, L, st, g) ↔ am_E d 171 Q (108, L, .int (1) :: st, g) := am_E_iconst (by decide +kernel : am_dc 171 107 = some (.iconst (1))) (by decide) rfl
theorem x_171_108   : am_E d 171 Q (108, L, .int y :: .int x :: st, g) ↔ am_E d 171 Q (109, L, .int (x + y) :: st, g) := am_E_iadd (by decide +kernel : am_dc 171 108 = some (.iadd)) rfl
theorem x_171_109   : am_E d 171 Q (109, L, .int x :: .ref a :: st, g) ↔ am_kv d 171 Q 110 L st g (am_iat .iaload g a x) := am_E_iaload (by decide +kernel : am_dc 171 109 = some (.iaload)) rfl
theorem x_171_110   : am_E d 171 Q (110, L, v :: .int x :: .ref a :: st, g) ↔ am_kg d 171 Q 111 L st (am_sat .iastore g a x v) := am_E_iastore (by decide +kernel : am_dc 171 110 = some (.iastore)) rfl
theorem x_171_111   : am_E d 171 Q (111, L, st, g) ↔ am_K d 171 Q (am_ldA 112 L st g 0) := am_E_aload_n (by decide +kernel : am_dc 171 111 = some (.aload_n 0)) rfl rfl
theorem x_171_112   : am_E d 171 Q (112, L, .ref a :: st, g) ↔ am_kv d 171 Q 115 L st g (am_gf g a 11 18) := am_E_getfield (by decide +kernel : am_dc 171 112 = some (.getfield 60)) (by decide +kernel) rfl
theorem x_171_115   : am_E d 171 Q (115, L, st, g) ↔ am_K d 171 Q (am_ldI 116 L st g 2) := am_E_iload_n (by decide +kernel : am_dc 171 115 = some (.iload_n 2)) rfl rfl
theorem x_171_116   : am_E d 171 Q (116, L, st, g) ↔ am_K d 171 Q (am_ldA 117 L st g 0) := am_E_aload_n (by decide +kernel : am_dc 171 116 = some (.aload_n 0)) rfl rfl
theorem x_171_117   : am_E d 171 Q (117, L, .ref a :: st, g) ↔ am_kv d 171 Q 120 L st g (am_gf g a 11 18) := am_E_getfield (by decide +kernel : am_dc 171 117 = some (.getfield 60)) (by decide +kernel) rfl
theorem x_171_120   : am_E d 171 Q (120, L, st, g) ↔ am_K d 171 Q (am_ldI 121 L st g 2) := am_E_iload_n (by decide +kernel : am_dc 171 120 = some (.iload_n 2)) rfl rfl
theorem x_171_121   : am_E d 171 Q (121, L, st, g) ↔ am_E d 171 Q (122, L, .int (1) :: st, g) := am_E_iconst (by decide +kernel : am_dc 171 121 = some (.iconst (1))) (by decide) rfl
theorem x_171_122   : am_E d 171 Q (122, L, .int y :: .int x :: st, g) ↔ am_E d 171 Q (123, L, .int (x + y) :: st, g) := am_E_iadd (by decide +kernel : am_dc 171 122 = some (.iadd)) rfl
theorem x_171_123   : am_E d 171 Q (123, L, .int x :: .ref a :: st, g) ↔ am_kv d 171 Q 124 L st g (am_iat .iaload g a x) := am_E_iaload (by decide +kernel : am_dc 171 123 = some (.iaload)) rfl
theorem x_171_124   : am_E d 171 Q (124, L, v :: .int x :: .ref a :: st, g) ↔ am_kg d 171 Q 125 L st (am_sat .iastore g a x v) := am_E_iastore (by decide +kernel : am_dc 171 124 = some (.iastore)) rfl
theorem x_171_125   : am_E d 171 Q (125, L, st, g) ↔ am_E d 171 Q (126, L, .int (0) :: st, g) := am_E_iconst (by decide +kernel : am_dc 171 125 = some (.iconst (0))) (by decide) rfl
theorem x_171_126   : am_E d 171 Q (126, L, st, g) ↔ am_K d 171 Q (am_stI 127 L st g 3) := am_E_istore_n (by decide +kernel : am_dc 171 126 = some (.istore_n 3)) rfl rfl
theorem x_171_127   : am_E d 171 Q (127, L, st, g) ↔ am_K d 171 Q (am_ldI 128 L st g 3) := am_E_iload_n (by decide +kernel : am_dc 171 127 = some (.iload_n 3)) rfl rfl
theorem x_171_128   : am_E d 171 Q (128, L, st, g) ↔ am_E d 171 Q (130, L, .int (64) :: st, g) := am_E_bipush (by decide +kernel : am_dc 171 128 = some (.bipush (64))) (by decide) rfl
theorem x_171_130   : am_E d 171 Q (130, L, .int y :: .int x :: st, g) ↔ am_E d 171 Q (am_cmp .ge x y 214 133, L, st, g) := am_E_ic (by decide +kernel : am_dc 171 130 = some (.if_icmp .ge (84))) rfl rfl
theorem x_171_133   : am_E d 171 Q (133, L, st, g) ↔ am_K d 171 Q (am_ldA 134 L st g 0) := am_E_aload_n (by decide +kernel : am_dc 171 133 = some (.aload_n 0)) rfl rfl
theorem x_171_134   : am_E d 171 Q (134, L, .ref a :: st, g) ↔ am_kv d 171 Q 137 L st g (am_gf g a 11 15) := am_E_getfield (by decide +kernel : am_dc 171 134 = some (.getfield 51)) (by decide +kernel) rfl
theorem x_171_137   : am_E d 171 Q (137, L, st, g) ↔ am_E d 171 Q (139, L, .int (64) :: st, g) := am_E_bipush (by decide +kernel : am_dc 171 137 = some (.bipush (64))) (by decide) rfl
theorem x_171_139   : am_E d 171 Q (139, L, st, g) ↔ am_K d 171 Q (am_ldI 140 L st g 2) := am_E_iload_n (by decide +kernel : am_dc 171 139 = some (.iload_n 2)) rfl rfl
theorem x_171_140   : am_E d 171 Q (140, L, .int y :: .int x :: st, g) ↔ am_E d 171 Q (141, L, .int (x * y) :: st, g) := am_E_imul (by decide +kernel : am_dc 171 140 = some (.imul)) rfl
theorem x_171_141   : am_E d 171 Q (141, L, st, g) ↔ am_K d 171 Q (am_ldI 142 L st g 3) := am_E_iload_n (by decide +kernel : am_dc 171 141 = some (.iload_n 3)) rfl rfl
theorem x_171_142   : am_E d 171 Q (142, L, .int y :: .int x :: st, g) ↔ am_E d 171 Q (143, L, .int (x + y) :: st, g) := am_E_iadd (by decide +kernel : am_dc 171 142 = some (.iadd)) rfl
theorem x_171_143   : am_E d 171 Q (143, L, st, g) ↔ am_K d 171 Q (am_ldA 144 L st g 0) := am_E_aload_n (by decide +kernel : am_dc 171 143 = some (.aload_n 0)) rfl rfl
theorem x_171_144   : am_E d 171 Q (144, L, .ref a :: st, g) ↔ am_kv d 171 Q 147 L st g (am_gf g a 11 15) := am_E_getfield (by decide +kernel : am_dc 171 144 = some (.getfield 51)) (by decide +kernel) rfl
theorem x_171_147   : am_E d 171 Q (147, L, st, g) ↔ am_E d 171 Q (149, L, .int (64) :: st, g) := am_E_bipush (by decide +kernel : am_dc 171 147 = some (.bipush (64))) (by decide) rfl
theorem x_171_149   : am_E d 171 Q (149, L, st, g) ↔ am_K d 171 Q (am_ldI 150 L st g 2) := am_E_iload_n (by decide +kernel : am_dc 171 149 = some (.iload_n 2)) rfl rfl
theorem x_171_150   : am_E d 171 Q (150, L, .int y :: .int x :: st, g) ↔ am_E d 171 Q (151, L, .int (x * y) :: st, g) := am_E_imul (by decide +kernel : am_dc 171 150 = some (.imul)) rfl
theorem x_171_151   : am_E d 171 Q (151, L, st, g) ↔ am_E d 171 Q (153, L, .int (64) :: st, g) := am_E_bipush (by decide +kernel : am_dc 171 151 = some (.bipush (64))) (by decide) rfl
theorem x_171_153   : am_E d 171 Q (153, L, .int y :: .int x :: st, g) ↔ am_E d 171 Q (154, L, .int (x + y) :: st, g) := am_E_iadd (by decide +kernel : am_dc 171 153 = some (.iadd)) rfl
theorem x_171_154   : am_E d 171 Q (154, L, st, g) ↔ am_K d 171 Q (am_ldI 155 L st g 3) := am_E_iload_n (by decide +kernel : am_dc 171 154 = some (.iload_n 3)) rfl rfl
theorem x_171_155   : am_E d 171 Q (155, L, .int y :: .int x :: st, g) ↔ am_E d 171 Q (156, L, .int (x + y) :: st, g) := am_E_iadd (by decide +kernel : am_dc 171 155 = some (.iadd)) rfl
theorem x_171_156   : am_E d 171 Q (156, L, .int x :: .ref a :: st, g) ↔ am_kv d 171 Q 157 L st g (am_iat .iaload g a x) := am_E_iaload (by decide +kernel : am_dc 171 156 = some (.iaload)) rfl
theorem x_171_157   : am_E d 171 Q (157, L, v :: .int x :: .ref a :: st, g) ↔ am_kg d 171 Q 158 L st (am_sat .iastore g a x v) := am_E_iastore (by decide +kernel : am_dc 171 157 = some (.iastore)) rfl
theorem x_171_158   : am_E d 171 Q (158, L, st, g) ↔ am_K d 171 Q (am_ldA 159 L st g 0) := am_E_aload_n (by decide +kernel : am_dc 171 158 = some (.aload_n 0)) rfl rfl
theorem x_171_159   : am_E d 171 Q (159, L, .ref a :: st, g) ↔ am_kv d 171 Q 162 L st g (am_gf g a 11 16) := am_E_getfield (by decide +kernel : am_dc 171 159 = some (.getfield 54)) (by decide +kernel) rfl
theorem x_171_162   : am_E d 171 Q (162, L, st, g) ↔ am_E d 171 Q (164, L, .int (64) :: st, g) := am_E_bipush (by decide +kernel : am_dc 171 162 = some (.bipush (64))) (by decide) rfl
theorem x_171_164   : am_E d 171 Q (164, L, st, g) ↔ am_K d 171 Q (am_ldI 165 L st g 2) := am_E_iload_n (by decide +kernel : am_dc 171 164 = some (.iload_n 2)) rfl rfl
theorem x_171_165   : am_E d 171 Q (165, L, .int y :: .int x :: st, g) ↔ am_E d 171 Q (166, L, .int (x * y) :: st, g) := am_E_imul (by decide +kernel : am_dc 171 165 = some (.imul)) rfl
theorem x_171_166   : am_E d 171 Q (166, L, st, g) ↔ am_K d 171 Q (am_ldI 167 L st g 3) := am_E_iload_n (by decide +kernel : am_dc 171 166 = some (.iload_n 3)) rfl rfl
theorem x_171_167   : am_E d 171 Q (167, L, .int y :: .int x :: st, g) ↔ am_E d 171 Q (168, L, .int (x + y) :: st, g) := am_E_iadd (by decide +kernel : am_dc 171 167 = some (.iadd)) rfl
theorem x_171_168   : am_E d 171 Q (168, L, st, g) ↔ am_K d 171 Q (am_ldA 169 L st g 0) := am_E_aload_n (by decide +kernel : am_dc 171 168 = some (.aload_n 0)) rfl rfl
theorem x_171_169   : am_E d 171 Q (169, L, .ref a :: st, g) ↔ am_kv d 171 Q 172 L st g (am_gf g a 11 16) := am_E_getfield (by decide +kernel : am_dc 171 169 = some (.getfield 54)) (by decide +kernel) rfl
theorem x_171_172   : am_E d 171 Q (172, L, st, g) ↔ am_E d 171 Q (174, L, .int (64) :: st, g) := am_E_bipush (by decide +kernel : am_dc 171 172 = some (.bipush (64))) (by decide) rfl
theorem x_171_174   : am_E d 171 Q (174, L, st, g) ↔ am_K d 171 Q (am_ldI 175 L st g 2) := am_E_iload_n (by decide +kernel : am_dc 171 174 = some (.iload_n 2)) rfl rfl
theorem x_171_175   : am_E d 171 Q (175, L, .int y :: .int x :: st, g) ↔ am_E d 171 Q (176, L, .int (x * y) :: st, g) := am_E_imul (by decide +kernel : am_dc 171 175 = some (.imul)) rfl
theorem x_171_176   : am_E d 171 Q (176, L, st, g) ↔ am_E d 171 Q (178, L, .int (64) :: st, g) := am_E_bipush (by decide +kernel : am_dc 171 176 = some (.bipush (64))) (by decide) rfl
theorem x_171_178   : am_E d 171 Q (178, L, .int y :: .int x :: st, g) ↔ am_E d 171 Q (179, L, .int (x + y) :: st, g) := am_E_iadd (by decide +kernel : am_dc 171 178 = some (.iadd)) rfl
theorem x_171_179   : am_E d 171 Q (179, L, st, g) ↔ am_K d 171 Q (am_ldI 180 L st g 3) := am_E_iload_n (by decide +kernel : am_dc 171 179 = some (.iload_n 3)) rfl rfl
theorem x_171_180   : am_E d 171 Q (180, L, .int y :: .int x :: st, g) ↔ am_E d 171 Q (181, L, .int (x + y) :: st, g) := am_E_iadd (by decide +kernel : am_dc 171 180 = some (.iadd)) rfl
theorem x_171_181   : am_E d 171 Q (181, L, .int x :: .ref a :: st, g) ↔ am_kv d 171 Q 182 L st g (am_iat .iaload g a x) := am_E_iaload (by decide +kernel : am_dc 171 181 = some (.iaload)) rfl
theorem x_171_182   : am_E d 171 Q (182, L, v :: .int x :: .ref a :: st, g) ↔ am_kg d 171 Q 183 L st (am_sat .iastore g a x v) := am_E_iastore (by decide +kernel : am_dc 171 182 = some (.iastore)) rfl
theorem x_171_183   : am_E d 171 Q (183, L, st, g) ↔ am_K d 171 Q (am_ldA 184 L st g 0) := am_E_aload_n (by decide +kernel : am_dc 171 183 = some (.aload_n 0)) rfl rfl
theorem x_171_184   : am_E d 171 Q (184, L, .ref a :: st, g) ↔ am_kv d 171 Q 187 L st g (am_gf g a 11 17) := am_E_getfield (by decide +kernel : am_dc 171 184 = some (.getfield 57)) (by decide +kernel) rfl
theorem x_171_187   : am_E d 171 Q (187, L, st, g) ↔ am_E d 171 Q (189, L, .int (64) :: st, g) := am_E_bipush (by decide +kernel : am_dc 171 187 = some (.bipush (64))) (by decide) rfl
theorem x_171_189   : am_E d 171 Q (189, L, st, g) ↔ am_K d 171 Q (am_ldI 190 L st g 2) := am_E_iload_n (by decide +kernel : am_dc 171 189 = some (.iload_n 2)) rfl rfl
theorem x_171_190   : am_E d 171 Q (190, L, .int y :: .int x :: st, g) ↔ am_E d 171 Q (191, L, .int (x * y) :: st, g) := am_E_imul (by decide +kernel : am_dc 171 190 = some (.imul)) rfl
theorem x_171_191   : am_E d 171 Q (191, L, st, g) ↔ am_K d 171 Q (am_ldI 192 L st g 3) := am_E_iload_n (by decide +kernel : am_dc 171 191 = some (.iload_n 3)) rfl rfl
theorem x_171_192   : am_E d 171 Q (192, L, .int y :: .int x :: st, g) ↔ am_E d 171 Q (193, L, .int (x + y) :: st, g) := am_E_iadd (by decide +kernel : am_dc 171 192 = some (.iadd)) rfl
theorem x_171_193   : am_E d 171 Q (193, L, st, g) ↔ am_K d 171 Q (am_ldA 194 L st g 0) := am_E_aload_n (by decide +kernel : am_dc 171 193 = some (.aload_n 0)) rfl rfl
theorem x_171_194   : am_E d 171 Q (194, L, .ref a :: st, g) ↔ am_kv d 171 Q 197 L st g (am_gf g a 11 17) := am_E_getfield (by decide +kernel : am_dc 171 194 = some (.getfield 57)) (by decide +kernel) rfl
theorem x_171_197   : am_E d 171 Q (197, L, st, g) ↔ am_E d 171 Q (199, L, .int (64) :: st, g) := am_E_bipush (by decide +kernel : am_dc 171 197 = some (.bipush (64))) (by decide) rfl
theorem x_171_199   : am_E d 171 Q (199, L, st, g) ↔ am_K d 171 Q (am_ldI 200 L st g 2) := am_E_iload_n (by decide +kernel : am_dc 171 199 = some (.iload_n 2)) rfl rfl
theorem x_171_200   : am_E d 171 Q (200, L, .int y :: .int x :: st, g) ↔ am_E d 171 Q (201, L, .int (x * y) :: st, g) := am_E_imul (by decide +kernel : am_dc 171 200 = some (.imul)) rfl
theorem x_171_201   : am_E d 171 Q (201, L, st, g) ↔ am_E d 171 Q (203, L, .int (64) :: st, g) := am_E_bipush (by decide +kernel : am_dc 171 201 = some (.bipush (64))) (by decide) rfl
theorem x_171_203   : am_E d 171 Q (203, L, .int y :: .int x :: st, g) ↔ am_E d 171 Q (204, L, .int (x + y) :: st, g) := am_E_iadd (by decide +kernel : am_dc 171 203 = some (.iadd)) rfl
theorem x_171_204   : am_E d 171 Q (204, L, st, g) ↔ am_K d 171 Q (am_ldI 205 L st g 3) := am_E_iload_n (by decide +kernel : am_dc 171 204 = some (.iload_n 3)) rfl rfl
theorem x_171_205   : am_E d 171 Q (205, L, .int y :: .int x :: st, g) ↔ am_E d 171 Q (206, L, .int (x + y) :: st, g) := am_E_iadd (by decide +kernel : am_dc 171 205 = some (.iadd)) rfl
theorem x_171_206   : am_E d 171 Q (206, L, .int x :: .ref a :: st, g) ↔ am_kv d 171 Q 207 L st g (am_iat .iaload g a x) := am_E_iaload (by decide +kernel : am_dc 171 206 = some (.iaload)) rfl
theorem x_171_207   : am_E d 171 Q (207, L, v :: .int x :: .ref a :: st, g) ↔ am_kg d 171 Q 208 L st (am_sat .iastore g a x v) := am_E_iastore (by decide +kernel : am_dc 171 207 = some (.iastore)) rfl
theorem x_171_208   (hk : L.getD 3 none = some (.int x)) (hl : 3 < L.length) : am_E d 171 Q (208, L, st, g) ↔ am_E d 171 Q (211, am_s1 L 3 (.int (x + (1))), st, g) := am_E_iinc (by decide +kernel : am_dc 171 208 = some (.iinc 3 (1))) (by decide) rfl hk hl
theorem x_171_211   : am_E d 171 Q (211, L, st, g) ↔ am_E d 171 Q (127, L, st, g) := am_E_gt (by decide +kernel : am_dc 171 211 = some (.goto (-84))) rfl rfl
theorem x_171_214   : am_E d 171 Q (214, L, st, g) ↔ am_E d 171 Q (215, L, .int (0) :: st, g) := am_E_iconst (by decide +kernel : am_dc 171 214 = some (.iconst (0))) (by decide) rfl
theorem x_171_215   : am_E d 171 Q (215, L, st, g) ↔ am_K d 171 Q (am_stI 216 L st g 3) := am_E_istore_n (by decide +kernel : am_dc 171 215 = some (.istore_n 3)) rfl rfl
theorem x_171_216   : am_E d 171 Q (216, L, st, g) ↔ am_K d 171 Q (am_ldI 217 L st g 3) := am_E_iload_n (by decide +kernel : am_dc 171 216 = some (.iload_n 3)) rfl rfl
theorem x_171_217   : am_E d 171 Q (217, L, st, g) ↔ am_E d 171 Q (219, L, .int (24) :: st, g) := am_E_bipush (by decide +kernel : am_dc 171 217 = some (.bipush (24))) (by decide) rfl
theorem x_171_219   : am_E d 171 Q (219, L, .int y :: .int x :: st, g) ↔ am_E d 171 Q (am_cmp .ge x y 278 222, L, st, g) := am_E_ic (by decide +kernel : am_dc 171 219 = some (.if_icmp .ge (59))) rfl rfl
theorem x_171_222   : am_E d 171 Q (222, L, st, g) ↔ am_K d 171 Q (am_ldA 223 L st g 0) := am_E_aload_n (by decide +kernel : am_dc 171 222 = some (.aload_n 0)) rfl rfl
theorem x_171_223   : am_E d 171 Q (223, L, .ref a :: st, g) ↔ am_kv d 171 Q 226 L st g (am_gf g a 11 19) := am_E_getfield (by decide +kernel : am_dc 171 223 = some (.getfield 63)) (by decide +kernel) rfl
theorem x_171_226   : am_E d 171 Q (226, L, st, g) ↔ am_E d 171 Q (228, L, .int (24) :: st, g) := am_E_bipush (by decide +kernel : am_dc 171 226 = some (.bipush (24))) (by decide) rfl
theorem x_171_228   : am_E d 171 Q (228, L, st, g) ↔ am_K d 171 Q (am_ldI 229 L st g 2) := am_E_iload_n (by decide +kernel : am_dc 171 228 = some (.iload_n 2)) rfl rfl
theorem x_171_229   : am_E d 171 Q (229, L, .int y :: .int x :: st, g) ↔ am_E d 171 Q (230, L, .int (x * y) :: st, g) := am_E_imul (by decide +kernel : am_dc 171 229 = some (.imul)) rfl
theorem x_171_230   : am_E d 171 Q (230, L, st, g) ↔ am_K d 171 Q (am_ldI 231 L st g 3) := am_E_iload_n (by decide +kernel : am_dc 171 230 = some (.iload_n 3)) rfl rfl
theorem x_171_231   : am_E d 171 Q (231, L, .int y :: .int x :: st, g) ↔ am_E d 171 Q (232, L, .int (x + y) :: st, g) := am_E_iadd (by decide +kernel : am_dc 171 231 = some (.iadd)) rfl
theorem x_171_232   : am_E d 171 Q (232, L, st, g) ↔ am_K d 171 Q (am_ldA 233 L st g 0) := am_E_aload_n (by decide +kernel : am_dc 171 232 = some (.aload_n 0)) rfl rfl
theorem x_171_233   : am_E d 171 Q (233, L, .ref a :: st, g) ↔ am_kv d 171 Q 236 L st g (am_gf g a 11 19) := am_E_getfield (by decide +kernel : am_dc 171 233 = some (.getfield 63)) (by decide +kernel) rfl
theorem x_171_236   : am_E d 171 Q (236, L, st, g) ↔ am_E d 171 Q (238, L, .int (24) :: st, g) := am_E_bipush (by decide +kernel : am_dc 171 236 = some (.bipush (24))) (by decide) rfl
theorem x_171_238   : am_E d 171 Q (238, L, st, g) ↔ am_K d 171 Q (am_ldI 239 L st g 2) := am_E_iload_n (by decide +kernel : am_dc 171 238 = some (.iload_n 2)) rfl rfl
theorem x_171_239   : am_E d 171 Q (239, L, .int y :: .int x :: st, g) ↔ am_E d 171 Q (240, L, .int (x * y) :: st, g) := am_E_imul (by decide +kernel : am_dc 171 239 = some (.imul)) rfl
theorem x_171_240   : am_E d 171 Q (240, L, st, g) ↔ am_E d 171 Q (242, L, .int (24) :: st, g) := am_E_bipush (by decide +kernel : am_dc 171 240 = some (.bipush (24))) (by decide) rfl
theorem x_171_242   : am_E d 171 Q (242, L, .int y :: .int x :: st, g) ↔ am_E d 171 Q (243, L, .int (x + y) :: st, g) := am_E_iadd (by decide +kernel : am_dc 171 242 = some (.iadd)) rfl
theorem x_171_243   : am_E d 171 Q (243, L, st, g) ↔ am_K d 171 Q (am_ldI 244 L st g 3) := am_E_iload_n (by decide +kernel : am_dc 171 243 = some (.iload_n 3)) rfl rfl
theorem x_171_244   : am_E d 171 Q (244, L, .int y :: .int x :: st, g) ↔ am_E d 171 Q (245, L, .int (x + y) :: st, g) := am_E_iadd (by decide +kernel : am_dc 171 244 = some (.iadd)) rfl
theorem x_171_245   : am_E d 171 Q (245, L, .int x :: .ref a :: st, g) ↔ am_kv d 171 Q 246 L st g (am_iat .iaload g a x) := am_E_iaload (by decide +kernel : am_dc 171 245 = some (.iaload)) rfl
theorem x_171_246   : am_E d 171 Q (246, L, v :: .int x :: .ref a :: st, g) ↔ am_kg d 171 Q 247 L st (am_sat .iastore g a x v) := am_E_iastore (by decide +kernel : am_dc 171 246 = some (.iastore)) rfl
theorem x_171_247   : am_E d 171 Q (247, L, st, g) ↔ am_K d 171 Q (am_ldA 248 L st g 0) := am_E_aload_n (by decide +kernel : am_dc 171 247 = some (.aload_n 0)) rfl rfl
theorem x_171_248   : am_E d 171 Q (248, L, .ref a :: st, g) ↔ am_kv d 171 Q 251 L st g (am_gf g a 11 20) := am_E_getfield (by decide +kernel : am_dc 171 248 = some (.getfield 66)) (by decide +kernel) rfl
theorem x_171_251   : am_E d 171 Q (251, L, st, g) ↔ am_E d 171 Q (253, L, .int (24) :: st, g) := am_E_bipush (by decide +kernel : am_dc 171 251 = some (.bipush (24))) (by decide) rfl
theorem x_171_253   : am_E d 171 Q (253, L, st, g) ↔ am_K d 171 Q (am_ldI 254 L st g 2) := am_E_iload_n (by decide +kernel : am_dc 171 253 = some (.iload_n 2)) rfl rfl
theorem x_171_254   : am_E d 171 Q (254, L, .int y :: .int x :: st, g) ↔ am_E d 171 Q (255, L, .int (x * y) :: st, g) := am_E_imul (by decide +kernel : am_dc 171 254 = some (.imul)) rfl
theorem x_171_255   : am_E d 171 Q (255, L, st, g) ↔ am_K d 171 Q (am_ldI 256 L st g 3) := am_E_iload_n (by decide +kernel : am_dc 171 255 = some (.iload_n 3)) rfl rfl
theorem x_171_256   : am_E d 171 Q (256, L, .int y :: .int x :: st, g) ↔ am_E d 171 Q (257, L, .int (x + y) :: st, g) := am_E_iadd (by decide +kernel : am_dc 171 256 = some (.iadd)) rfl
theorem x_171_257   : am_E d 171 Q (257, L, st, g) ↔ am_K d 171 Q (am_ldA 258 L st g 0) := am_E_aload_n (by decide +kernel : am_dc 171 257 = some (.aload_n 0)) rfl rfl
theorem x_171_258   : am_E d 171 Q (258, L, .ref a :: st, g) ↔ am_kv d 171 Q 261 L st g (am_gf g a 11 20) := am_E_getfield (by decide +kernel : am_dc 171 258 = some (.getfield 66)) (by decide +kernel) rfl
theorem x_171_261   : am_E d 171 Q (261, L, st, g) ↔ am_E d 171 Q (263, L, .int (24) :: st, g) := am_E_bipush (by decide +kernel : am_dc 171 261 = some (.bipush (24))) (by decide) rfl
theorem x_171_263   : am_E d 171 Q (263, L, st, g) ↔ am_K d 171 Q (am_ldI 264 L st g 2) := am_E_iload_n (by decide +kernel : am_dc 171 263 = some (.iload_n 2)) rfl rfl
theorem x_171_264   : am_E d 171 Q (264, L, .int y :: .int x :: st, g) ↔ am_E d 171 Q (265, L, .int (x * y) :: st, g) := am_E_imul (by decide +kernel : am_dc 171 264 = some (.imul)) rfl
theorem x_171_265   : am_E d 171 Q (265, L, st, g) ↔ am_E d 171 Q (267, L, .int (24) :: st, g) := am_E_bipush (by decide +kernel : am_dc 171 265 = some (.bipush (24))) (by decide) rfl
theorem x_171_267   : am_E d 171 Q (267, L, .int y :: .int x :: st, g) ↔ am_E d 171 Q (268, L, .int (x + y) :: st, g) := am_E_iadd (by decide +kernel : am_dc 171 267 = some (.iadd)) rfl
theorem x_171_268   : am_E d 171 Q (268, L, st, g) ↔ am_K d 171 Q (am_ldI 269 L st g 3) := am_E_iload_n (by decide +kernel : am_dc 171 268 = some (.iload_n 3)) rfl rfl
theorem x_171_269   : am_E d 171 Q (269, L, .int y :: .int x :: st, g) ↔ am_E d 171 Q (270, L, .int (x + y) :: st, g) := am_E_iadd (by decide +kernel : am_dc 171 269 = some (.iadd)) rfl
theorem x_171_270   : am_E d 171 Q (270, L, .int x :: .ref a :: st, g) ↔ am_kv d 171 Q 271 L st g (am_iat .iaload g a x) := am_E_iaload (by decide +kernel : am_dc 171 270 = some (.iaload)) rfl
theorem x_171_271   : am_E d 171 Q (271, L, v :: .int x :: .ref a :: st, g) ↔ am_kg d 171 Q 272 L st (am_sat .iastore g a x v) := am_E_iastore (by decide +kernel : am_dc 171 271 = some (.iastore)) rfl
theorem x_171_272   (hk : L.getD 3 none = some (.int x)) (hl : 3 < L.length) : am_E d 171 Q (272, L, st, g) ↔ am_E d 171 Q (275, am_s1 L 3 (.int (x + (1))), st, g) := am_E_iinc (by decide +kernel : am_dc 171 272 = some (.iinc 3 (1))) (by decide) rfl hk hl
theorem x_171_275   : am_E d 171 Q (275, L, st, g) ↔ am_E d 171 Q (216, L, st, g) := am_E_gt (by decide +kernel : am_dc 171 275 = some (.goto (-59))) rfl rfl
theorem x_171_278   (hk : L.getD 2 none = some (.int x)) (hl : 2 < L.length) : am_E d 171 Q (278, L, st, g) ↔ am_E d 171 Q (281, am_s1 L 2 (.int (x + (1))), st, g) := am_E_iinc (by decide +kernel : am_dc 171 278 = some (.iinc 2 (1))) (by decide) rfl hk hl
theorem x_171_281   : am_E d 171 Q (281, L, st, g) ↔ am_E d 171 Q (30, L, st, g) := am_E_gt (by decide +kernel : am_dc 171 281 = some (.goto (-251))) rfl rfl
theorem x_171_284   : am_E d 171 Q (284, L, st, g) ↔ am_K d 171 Q (am_ldA 285 L st g 0) := am_E_aload_n (by decide +kernel : am_dc 171 284 = some (.aload_n 0)) rfl rfl
theorem x_171_285   : am_E d 171 Q (285, L, v :: st, g) ↔ if v.category = 1 then am_E d 171 Q (286, L, v :: v :: st, g) else False := am_E_dup (by decide +kernel : am_dc 171 285 = some (.dup)) rfl
theorem x_171_286   : am_E d 171 Q (286, L, .ref a :: st, g) ↔ am_kv d 171 Q 289 L st g (am_gf g a 11 11) := am_E_getfield (by decide +kernel : am_dc 171 286 = some (.getfield 211)) (by decide +kernel) rfl
theorem x_171_289   : am_E d 171 Q (289, L, st, g) ↔ am_E d 171 Q (290, L, .int (1) :: st, g) := am_E_iconst (by decide +kernel : am_dc 171 289 = some (.iconst (1))) (by decide) rfl
theorem x_171_290   : am_E d 171 Q (290, L, .int y :: .int x :: st, g) ↔ am_E d 171 Q (291, L, .int (x - y) :: st, g) := am_E_isub (by decide +kernel : am_dc 171 290 = some (.isub)) rfl
theorem x_171_291   (hok : (am_ok (am_ft 11 11).1 v && (!(am_ft 11 11).2 || (am_ini 171 && am_co 11 == am_o 171)) && decide (11 < 13)) = true) : am_E d 171 Q (291, L, v :: .ref a :: st, g) ↔ am_kg d 171 Q 294 L st (am_pf g a 11 11 v) := am_E_putfield (by decide +kernel : am_dc 171 291 = some (.putfield 211)) (by decide +kernel) rfl hok
theorem x_171_294   : am_E d 171 Q (294, L, st, g) ↔ am_K d 171 Q (am_ldA 295 L st g 0) := am_E_aload_n (by decide +kernel : am_dc 171 294 = some (.aload_n 0)) rfl rfl
theorem x_171_295  : am_E d 171 Q (295, L, st, g) ↔ am_K d 171 Q (am_S 171 (.invokevirtual 200) 295 L st g) := am_E_x (by decide +kernel : am_dc 171 295 = some (.invokevirtual 200))
theorem x_171_298   : am_E d 171 Q (298, L, st, g) ↔ am_K d 171 Q (am_ldA 299 L st g 0) := am_E_aload_n (by decide +kernel : am_dc 171 298 = some (.aload_n 0)) rfl rfl
theorem x_171_299   : am_E d 171 Q (299, L, .ref a :: st, g) ↔ am_kv d 171 Q 302 L st g (am_gf g a 11 11) := am_E_getfield (by decide +kernel : am_dc 171 299 = some (.getfield 211)) (by decide +kernel) rfl
theorem x_171_302  : am_E d 171 Q (302, L, [.int x], g) ↔ if am_ok (FieldType.int) (.int x) = true then Q (.inl (some (.int x))) g else False := am_E_ireturn (by decide +kernel : am_dc 171 302 = some (.ireturn)) (by decide +kernel)
theorem f_171_211 : am_fl 171 211 = some (11, 11) := by decide +kernel
theorem v_171_196 : am_iv 171 196 = some (1, 185, 4) := by decide +kernel
theorem f_171_42 : am_fl 171 42 = some (11, 12) := by decide +kernel
theorem f_171_45 : am_fl 171 45 = some (11, 13) := by decide +kernel
theorem f_171_48 : am_fl 171 48 = some (11, 14) := by decide +kernel
theorem f_171_60 : am_fl 171 60 = some (11, 18) := by decide +kernel
theorem f_171_51 : am_fl 171 51 = some (11, 15) := by decide +kernel
theorem f_171_54 : am_fl 171 54 = some (11, 16) := by decide +kernel
theorem f_171_57 : am_fl 171 57 = some (11, 17) := by decide +kernel
theorem f_171_63 : am_fl 171 63 = some (11, 19) := by decide +kernel
theorem f_171_66 : am_fl 171 66 = some (11, 20) := by decide +kernel
theorem v_171_200 : am_iv 171 200 = some (1, 182, 1) := by decide +kernel
theorem t_171 : am_t 171 = some (FieldType.int) := by decide +kernel
theorem h_171 : am_h 171 = [] := by decide +kernel
theorem m_171 : am_m 171 = 4 := by decide +kernel
theorem x_172_0   : am_E d 172 Q (0, L, st, g) ↔ am_E d 172 Q (2, L, .int (64) :: st, g) := am_E_bipush (by decide +kernel : am_dc 172 0 = some (.bipush (64))) (by decide) rfl
theorem x_172_2   : am_E d 172 Q (2, L, st, g) ↔ am_K d 172 Q (am_ldA 3 L st g 0) := am_E_aload_n (by decide +kernel : am_dc 172 2 = some (.aload_n 0)) rfl rfl
theorem x_172_3   : am_E d 172 Q (3, L, .ref a :: st, g) ↔ am_kv d 172 Q 6 L st g (am_gf g a 11 11) := am_E_getfield (by decide +kernel : am_dc 172 3 = some (.getfield 211)) (by decide +kernel) rfl
theorem x_172_6   : am_E d 172 Q (6, L, .int y :: .int x :: st, g) ↔ am_E d 172 Q (7, L, .int (x * y) :: st, g) := am_E_imul (by decide +kernel : am_dc 172 6 = some (.imul)) rfl
theorem x_172_7   : am_E d 172 Q (7, L, st, g) ↔ am_K d 172 Q (am_ldA 8 L st g 0) := am_E_aload_n (by decide +kernel : am_dc 172 7 = some (.aload_n 0)) rfl rfl
theorem x_172_8   : am_E d 172 Q (8, L, .ref a :: st, g) ↔ am_kv d 172 Q 11 L st g (am_gf g a 11 14) := am_E_getfield (by decide +kernel : am_dc 172 8 = some (.getfield 48)) (by decide +kernel) rfl
theorem x_172_11   : am_E d 172 Q (11, L, st, g) ↔ am_K d 172 Q (am_ldA 12 L st g 0) := am_E_aload_n (by decide +kernel : am_dc 172 11 = some (.aload_n 0)) rfl rfl
theorem x_172_12   : am_E d 172 Q (12, L, .ref a :: st, g) ↔ am_kv d 172 Q 15 L st g (am_gf g a 11 11) := am_E_getfield (by decide +kernel : am_dc 172 12 = some (.getfield 211)) (by decide +kernel) rfl
theorem x_172_15   : am_E d 172 Q (15, L, .int x :: .ref a :: st, g) ↔ am_kv d 172 Q 16 L st g (am_iat .iaload g a x) := am_E_iaload (by decide +kernel : am_dc 172 15 = some (.iaload)) rfl
theorem x_172_16   : am_E d 172 Q (16, L, .int y :: .int x :: st, g) ↔ am_E d 172 Q (17, L, .int (x + y) :: st, g) := am_E_iadd (by decide +kernel : am_dc 172 16 = some (.iadd)) rfl
theorem x_172_17   : am_E d 172 Q (17, L, st, g) ↔ am_K d 172 Q (am_stI 19 L st g 4) := am_E_istore (by decide +kernel : am_dc 172 17 = some (.istore 4)) rfl
theorem x_172_19   : am_E d 172 Q (19, L, st, g) ↔ am_K d 172 Q (am_ldA 20 L st g 0) := am_E_aload_n (by decide +kernel : am_dc 172 19 = some (.aload_n 0)) rfl rfl
theorem x_172_20   : am_E d 172 Q (20, L, .ref a :: st, g) ↔ am_kv d 172 Q 23 L st g (am_gf g a 11 15) := am_E_getfield (by decide +kernel : am_dc 172 20 = some (.getfield 51)) (by decide +kernel) rfl
theorem x_172_23   : am_E d 172 Q (23, L, st, g) ↔ am_K d 172 Q (am_ldI 25 L st g 4) := am_E_iload (by decide +kernel : am_dc 172 23 = some (.iload 4)) rfl
theorem x_172_25   : am_E d 172 Q (25, L, st, g) ↔ am_K d 172 Q (am_ldI 26 L st g 1) := am_E_iload_n (by decide +kernel : am_dc 172 25 = some (.iload_n 1)) rfl rfl
theorem x_172_26   : am_E d 172 Q (26, L, v :: .int x :: .ref a :: st, g) ↔ am_kg d 172 Q 27 L st (am_sat .iastore g a x v) := am_E_iastore (by decide +kernel : am_dc 172 26 = some (.iastore)) rfl
theorem x_172_27   : am_E d 172 Q (27, L, st, g) ↔ am_K d 172 Q (am_ldA 28 L st g 0) := am_E_aload_n (by decide +kernel : am_dc 172 27 = some (.aload_n 0)) rfl rfl
theorem x_172_28   : am_E d 172 Q (28, L, .ref a :: st, g) ↔ am_kv d 172 Q 31 L st g (am_gf g a 11 16) := am_E_getfield (by decide +kernel : am_dc 172 28 = some (.getfield 54)) (by decide +kernel) rfl
theorem x_172_31   : am_E d 172 Q (31, L, st, g) ↔ am_K d 172 Q (am_ldI 33 L st g 4) := am_E_iload (by decide +kernel : am_dc 172 31 = some (.iload 4)) rfl
theorem x_172_33   : am_E d 172 Q (33, L, st, g) ↔ am_K d 172 Q (am_ldI 34 L st g 2) := am_E_iload_n (by decide +kernel : am_dc 172 33 = some (.iload_n 2)) rfl rfl
theorem x_172_34   : am_E d 172 Q (34, L, v :: .int x :: .ref a :: st, g) ↔ am_kg d 172 Q 35 L st (am_sat .iastore g a x v) := am_E_iastore (by decide +kernel : am_dc 172 34 = some (.iastore)) rfl
theorem x_172_35   : am_E d 172 Q (35, L, st, g) ↔ am_K d 172 Q (am_ldA 36 L st g 0) := am_E_aload_n (by decide +kernel : am_dc 172 35 = some (.aload_n 0)) rfl rfl
theorem x_172_36   : am_E d 172 Q (36, L, .ref a :: st, g) ↔ am_kv d 172 Q 39 L st g (am_gf g a 11 17) := am_E_getfield (by decide +kernel : am_dc 172 36 = some (.getfield 57)) (by decide +kernel) rfl
theorem x_172_39   : am_E d 172 Q (39, L, st, g) ↔ am_K d 172 Q (am_ldI 41 L st g 4) := am_E_iload (by decide +kernel : am_dc 172 39 = some (.iload 4)) rfl
theorem x_172_41   : am_E d 172 Q (41, L, st, g) ↔ am_K d 172 Q (am_ldI 42 L st g 3) := am_E_iload_n (by decide +kernel : am_dc 172 41 = some (.iload_n 3)) rfl rfl
theorem x_172_42   : am_E d 172 Q (42, L, v :: .int x :: .ref a :: st, g) ↔ am_kg d 172 Q 43 L st (am_sat .iastore g a x v) := am_E_iastore (by decide +kernel : am_dc 172 42 = some (.iastore)) rfl
theorem x_172_43   : am_E d 172 Q (43, L, st, g) ↔ am_K d 172 Q (am_ldA 44 L st g 0) := am_E_aload_n (by decide +kernel : am_dc 172 43 = some (.aload_n 0)) rfl rfl
theorem x_172_44   : am_E d 172 Q (44, L, .ref a :: st, g) ↔ am_kv d 172 Q 47 L st g (am_gf g a 11 14) := am_E_getfield (by decide +kernel : am_dc 172 44 = some (.getfield 48)) (by decide +kernel) rfl
theorem x_172_47   : am_E d 172 Q (47, L, st, g) ↔ am_K d 172 Q (am_ldA 48 L st g 0) := am_E_aload_n (by decide +kernel : am_dc 172 47 = some (.aload_n 0)) rfl rfl
theorem x_172_48   : am_E d 172 Q (48, L, .ref a :: st, g) ↔ am_kv d 172 Q 51 L st g (am_gf g a 11 11) := am_E_getfield (by decide +kernel : am_dc 172 48 = some (.getfield 211)) (by decide +kernel) rfl
theorem x_172_51   : am_E d 172 Q (51, L, v :: v1 :: st, g) ↔ if v.category = 1 ∧ v1.category = 1 then am_E d 172 Q (52, L, v :: v1 :: v :: v1 :: st, g) else False := am_E_dup2 (by decide +kernel : am_dc 172 51 = some (.dup2)) rfl
theorem x_172_52   : am_E d 172 Q (52, L, .int x :: .ref a :: st, g) ↔ am_kv d 172 Q 53 L st g (am_iat .iaload g a x) := am_E_iaload (by decide +kernel : am_dc 172 52 = some (.iaload)) rfl
theorem x_172_53   : am_E d 172 Q (53, L, st, g) ↔ am_E d 172 Q (54, L, .int (1) :: st, g) := am_E_iconst (by decide +kernel : am_dc 172 53 = some (.iconst (1))) (by decide) rfl
theorem x_172_54   : am_E d 172 Q (54, L, .int y :: .int x :: st, g) ↔ am_E d 172 Q (55, L, .int (x + y) :: st, g) := am_E_iadd (by decide +kernel : am_dc 172 54 = some (.iadd)) rfl
theorem x_172_55   : am_E d 172 Q (55, L, v :: .int x :: .ref a :: st, g) ↔ am_kg d 172 Q 56 L st (am_sat .iastore g a x v) := am_E_iastore (by decide +kernel : am_dc 172 55 = some (.iastore)) rfl
theorem x_172_56   : am_E d 172 Q (56, L, st, g) ↔ am_K d 172 Q (am_ldA 57 L st g 0) := am_E_aload_n (by decide +kernel : am_dc 172 56 = some (.aload_n 0)) rfl rfl
theorem x_172_57   : am_E d 172 Q (57, L, .ref a :: st, g) ↔ am_kv d 172 Q 60 L st g (am_gf g a 11 14) := am_E_getfield (by decide +kernel : am_dc 172 57 = some (.getfield 48)) (by decide +kernel) rfl
theorem x_172_60   : am_E d 172 Q (60, L, st, g) ↔ am_K d 172 Q (am_ldA 61 L st g 0) := am_E_aload_n (by decide +kernel : am_dc 172 60 = some (.aload_n 0)) rfl rfl
theorem x_172_61   : am_E d 172 Q (61, L, .ref a :: st, g) ↔ am_kv d 172 Q 64 L st g (am_gf g a 11 11) := am_E_getfield (by decide +kernel : am_dc 172 61 = some (.getfield 211)) (by decide +kernel) rfl
theorem x_172_64   : am_E d 172 Q (64, L, .int x :: .ref a :: st, g) ↔ am_kv d 172 Q 65 L st g (am_iat .iaload g a x) := am_E_iaload (by decide +kernel : am_dc 172 64 = some (.iaload)) rfl
theorem x_172_65   : am_E d 172 Q (65, L, st, g) ↔ am_E d 172 Q (66, L, .int (1) :: st, g) := am_E_iconst (by decide +kernel : am_dc 172 65 = some (.iconst (1))) (by decide) rfl
theorem x_172_66   : am_E d 172 Q (66, L, .int y :: .int x :: st, g) ↔ am_E d 172 Q (67, L, .int (x - y) :: st, g) := am_E_isub (by decide +kernel : am_dc 172 66 = some (.isub)) rfl
theorem x_172_67  : am_E d 172 Q (67, L, [.int x], g) ↔ if am_ok (FieldType.int) (.int x) = true then Q (.inl (some (.int x))) g else False := am_E_ireturn (by decide +kernel : am_dc 172 67 = some (.ireturn)) (by decide +kernel)
theorem f_172_211 : am_fl 172 211 = some (11, 11) := by decide +kernel
theorem f_172_48 : am_fl 172 48 = some (11, 14) := by decide +kernel
theorem f_172_51 : am_fl 172 51 = some (11, 15) := by decide +kernel
theorem f_172_54 : am_fl 172 54 = some (11, 16) := by decide +kernel
theorem f_172_57 : am_fl 172 57 = some (11, 17) := by decide +kernel
theorem t_172 : am_t 172 = some (FieldType.int) := by decide +kernel
theorem h_172 : am_h 172 = [] := by decide +kernel
theorem m_172 : am_m 172 = 5 := by decide +kernel
theorem x_173_0   : am_E d 173 Q (0, L, st, g) ↔ am_K d 173 Q (am_ldA 1 L st g 0) := am_E_aload_n (by decide +kernel : am_dc 173 0 = some (.aload_n 0)) rfl rfl
theorem x_173_1   : am_E d 173 Q (1, L, .ref a :: st, g) ↔ am_kv d 173 Q 4 L st g (am_gf g a 11 25) := am_E_getfield (by decide +kernel : am_dc 173 1 = some (.getfield 233)) (by decide +kernel) rfl
theorem x_173_4   : am_E d 173 Q (4, L, st, g) ↔ am_E d 173 Q (5, L, .int (1) :: st, g) := am_E_iconst (by decide +kernel : am_dc 173 4 = some (.iconst (1))) (by decide) rfl
theorem x_173_5   : am_E d 173 Q (5, L, .int y :: .int x :: st, g) ↔ am_E d 173 Q (6, L, .int (x - y) :: st, g) := am_E_isub (by decide +kernel : am_dc 173 5 = some (.isub)) rfl
theorem x_173_6   : am_E d 173 Q (6, L, st, g) ↔ am_K d 173 Q (am_stI 7 L st g 1) := am_E_istore_n (by decide +kernel : am_dc 173 6 = some (.istore_n 1)) rfl rfl
theorem x_173_7   : am_E d 173 Q (7, L, st, g) ↔ am_K d 173 Q (am_ldA 8 L st g 0) := am_E_aload_n (by decide +kernel : am_dc 173 7 = some (.aload_n 0)) rfl rfl
theorem x_173_8   : am_E d 173 Q (8, L, .ref a :: st, g) ↔ am_kv d 173 Q 11 L st g (am_gf g a 11 26) := am_E_getfield (by decide +kernel : am_dc 173 8 = some (.getfield 79)) (by decide +kernel) rfl
theorem x_173_11   : am_E d 173 Q (11, L, st, g) ↔ am_K d 173 Q (am_ldI 12 L st g 1) := am_E_iload_n (by decide +kernel : am_dc 173 11 = some (.iload_n 1)) rfl rfl
theorem x_173_12   : am_E d 173 Q (12, L, .int x :: .ref a :: st, g) ↔ am_kv d 173 Q 13 L st g (am_iat .iaload g a x) := am_E_iaload (by decide +kernel : am_dc 173 12 = some (.iaload)) rfl
theorem x_173_13   : am_E d 173 Q (13, L, st, g) ↔ am_E d 173 Q (14, L, .int (3) :: st, g) := am_E_iconst (by decide +kernel : am_dc 173 13 = some (.iconst (3))) (by decide) rfl
theorem x_173_14   : am_E d 173 Q (14, L, .int y :: .int x :: st, g) ↔ am_E d 173 Q (am_cmp .ne x y 23 17, L, st, g) := am_E_ic (by decide +kernel : am_dc 173 14 = some (.if_icmp .ne (9))) rfl rfl
theorem x_173_17   (hk : L.getD 1 none = some (.int x)) (hl : 1 < L.length) : am_E d 173 Q (17, L, st, g) ↔ am_E d 173 Q (20, am_s1 L 1 (.int (x + (-1))), st, g) := am_E_iinc (by decide +kernel : am_dc 173 17 = some (.iinc 1 (-1))) (by decide) rfl hk hl
theorem x_173_20   : am_E d 173 Q (20, L, st, g) ↔ am_E d 173 Q (7, L, st, g) := am_E_gt (by decide +kernel : am_dc 173 20 = some (.goto (-13))) rfl rfl
theorem x_173_23   : am_E d 173 Q (23, L, st, g) ↔ am_K d 173 Q (am_ldA 24 L st g 0) := am_E_aload_n (by decide +kernel : am_dc 173 23 = some (.aload_n 0)) rfl rfl
theorem x_173_24   : am_E d 173 Q (24, L, .ref a :: st, g) ↔ am_kv d 173 Q 27 L st g (am_gf g a 11 26) := am_E_getfield (by decide +kernel : am_dc 173 24 = some (.getfield 79)) (by decide +kernel) rfl
theorem x_173_27   : am_E d 173 Q (27, L, st, g) ↔ am_K d 173 Q (am_ldI 28 L st g 1) := am_E_iload_n (by decide +kernel : am_dc 173 27 = some (.iload_n 1)) rfl rfl
theorem x_173_28   : am_E d 173 Q (28, L, .int x :: .ref a :: st, g) ↔ am_kv d 173 Q 29 L st g (am_iat .iaload g a x) := am_E_iaload (by decide +kernel : am_dc 173 28 = some (.iaload)) rfl
theorem x_173_29  : am_E d 173 Q (29, L, [.int x], g) ↔ if am_ok (FieldType.int) (.int x) = true then Q (.inl (some (.int x))) g else False := am_E_ireturn (by decide +kernel : am_dc 173 29 = some (.ireturn)) (by decide +kernel)
theorem f_173_233 : am_fl 173 233 = some (11, 25) := by decide +kernel
theorem f_173_79 : am_fl 173 79 = some (11, 26) := by decide +kernel
theorem t_173 : am_t 173 = some (FieldType.int) := by decide +kernel
theorem h_173 : am_h 173 = [] := by decide +kernel
theorem m_173 : am_m 173 = 2 := by decide +kernel
theorem x_174_0   : am_E d 174 Q (0, L, st, g) ↔ am_K d 174 Q (am_ldA 1 L st g 0) := am_E_aload_n (by decide +kernel : am_dc 174 0 = some (.aload_n 0)) rfl rfl
theorem x_174_1   : am_E d 174 Q (1, L, .ref a :: st, g) ↔ am_kv d 174 Q 4 L st g (am_gf g a 11 26) := am_E_getfield (by decide +kernel : am_dc 174 1 = some (.getfield 79)) (by decide +kernel) rfl
theorem x_174_4   : am_E d 174 Q (4, L, st, g) ↔ am_K d 174 Q (am_ldA 5 L st g 0) := am_E_aload_n (by decide +kernel : am_dc 174 4 = some (.aload_n 0)) rfl rfl
theorem x_174_5   : am_E d 174 Q (5, L, .ref a :: st, g) ↔ am_kv d 174 Q 8 L st g (am_gf g a 11 25) := am_E_getfield (by decide +kernel : am_dc 174 5 = some (.getfield 233)) (by decide +kernel) rfl
theorem x_174_8   : am_E d 174 Q (8, L, st, g) ↔ am_E d 174 Q (9, L, .int (1) :: st, g) := am_E_iconst (by decide +kernel : am_dc 174 8 = some (.iconst (1))) (by decide) rfl
theorem x_174_9   : am_E d 174 Q (9, L, .int y :: .int x :: st, g) ↔ am_E d 174 Q (10, L, .int (x - y) :: st, g) := am_E_isub (by decide +kernel : am_dc 174 9 = some (.isub)) rfl
theorem x_174_10   : am_E d 174 Q (10, L, .int x :: .ref a :: st, g) ↔ am_kv d 174 Q 11 L st g (am_iat .iaload g a x) := am_E_iaload (by decide +kernel : am_dc 174 10 = some (.iaload)) rfl
theorem x_174_11   : am_E d 174 Q (11, L, st, g) ↔ am_E d 174 Q (12, L, .int (3) :: st, g) := am_E_iconst (by decide +kernel : am_dc 174 11 = some (.iconst (3))) (by decide) rfl
theorem x_174_12   : am_E d 174 Q (12, L, .int y :: .int x :: st, g) ↔ am_E d 174 Q (am_cmp .ne x y 93 15, L, st, g) := am_E_ic (by decide +kernel : am_dc 174 12 = some (.if_icmp .ne (81))) rfl rfl
theorem x_174_15   : am_E d 174 Q (15, L, st, g) ↔ am_K d 174 Q (am_ldA 16 L st g 0) := am_E_aload_n (by decide +kernel : am_dc 174 15 = some (.aload_n 0)) rfl rfl
theorem x_174_16   : am_E d 174 Q (16, L, st, g) ↔ am_E d 174 Q (17, L, .int (1) :: st, g) := am_E_iconst (by decide +kernel : am_dc 174 16 = some (.iconst (1))) (by decide) rfl
theorem x_174_17  : am_E d 174 Q (17, L, st, g) ↔ am_K d 174 Q (am_S 174 (.invokevirtual 245) 17 L st g) := am_E_x (by decide +kernel : am_dc 174 17 = some (.invokevirtual 245))
theorem x_174_20   : am_E d 174 Q (20, L, st, g) ↔ am_K d 174 Q (am_ldA 21 L st g 0) := am_E_aload_n (by decide +kernel : am_dc 174 20 = some (.aload_n 0)) rfl rfl
theorem x_174_21   : am_E d 174 Q (21, L, .ref a :: st, g) ↔ am_kv d 174 Q 24 L st g (am_gf g a 11 14) := am_E_getfield (by decide +kernel : am_dc 174 21 = some (.getfield 48)) (by decide +kernel) rfl
theorem x_174_24   : am_E d 174 Q (24, L, st, g) ↔ am_K d 174 Q (am_ldA 25 L st g 0) := am_E_aload_n (by decide +kernel : am_dc 174 24 = some (.aload_n 0)) rfl rfl
theorem x_174_25   : am_E d 174 Q (25, L, .ref a :: st, g) ↔ am_kv d 174 Q 28 L st g (am_gf g a 11 11) := am_E_getfield (by decide +kernel : am_dc 174 25 = some (.getfield 211)) (by decide +kernel) rfl
theorem x_174_28   : am_E d 174 Q (28, L, .int x :: .ref a :: st, g) ↔ am_kv d 174 Q 29 L st g (am_iat .iaload g a x) := am_E_iaload (by decide +kernel : am_dc 174 28 = some (.iaload)) rfl
theorem x_174_29   : am_E d 174 Q (29, L, st, g) ↔ am_K d 174 Q (am_stI 30 L st g 1) := am_E_istore_n (by decide +kernel : am_dc 174 29 = some (.istore_n 1)) rfl rfl
theorem x_174_30   : am_E d 174 Q (30, L, st, g) ↔ am_K d 174 Q (am_ldA 31 L st g 0) := am_E_aload_n (by decide +kernel : am_dc 174 30 = some (.aload_n 0)) rfl rfl
theorem x_174_31   : am_E d 174 Q (31, L, .ref a :: st, g) ↔ am_kv d 174 Q 34 L st g (am_gf g a 11 16) := am_E_getfield (by decide +kernel : am_dc 174 31 = some (.getfield 54)) (by decide +kernel) rfl
theorem x_174_34   : am_E d 174 Q (34, L, st, g) ↔ am_E d 174 Q (36, L, .int (64) :: st, g) := am_E_bipush (by decide +kernel : am_dc 174 34 = some (.bipush (64))) (by decide) rfl
theorem x_174_36   : am_E d 174 Q (36, L, st, g) ↔ am_K d 174 Q (am_ldA 37 L st g 0) := am_E_aload_n (by decide +kernel : am_dc 174 36 = some (.aload_n 0)) rfl rfl
theorem x_174_37   : am_E d 174 Q (37, L, .ref a :: st, g) ↔ am_kv d 174 Q 40 L st g (am_gf g a 11 11) := am_E_getfield (by decide +kernel : am_dc 174 37 = some (.getfield 211)) (by decide +kernel) rfl
theorem x_174_40   : am_E d 174 Q (40, L, .int y :: .int x :: st, g) ↔ am_E d 174 Q (41, L, .int (x * y) :: st, g) := am_E_imul (by decide +kernel : am_dc 174 40 = some (.imul)) rfl
theorem x_174_41   : am_E d 174 Q (41, L, st, g) ↔ am_K d 174 Q (am_ldA 42 L st g 0) := am_E_aload_n (by decide +kernel : am_dc 174 41 = some (.aload_n 0)) rfl rfl
theorem x_174_42   : am_E d 174 Q (42, L, .ref a :: st, g) ↔ am_kv d 174 Q 45 L st g (am_gf g a 11 29) := am_E_getfield (by decide +kernel : am_dc 174 42 = some (.getfield 88)) (by decide +kernel) rfl
theorem x_174_45   : am_E d 174 Q (45, L, st, g) ↔ am_K d 174 Q (am_ldA 46 L st g 0) := am_E_aload_n (by decide +kernel : am_dc 174 45 = some (.aload_n 0)) rfl rfl
theorem x_174_46   : am_E d 174 Q (46, L, .ref a :: st, g) ↔ am_kv d 174 Q 49 L st g (am_gf g a 11 25) := am_E_getfield (by decide +kernel : am_dc 174 46 = some (.getfield 233)) (by decide +kernel) rfl
theorem x_174_49   : am_E d 174 Q (49, L, st, g) ↔ am_E d 174 Q (50, L, .int (1) :: st, g) := am_E_iconst (by decide +kernel : am_dc 174 49 = some (.iconst (1))) (by decide) rfl
theorem x_174_50   : am_E d 174 Q (50, L, .int y :: .int x :: st, g) ↔ am_E d 174 Q (51, L, .int (x - y) :: st, g) := am_E_isub (by decide +kernel : am_dc 174 50 = some (.isub)) rfl
theorem x_174_51   : am_E d 174 Q (51, L, .int x :: .ref a :: st, g) ↔ am_kv d 174 Q 52 L st g (am_iat .iaload g a x) := am_E_iaload (by decide +kernel : am_dc 174 51 = some (.iaload)) rfl
theorem x_174_52   : am_E d 174 Q (52, L, .int y :: .int x :: st, g) ↔ am_E d 174 Q (53, L, .int (x + y) :: st, g) := am_E_iadd (by decide +kernel : am_dc 174 52 = some (.iadd)) rfl
theorem x_174_53   : am_E d 174 Q (53, L, st, g) ↔ am_K d 174 Q (am_ldI 54 L st g 1) := am_E_iload_n (by decide +kernel : am_dc 174 53 = some (.iload_n 1)) rfl rfl
theorem x_174_54   : am_E d 174 Q (54, L, v :: .int x :: .ref a :: st, g) ↔ am_kg d 174 Q 55 L st (am_sat .iastore g a x v) := am_E_iastore (by decide +kernel : am_dc 174 54 = some (.iastore)) rfl
theorem x_174_55   : am_E d 174 Q (55, L, st, g) ↔ am_K d 174 Q (am_ldA 56 L st g 0) := am_E_aload_n (by decide +kernel : am_dc 174 55 = some (.aload_n 0)) rfl rfl
theorem x_174_56   : am_E d 174 Q (56, L, .ref a :: st, g) ↔ am_kv d 174 Q 59 L st g (am_gf g a 11 17) := am_E_getfield (by decide +kernel : am_dc 174 56 = some (.getfield 57)) (by decide +kernel) rfl
theorem x_174_59   : am_E d 174 Q (59, L, st, g) ↔ am_E d 174 Q (61, L, .int (64) :: st, g) := am_E_bipush (by decide +kernel : am_dc 174 59 = some (.bipush (64))) (by decide) rfl
theorem x_174_61   : am_E d 174 Q (61, L, st, g) ↔ am_K d 174 Q (am_ldA 62 L st g 0) := am_E_aload_n (by decide +kernel : am_dc 174 61 = some (.aload_n 0)) rfl rfl
theorem x_174_62   : am_E d 174 Q (62, L, .ref a :: st, g) ↔ am_kv d 174 Q 65 L st g (am_gf g a 11 11) := am_E_getfield (by decide +kernel : am_dc 174 62 = some (.getfield 211)) (by decide +kernel) rfl
theorem x_174_65   : am_E d 174 Q (65, L, .int y :: .int x :: st, g) ↔ am_E d 174 Q (66, L, .int (x * y) :: st, g) := am_E_imul (by decide +kernel : am_dc 174 65 = some (.imul)) rfl
theorem x_174_66   : am_E d 174 Q (66, L, st, g) ↔ am_K d 174 Q (am_ldA 67 L st g 0) := am_E_aload_n (by decide +kernel : am_dc 174 66 = some (.aload_n 0)) rfl rfl
theorem x_174_67   : am_E d 174 Q (67, L, .ref a :: st, g) ↔ am_kv d 174 Q 70 L st g (am_gf g a 11 30) := am_E_getfield (by decide +kernel : am_dc 174 67 = some (.getfield 91)) (by decide +kernel) rfl
theorem x_174_70   : am_E d 174 Q (70, L, st, g) ↔ am_K d 174 Q (am_ldA 71 L st g 0) := am_E_aload_n (by decide +kernel : am_dc 174 70 = some (.aload_n 0)) rfl rfl
theorem x_174_71   : am_E d 174 Q (71, L, .ref a :: st, g) ↔ am_kv d 174 Q 74 L st g (am_gf g a 11 25) := am_E_getfield (by decide +kernel : am_dc 174 71 = some (.getfield 233)) (by decide +kernel) rfl
theorem x_174_74   : am_E d 174 Q (74, L, st, g) ↔ am_E d 174 Q (75, L, .int (1) :: st, g) := am_E_iconst (by decide +kernel : am_dc 174 74 = some (.iconst (1))) (by decide) rfl
theorem x_174_75   : am_E d 174 Q (75, L, .int y :: .int x :: st, g) ↔ am_E d 174 Q (76, L, .int (x - y) :: st, g) := am_E_isub (by decide +kernel : am_dc 174 75 = some (.isub)) rfl
theorem x_174_76   : am_E d 174 Q (76, L, .int x :: .ref a :: st, g) ↔ am_kv d 174 Q 77 L st g (am_iat .iaload g a x) := am_E_iaload (by decide +kernel : am_dc 174 76 = some (.iaload)) rfl
theorem x_174_77   : am_E d 174 Q (77, L, .int y :: .int x :: st, g) ↔ am_E d 174 Q (78, L, .int (x + y) :: st, g) := am_E_iadd (by decide +kernel : am_dc 174 77 = some (.iadd)) rfl
theorem x_174_78   : am_E d 174 Q (78, L, st, g) ↔ am_K d 174 Q (am_ldI 79 L st g 1) := am_E_iload_n (by decide +kernel : am_dc 174 78 = some (.iload_n 1)) rfl rfl
theorem x_174_79   : am_E d 174 Q (79, L, v :: .int x :: .ref a :: st, g) ↔ am_kg d 174 Q 80 L st (am_sat .iastore g a x v) := am_E_iastore (by decide +kernel : am_dc 174 79 = some (.iastore)) rfl
theorem x_174_80   : am_E d 174 Q (80, L, st, g) ↔ am_K d 174 Q (am_ldA 81 L st g 0) := am_E_aload_n (by decide +kernel : am_dc 174 80 = some (.aload_n 0)) rfl rfl
theorem x_174_81   : am_E d 174 Q (81, L, v :: st, g) ↔ if v.category = 1 then am_E d 174 Q (82, L, v :: v :: st, g) else False := am_E_dup (by decide +kernel : am_dc 174 81 = some (.dup)) rfl
theorem x_174_82   : am_E d 174 Q (82, L, .ref a :: st, g) ↔ am_kv d 174 Q 85 L st g (am_gf g a 11 25) := am_E_getfield (by decide +kernel : am_dc 174 82 = some (.getfield 233)) (by decide +kernel) rfl
theorem x_174_85   : am_E d 174 Q (85, L, st, g) ↔ am_E d 174 Q (86, L, .int (1) :: st, g) := am_E_iconst (by decide +kernel : am_dc 174 85 = some (.iconst (1))) (by decide) rfl
theorem x_174_86   : am_E d 174 Q (86, L, .int y :: .int x :: st, g) ↔ am_E d 174 Q (87, L, .int (x - y) :: st, g) := am_E_isub (by decide +kernel : am_dc 174 86 = some (.isub)) rfl
theorem x_174_87   (hok : (am_ok (am_ft 11 25).1 v && (!(am_ft 11 25).2 || (am_ini 174 && am_co 11 == am_o 174)) && decide (11 < 13)) = true) : am_E d 174 Q (87, L, v :: .ref a :: st, g) ↔ am_kg d 174 Q 90 L st (am_pf g a 11 25 v) := am_E_putfield (by decide +kernel : am_dc 174 87 = some (.putfield 233)) (by decide +kernel) rfl hok
theorem x_174_90   : am_E d 174 Q (90, L, st, g) ↔ am_E d 174 Q (0, L, st, g) := am_E_gt (by decide +kernel : am_dc 174 90 = some (.goto (-90))) rfl rfl
theorem x_174_93  : am_E d 174 Q (93, L, [], g) ↔ Q (.inl none) g := am_E_return (by decide +kernel : am_dc 174 93 = some (.return_)) (by decide +kernel)
theorem f_174_79 : am_fl 174 79 = some (11, 26) := by decide +kernel
theorem f_174_233 : am_fl 174 233 = some (11, 25) := by decide +kernel
theorem v_174_245 : am_iv 174 245 = some (1, 216, 2) := by decide +kernel
theorem f_174_48 : am_fl 174 48 = some (11, 14) := by decide +kernel
theorem f_174_211 : am_fl 174 211 = some (11, 11) := by decide +kernel
theorem f_174_54 : am_fl 174 54 = some (11, 16) := by decide +kernel
theorem f_174_88 : am_fl 174 88 = some (11, 29) := by decide +kernel
theorem f_174_57 : am_fl 174 57 = some (11, 17) := by decide +kernel
theorem f_174_91 : am_fl 174 91 = some (11, 30) := by decide +kernel
theorem t_174 : am_t 174 = none := by decide +kernel
theorem h_174 : am_h 174 = [] := by decide +kernel
theorem m_174 : am_m 174 = 2 := by decide +kernel
theorem x_175_0   : am_E d 175 Q (0, L, st, g) ↔ am_K d 175 Q (am_ldA 1 L st g 0) := am_E_aload_n (by decide +kernel : am_dc 175 0 = some (.aload_n 0)) rfl rfl
theorem x_175_1   : am_E d 175 Q (1, L, .ref a :: st, g) ↔ am_kv d 175 Q 4 L st g (am_gf g a 11 33) := am_E_getfield (by decide +kernel : am_dc 175 1 = some (.getfield 248)) (by decide +kernel) rfl
theorem x_175_4   : am_E d 175 Q (4, L, st, g) ↔ am_E d 175 Q (5, L, .int (1) :: st, g) := am_E_iconst (by decide +kernel : am_dc 175 4 = some (.iconst (1))) (by decide) rfl
theorem x_175_5   : am_E d 175 Q (5, L, .int y :: .int x :: st, g) ↔ am_E d 175 Q (am_cmp .ne x y 22 8, L, st, g) := am_E_ic (by decide +kernel : am_dc 175 5 = some (.if_icmp .ne (17))) rfl rfl
theorem x_175_8   : am_E d 175 Q (8, L, st, g) ↔ am_K d 175 Q (am_ldA 9 L st g 0) := am_E_aload_n (by decide +kernel : am_dc 175 8 = some (.aload_n 0)) rfl rfl
theorem x_175_9   : am_E d 175 Q (9, L, st, g) ↔ am_E d 175 Q (10, L, .int (0) :: st, g) := am_E_iconst (by decide +kernel : am_dc 175 9 = some (.iconst (0))) (by decide) rfl
theorem x_175_10   : am_E d 175 Q (10, L, st, g) ↔ am_K d 175 Q (am_ldA 11 L st g 0) := am_E_aload_n (by decide +kernel : am_dc 175 10 = some (.aload_n 0)) rfl rfl
theorem x_175_11   : am_E d 175 Q (11, L, .ref a :: st, g) ↔ am_kv d 175 Q 14 L st g (am_gf g a 11 35) := am_E_getfield (by decide +kernel : am_dc 175 11 = some (.getfield 251)) (by decide +kernel) rfl
theorem x_175_14   : am_E d 175 Q (14, L, st, g) ↔ am_E d 175 Q (15, L, .int (0) :: st, g) := am_E_iconst (by decide +kernel : am_dc 175 14 = some (.iconst (0))) (by decide) rfl
theorem x_175_15  : am_E d 175 Q (15, L, st, g) ↔ am_K d 175 Q (am_S 175 (.invokevirtual 242) 15 L st g) := am_E_x (by decide +kernel : am_dc 175 15 = some (.invokevirtual 242))
theorem x_175_18   : am_E d 175 Q (18, L, st, g) ↔ am_K d 175 Q (am_stI 19 L st g 1) := am_E_istore_n (by decide +kernel : am_dc 175 18 = some (.istore_n 1)) rfl rfl
theorem x_175_19   : am_E d 175 Q (19, L, st, g) ↔ am_E d 175 Q (54, L, st, g) := am_E_gt (by decide +kernel : am_dc 175 19 = some (.goto (35))) rfl rfl
theorem x_175_22   : am_E d 175 Q (22, L, st, g) ↔ am_K d 175 Q (am_ldA 23 L st g 0) := am_E_aload_n (by decide +kernel : am_dc 175 22 = some (.aload_n 0)) rfl rfl
theorem x_175_23   : am_E d 175 Q (23, L, .ref a :: st, g) ↔ am_kv d 175 Q 26 L st g (am_gf g a 11 33) := am_E_getfield (by decide +kernel : am_dc 175 23 = some (.getfield 248)) (by decide +kernel) rfl
theorem x_175_26   : am_E d 175 Q (26, L, st, g) ↔ am_E d 175 Q (27, L, .int (3) :: st, g) := am_E_iconst (by decide +kernel : am_dc 175 26 = some (.iconst (3))) (by decide) rfl
theorem x_175_27   : am_E d 175 Q (27, L, .int y :: .int x :: st, g) ↔ am_E d 175 Q (am_cmp .ne x y 54 30, L, st, g) := am_E_ic (by decide +kernel : am_dc 175 27 = some (.if_icmp .ne (27))) rfl rfl
theorem x_175_30   : am_E d 175 Q (30, L, st, g) ↔ am_K d 175 Q (am_ldA 31 L st g 0) := am_E_aload_n (by decide +kernel : am_dc 175 30 = some (.aload_n 0)) rfl rfl
theorem x_175_31   : am_E d 175 Q (31, L, st, g) ↔ am_E d 175 Q (32, L, .int (1) :: st, g) := am_E_iconst (by decide +kernel : am_dc 175 31 = some (.iconst (1))) (by decide) rfl
theorem x_175_32   : am_E d 175 Q (32, L, st, g) ↔ am_K d 175 Q (am_ldA 33 L st g 0) := am_E_aload_n (by decide +kernel : am_dc 175 32 = some (.aload_n 0)) rfl rfl
theorem x_175_33   : am_E d 175 Q (33, L, .ref a :: st, g) ↔ am_kv d 175 Q 36 L st g (am_gf g a 11 36) := am_E_getfield (by decide +kernel : am_dc 175 33 = some (.getfield 254)) (by decide +kernel) rfl
theorem x_175_36   : am_E d 175 Q (36, L, st, g) ↔ am_K d 175 Q (am_ldA 37 L st g 0) := am_E_aload_n (by decide +kernel : am_dc 175 36 = some (.aload_n 0)) rfl rfl
theorem x_175_37   : am_E d 175 Q (37, L, .ref a :: st, g) ↔ am_kv d 175 Q 40 L st g (am_gf g a 11 18) := am_E_getfield (by decide +kernel : am_dc 175 37 = some (.getfield 60)) (by decide +kernel) rfl
theorem x_175_40   : am_E d 175 Q (40, L, st, g) ↔ am_K d 175 Q (am_ldA 41 L st g 0) := am_E_aload_n (by decide +kernel : am_dc 175 40 = some (.aload_n 0)) rfl rfl
theorem x_175_41   : am_E d 175 Q (41, L, .ref a :: st, g) ↔ am_kv d 175 Q 44 L st g (am_gf g a 11 11) := am_E_getfield (by decide +kernel : am_dc 175 41 = some (.getfield 211)) (by decide +kernel) rfl
theorem x_175_44   : am_E d 175 Q (44, L, .int x :: .ref a :: st, g) ↔ am_kv d 175 Q 45 L st g (am_iat .iaload g a x) := am_E_iaload (by decide +kernel : am_dc 175 44 = some (.iaload)) rfl
theorem x_175_45   : am_E d 175 Q (45, L, st, g) ↔ am_K d 175 Q (am_ldA 46 L st g 0) := am_E_aload_n (by decide +kernel : am_dc 175 45 = some (.aload_n 0)) rfl rfl
theorem x_175_46   : am_E d 175 Q (46, L, .ref a :: st, g) ↔ am_kv d 175 Q 49 L st g (am_gf g a 11 36) := am_E_getfield (by decide +kernel : am_dc 175 46 = some (.getfield 254)) (by decide +kernel) rfl
theorem x_175_49   : am_E d 175 Q (49, L, .int y :: .int x :: st, g) ↔ am_E d 175 Q (50, L, .int (x - y) :: st, g) := am_E_isub (by decide +kernel : am_dc 175 49 = some (.isub)) rfl
theorem x_175_50  : am_E d 175 Q (50, L, st, g) ↔ am_K d 175 Q (am_S 175 (.invokevirtual 242) 50 L st g) := am_E_x (by decide +kernel : am_dc 175 50 = some (.invokevirtual 242))
theorem x_175_53   : am_E d 175 Q (53, L, st, g) ↔ am_K d 175 Q (am_stI 54 L st g 1) := am_E_istore_n (by decide +kernel : am_dc 175 53 = some (.istore_n 1)) rfl rfl
theorem x_175_54   : am_E d 175 Q (54, L, st, g) ↔ am_K d 175 Q (am_ldA 55 L st g 0) := am_E_aload_n (by decide +kernel : am_dc 175 54 = some (.aload_n 0)) rfl rfl
theorem x_175_55   : am_E d 175 Q (55, L, st, g) ↔ am_E d 175 Q (56, L, .int (4) :: st, g) := am_E_iconst (by decide +kernel : am_dc 175 55 = some (.iconst (4))) (by decide) rfl
theorem x_175_56   (hok : (am_ok (am_ft 11 33).1 v && (!(am_ft 11 33).2 || (am_ini 175 && am_co 11 == am_o 175)) && decide (11 < 13)) = true) : am_E d 175 Q (56, L, v :: .ref a :: st, g) ↔ am_kg d 175 Q 59 L st (am_pf g a 11 33 v) := am_E_putfield (by decide +kernel : am_dc 175 56 = some (.putfield 248)) (by decide +kernel) rfl hok
theorem x_175_59  : am_E d 175 Q (59, L, [], g) ↔ Q (.inl none) g := am_E_return (by decide +kernel : am_dc 175 59 = some (.return_)) (by decide +kernel)
theorem f_175_248 : am_fl 175 248 = some (11, 33) := by decide +kernel
theorem f_175_251 : am_fl 175 251 = some (11, 35) := by decide +kernel
theorem v_175_242 : am_iv 175 242 = some (1, 172, 4) := by decide +kernel
theorem f_175_254 : am_fl 175 254 = some (11, 36) := by decide +kernel
theorem f_175_60 : am_fl 175 60 = some (11, 18) := by decide +kernel
theorem f_175_211 : am_fl 175 211 = some (11, 11) := by decide +kernel
theorem t_175 : am_t 175 = none := by decide +kernel
theorem h_175 : am_h 175 = [] := by decide +kernel
theorem m_175 : am_m 175 = 2 := by decide +kernel
theorem x_176_0   : am_E d 176 Q (0, L, st, g) ↔ am_K d 176 Q (am_ldA 1 L st g 0) := am_E_aload_n (by decide +kernel : am_dc 176 0 = some (.aload_n 0)) rfl rfl
theorem x_176_1  : am_E d 176 Q (1, L, st, g) ↔ am_K d 176 Q (am_S 176 (.invokevirtual 402) 1 L st g) := am_E_x (by decide +kernel : am_dc 176 1 = some (.invokevirtual 402))
theorem x_176_4   : am_E d 176 Q (4, L, st, g) ↔ am_K d 176 Q (am_stI 5 L st g 2) := am_E_istore_n (by decide +kernel : am_dc 176 4 = some (.istore_n 2)) rfl rfl
theorem x_176_5   : am_E d 176 Q (5, L, st, g) ↔ am_K d 176 Q (am_ldA 6 L st g 0) := am_E_aload_n (by decide +kernel : am_dc 176 5 = some (.aload_n 0)) rfl rfl
theorem x_176_6   : am_E d 176 Q (6, L, st, g) ↔ am_K d 176 Q (am_ldA 7 L st g 0) := am_E_aload_n (by decide +kernel : am_dc 176 6 = some (.aload_n 0)) rfl rfl
theorem x_176_7   : am_E d 176 Q (7, L, st, g) ↔ am_K d 176 Q (am_ldI 8 L st g 1) := am_E_iload_n (by decide +kernel : am_dc 176 7 = some (.iload_n 1)) rfl rfl
theorem x_176_8  : am_E d 176 Q (8, L, st, g) ↔ am_K d 176 Q (am_S 176 (.invokevirtual 399) 8 L st g) := am_E_x (by decide +kernel : am_dc 176 8 = some (.invokevirtual 399))
theorem x_176_11   : am_E d 176 Q (11, L, .int x :: st, g) ↔ am_E d 176 Q (am_cmp .eq x 0 22 14, L, st, g) := am_E_if (by decide +kernel : am_dc 176 11 = some (.ifCond .eq (11))) rfl rfl
theorem x_176_14   : am_E d 176 Q (14, L, st, g) ↔ am_K d 176 Q (am_ldI 15 L st g 2) := am_E_iload_n (by decide +kernel : am_dc 176 14 = some (.iload_n 2)) rfl rfl
theorem x_176_15   : am_E d 176 Q (15, L, .int x :: st, g) ↔ am_E d 176 Q (am_cmp .lt x 0 22 18, L, st, g) := am_E_if (by decide +kernel : am_dc 176 15 = some (.ifCond .lt (7))) rfl rfl
theorem x_176_18   : am_E d 176 Q (18, L, st, g) ↔ am_E d 176 Q (19, L, .int (1) :: st, g) := am_E_iconst (by decide +kernel : am_dc 176 18 = some (.iconst (1))) (by decide) rfl
theorem x_176_19   : am_E d 176 Q (19, L, st, g) ↔ am_E d 176 Q (23, L, st, g) := am_E_gt (by decide +kernel : am_dc 176 19 = some (.goto (4))) rfl rfl
theorem x_176_22   : am_E d 176 Q (22, L, st, g) ↔ am_E d 176 Q (23, L, .int (0) :: st, g) := am_E_iconst (by decide +kernel : am_dc 176 22 = some (.iconst (0))) (by decide) rfl
theorem x_176_23   : am_E d 176 Q (23, L, st, g) ↔ am_E d 176 Q (24, L, .int (1) :: st, g) := am_E_iconst (by decide +kernel : am_dc 176 23 = some (.iconst (1))) (by decide) rfl
theorem x_176_24   : am_E d 176 Q (24, L, st, g) ↔ am_E d 176 Q (25, L, .int (1) :: st, g) := am_E_iconst (by decide +kernel : am_dc 176 24 = some (.iconst (1))) (by decide) rfl
theorem x_176_25  : am_E d 176 Q (25, L, st, g) ↔ am_K d 176 Q (am_S 176 (.invokevirtual 196) 25 L st g) := am_E_x (by decide +kernel : am_dc 176 25 = some (.invokevirtual 196))
theorem x_176_28   : am_E d 176 Q (28, L, .int x :: st, g) ↔ am_E d 176 Q (am_cmp .eq x 0 46 31, L, st, g) := am_E_if (by decide +kernel : am_dc 176 28 = some (.ifCond .eq (18))) rfl rfl
theorem x_176_31   : am_E d 176 Q (31, L, st, g) ↔ am_K d 176 Q (am_ldA 32 L st g 0) := am_E_aload_n (by decide +kernel : am_dc 176 31 = some (.aload_n 0)) rfl rfl
theorem x_176_32   : am_E d 176 Q (32, L, .ref a :: st, g) ↔ am_kv d 176 Q 35 L st g (am_gf g a 11 9) := am_E_getfield (by decide +kernel : am_dc 176 32 = some (.getfield 36)) (by decide +kernel) rfl
theorem x_176_35   : am_E d 176 Q (35, L, st, g) ↔ am_E d 176 Q (38, L, .int (216) :: st, g) := am_E_sipush (by decide +kernel : am_dc 176 35 = some (.sipush (216))) (by decide) rfl
theorem x_176_38   : am_E d 176 Q (38, L, st, g) ↔ am_K d 176 Q (am_ldI 39 L st g 1) := am_E_iload_n (by decide +kernel : am_dc 176 38 = some (.iload_n 1)) rfl rfl
theorem x_176_39   : am_E d 176 Q (39, L, .int y :: .int x :: st, g) ↔ am_E d 176 Q (40, L, .int (x * y) :: st, g) := am_E_imul (by decide +kernel : am_dc 176 39 = some (.imul)) rfl
theorem x_176_40   : am_E d 176 Q (40, L, st, g) ↔ am_K d 176 Q (am_ldI 41 L st g 2) := am_E_iload_n (by decide +kernel : am_dc 176 40 = some (.iload_n 2)) rfl rfl
theorem x_176_41   : am_E d 176 Q (41, L, .int y :: .int x :: st, g) ↔ am_E d 176 Q (42, L, .int (x + y) :: st, g) := am_E_iadd (by decide +kernel : am_dc 176 41 = some (.iadd)) rfl
theorem x_176_42   : am_E d 176 Q (42, L, .int x :: .ref a :: st, g) ↔ am_kv d 176 Q 43 L st g (am_iat .baload g a x) := am_E_baload (by decide +kernel : am_dc 176 42 = some (.baload)) rfl
theorem x_176_43   : am_E d 176 Q (43, L, .int x :: st, g) ↔ am_E d 176 Q (am_cmp .ne x 0 48 46, L, st, g) := am_E_if (by decide +kernel : am_dc 176 43 = some (.ifCond .ne (5))) rfl rfl
theorem x_176_46   : am_E d 176 Q (46, L, st, g) ↔ am_E d 176 Q (47, L, .int (0) :: st, g) := am_E_iconst (by decide +kernel : am_dc 176 46 = some (.iconst (0))) (by decide) rfl
theorem x_176_47  : am_E d 176 Q (47, L, [.int x], g) ↔ if am_ok (FieldType.boolean) (.int x) = true then Q (.inl (some (.int x))) g else False := am_E_ireturn (by decide +kernel : am_dc 176 47 = some (.ireturn)) (by decide +kernel)
theorem x_176_48   : am_E d 176 Q (48, L, st, g) ↔ am_K d 176 Q (am_ldA 49 L st g 0) := am_E_aload_n (by decide +kernel : am_dc 176 48 = some (.aload_n 0)) rfl rfl
theorem x_176_49   : am_E d 176 Q (49, L, st, g) ↔ am_K d 176 Q (am_ldI 50 L st g 1) := am_E_iload_n (by decide +kernel : am_dc 176 49 = some (.iload_n 1)) rfl rfl
theorem x_176_50  : am_E d 176 Q (50, L, st, g) ↔ am_K d 176 Q (am_S 176 (.invokevirtual 411) 50 L st g) := am_E_x (by decide +kernel : am_dc 176 50 = some (.invokevirtual 411))
theorem x_176_53   : am_E d 176 Q (53, L, st, g) ↔ am_K d 176 Q (am_ldA 54 L st g 0) := am_E_aload_n (by decide +kernel : am_dc 176 53 = some (.aload_n 0)) rfl rfl
theorem x_176_54   : am_E d 176 Q (54, L, st, g) ↔ am_K d 176 Q (am_ldI 55 L st g 2) := am_E_iload_n (by decide +kernel : am_dc 176 54 = some (.iload_n 2)) rfl rfl
theorem x_176_55   : am_E d 176 Q (55, L, st, g) ↔ am_E d 176 Q (56, L, .int (0) :: st, g) := am_E_iconst (by decide +kernel : am_dc 176 55 = some (.iconst (0))) (by decide) rfl
theorem x_176_56   : am_E d 176 Q (56, L, st, g) ↔ am_E d 176 Q (57, L, .int (0) :: st, g) := am_E_iconst (by decide +kernel : am_dc 176 56 = some (.iconst (0))) (by decide) rfl
theorem x_176_57  : am_E d 176 Q (57, L, st, g) ↔ am_K d 176 Q (am_S 176 (.invokevirtual 414) 57 L st g) := am_E_x (by decide +kernel : am_dc 176 57 = some (.invokevirtual 414))
theorem x_176_60   : am_E d 176 Q (60, L, st, g) ↔ am_E d 176 Q (61, L, .int (1) :: st, g) := am_E_iconst (by decide +kernel : am_dc 176 60 = some (.iconst (1))) (by decide) rfl
theorem x_176_61  : am_E d 176 Q (61, L, [.int x], g) ↔ if am_ok (FieldType.boolean) (.int x) = true then Q (.inl (some (.int x))) g else False := am_E_ireturn (by decide +kernel : am_dc 176 61 = some (.ireturn)) (by decide +kernel)
theorem v_176_402 : am_iv 176 402 = some (1, 186, 1) := by decide +kernel
theorem v_176_399 : am_iv 176 399 = some (1, 193, 2) := by decide +kernel
theorem v_176_196 : am_iv 176 196 = some (1, 185, 4) := by decide +kernel
theorem f_176_36 : am_fl 176 36 = some (11, 9) := by decide +kernel
theorem v_176_411 : am_iv 176 411 = some (1, 209, 2) := by decide +kernel
theorem v_176_414 : am_iv 176 414 = some (1, 163, 4) := by decide +kernel
theorem t_176 : am_t 176 = some (FieldType.boolean) := by decide +kernel
theorem h_176 : am_h 176 = [] := by decide +kernel
theorem m_176 : am_m 176 = 3 := by decide +kernel
theorem x_177_0   : am_E d 177 Q (0, L, st, g) ↔ am_K d 177 Q (am_ldI 1 L st g 0) := am_E_iload_n (by decide +kernel : am_dc 177 0 = some (.iload_n 0)) rfl rfl
theorem x_177_1   : am_E d 177 Q (1, L, st, g) ↔ am_E d 177 Q (2, L, .int (2) :: st, g) := am_E_iconst (by decide +kernel : am_dc 177 1 = some (.iconst (2))) (by decide) rfl
theorem x_177_2   : am_E d 177 Q (2, L, .int y :: .int x :: st, g) ↔ am_E d 177 Q (am_cmp .eq x y 15 5, L, st, g) := am_E_ic (by decide +kernel : am_dc 177 2 = some (.if_icmp .eq (13))) rfl rfl
theorem x_177_5   : am_E d 177 Q (5, L, st, g) ↔ am_K d 177 Q (am_ldI 6 L st g 0) := am_E_iload_n (by decide +kernel : am_dc 177 5 = some (.iload_n 0)) rfl rfl
theorem x_177_6   : am_E d 177 Q (6, L, st, g) ↔ am_E d 177 Q (7, L, .int (3) :: st, g) := am_E_iconst (by decide +kernel : am_dc 177 6 = some (.iconst (3))) (by decide) rfl
theorem x_177_7   : am_E d 177 Q (7, L, .int y :: .int x :: st, g) ↔ am_E d 177 Q (am_cmp .eq x y 15 10, L, st, g) := am_E_ic (by decide +kernel : am_dc 177 7 = some (.if_icmp .eq (8))) rfl rfl
theorem x_177_10   : am_E d 177 Q (10, L, st, g) ↔ am_K d 177 Q (am_ldI 11 L st g 0) := am_E_iload_n (by decide +kernel : am_dc 177 10 = some (.iload_n 0)) rfl rfl
theorem x_177_11   : am_E d 177 Q (11, L, st, g) ↔ am_E d 177 Q (12, L, .int (4) :: st, g) := am_E_iconst (by decide +kernel : am_dc 177 11 = some (.iconst (4))) (by decide) rfl
theorem x_177_12   : am_E d 177 Q (12, L, .int y :: .int x :: st, g) ↔ am_E d 177 Q (am_cmp .ne x y 19 15, L, st, g) := am_E_ic (by decide +kernel : am_dc 177 12 = some (.if_icmp .ne (7))) rfl rfl
theorem x_177_15   : am_E d 177 Q (15, L, st, g) ↔ am_E d 177 Q (16, L, .int (1) :: st, g) := am_E_iconst (by decide +kernel : am_dc 177 15 = some (.iconst (1))) (by decide) rfl
theorem x_177_16   : am_E d 177 Q (16, L, st, g) ↔ am_E d 177 Q (20, L, st, g) := am_E_gt (by decide +kernel : am_dc 177 16 = some (.goto (4))) rfl rfl
theorem x_177_19   : am_E d 177 Q (19, L, st, g) ↔ am_E d 177 Q (20, L, .int (0) :: st, g) := am_E_iconst (by decide +kernel : am_dc 177 19 = some (.iconst (0))) (by decide) rfl
theorem x_177_20  : am_E d 177 Q (20, L, [.int x], g) ↔ if am_ok (FieldType.boolean) (.int x) = true then Q (.inl (some (.int x))) g else False := am_E_ireturn (by decide +kernel : am_dc 177 20 = some (.ireturn)) (by decide +kernel)
theorem t_177 : am_t 177 = some (FieldType.boolean) := by decide +kernel
theorem h_177 : am_h 177 = [] := by decide +kernel
theorem m_177 : am_m 177 = 1 := by decide +kernel
theorem x_178_0   : am_E d 178 Q (0, L, st, g) ↔ am_K d 178 Q (am_ldA 1 L st g 0) := am_E_aload_n (by decide +kernel : am_dc 178 0 = some (.aload_n 0)) rfl rfl
theorem x_178_1   : am_E d 178 Q (1, L, st, g) ↔ am_K d 178 Q (am_ldA 2 L st g 0) := am_E_aload_n (by decide +kernel : am_dc 178 1 = some (.aload_n 0)) rfl rfl
theorem x_178_2   : am_E d 178 Q (2, L, st, g) ↔ am_K d 178 Q (am_ldI 3 L st g 1) := am_E_iload_n (by decide +kernel : am_dc 178 2 = some (.iload_n 1)) rfl rfl
theorem x_178_3  : am_E d 178 Q (3, L, st, g) ↔ am_K d 178 Q (am_S 178 (.invokevirtual 399) 3 L st g) := am_E_x (by decide +kernel : am_dc 178 3 = some (.invokevirtual 399))
theorem x_178_6   : am_E d 178 Q (6, L, st, g) ↔ am_E d 178 Q (7, L, .int (1) :: st, g) := am_E_iconst (by decide +kernel : am_dc 178 6 = some (.iconst (1))) (by decide) rfl
theorem x_178_7   : am_E d 178 Q (7, L, st, g) ↔ am_E d 178 Q (8, L, .int (1) :: st, g) := am_E_iconst (by decide +kernel : am_dc 178 7 = some (.iconst (1))) (by decide) rfl
theorem x_178_8  : am_E d 178 Q (8, L, st, g) ↔ am_K d 178 Q (am_S 178 (.invokevirtual 196) 8 L st g) := am_E_x (by decide +kernel : am_dc 178 8 = some (.invokevirtual 196))
theorem x_178_11   : am_E d 178 Q (11, L, .int x :: st, g) ↔ am_E d 178 Q (am_cmp .ne x 0 16 14, L, st, g) := am_E_if (by decide +kernel : am_dc 178 11 = some (.ifCond .ne (5))) rfl rfl
theorem x_178_14   : am_E d 178 Q (14, L, st, g) ↔ am_E d 178 Q (15, L, .float FP.fconst0 :: st, g) := am_E_fconst0 (by decide +kernel : am_dc 178 14 = some (.fconst 0)) rfl
theorem x_178_15  : am_E d 178 Q (15, L, [.float e1], g) ↔ Q (.inl (some (.float e1))) g := am_E_freturn (by decide +kernel : am_dc 178 15 = some (.freturn)) (by decide +kernel)
theorem x_178_16   : am_E d 178 Q (16, L, st, g) ↔ am_E d 178 Q (17, L, .int (0) :: st, g) := am_E_iconst (by decide +kernel : am_dc 178 16 = some (.iconst (0))) (by decide) rfl
theorem x_178_17   : am_E d 178 Q (17, L, st, g) ↔ am_K d 178 Q (am_stI 18 L st g 2) := am_E_istore_n (by decide +kernel : am_dc 178 17 = some (.istore_n 2)) rfl rfl
theorem x_178_18   : am_E d 178 Q (18, L, st, g) ↔ am_E d 178 Q (19, L, .int (0) :: st, g) := am_E_iconst (by decide +kernel : am_dc 178 18 = some (.iconst (0))) (by decide) rfl
theorem x_178_19   : am_E d 178 Q (19, L, st, g) ↔ am_K d 178 Q (am_stI 20 L st g 3) := am_E_istore_n (by decide +kernel : am_dc 178 19 = some (.istore_n 3)) rfl rfl
theorem x_178_20   : am_E d 178 Q (20, L, st, g) ↔ am_E d 178 Q (21, L, .int (0) :: st, g) := am_E_iconst (by decide +kernel : am_dc 178 20 = some (.iconst (0))) (by decide) rfl
theorem x_178_21   : am_E d 178 Q (21, L, st, g) ↔ am_K d 178 Q (am_stI 23 L st g 4) := am_E_istore (by decide +kernel : am_dc 178 21 = some (.istore 4)) rfl
theorem x_178_23   : am_E d 178 Q (23, L, st, g) ↔ am_K d 178 Q (am_ldI 25 L st g 4) := am_E_iload (by decide +kernel : am_dc 178 23 = some (.iload 4)) rfl
theorem x_178_25   : am_E d 178 Q (25, L, st, g) ↔ am_E d 178 Q (28, L, .int (216) :: st, g) := am_E_sipush (by decide +kernel : am_dc 178 25 = some (.sipush (216))) (by decide) rfl
theorem x_178_28   : am_E d 178 Q (28, L, .int y :: .int x :: st, g) ↔ am_E d 178 Q (am_cmp .ge x y 137 31, L, st, g) := am_E_ic (by decide +kernel : am_dc 178 28 = some (.if_icmp .ge (109))) rfl rfl
theorem x_178_31   : am_E d 178 Q (31, L, st, g) ↔ am_K d 178 Q (am_ldA 32 L st g 0) := am_E_aload_n (by decide +kernel : am_dc 178 31 = some (.aload_n 0)) rfl rfl
theorem x_178_32   : am_E d 178 Q (32, L, .ref a :: st, g) ↔ am_kv d 178 Q 35 L st g (am_gf g a 11 1) := am_E_getfield (by decide +kernel : am_dc 178 32 = some (.getfield 7)) (by decide +kernel) rfl
theorem x_178_35   : am_E d 178 Q (35, L, st, g) ↔ am_K d 178 Q (am_ldI 37 L st g 4) := am_E_iload (by decide +kernel : am_dc 178 35 = some (.iload 4)) rfl
theorem x_178_37   : am_E d 178 Q (37, L, st, g) ↔ am_E d 178 Q (38, L, .int (0) :: st, g) := am_E_iconst (by decide +kernel : am_dc 178 37 = some (.iconst (0))) (by decide) rfl
theorem x_178_38  : am_E d 178 Q (38, L, st, g) ↔ am_K d 178 Q (am_S 178 (.invokestatic 217) 38 L st g) := am_E_x (by decide +kernel : am_dc 178 38 = some (.invokestatic 217))
theorem x_178_41   : am_E d 178 Q (41, L, .int x :: .ref a :: st, g) ↔ am_kv d 178 Q 42 L st g (am_iat .baload g a x) := am_E_baload (by decide +kernel : am_dc 178 41 = some (.baload)) rfl
theorem x_178_42   : am_E d 178 Q (42, L, .int x :: st, g) ↔ am_E d 178 Q (am_cmp .eq x 0 92 45, L, st, g) := am_E_if (by decide +kernel : am_dc 178 42 = some (.ifCond .eq (50))) rfl rfl
theorem x_178_45   : am_E d 178 Q (45, L, st, g) ↔ am_K d 178 Q (am_ldA 46 L st g 0) := am_E_aload_n (by decide +kernel : am_dc 178 45 = some (.aload_n 0)) rfl rfl
theorem x_178_46   : am_E d 178 Q (46, L, .ref a :: st, g) ↔ am_kv d 178 Q 49 L st g (am_gf g a 11 1) := am_E_getfield (by decide +kernel : am_dc 178 46 = some (.getfield 7)) (by decide +kernel) rfl
theorem x_178_49   : am_E d 178 Q (49, L, st, g) ↔ am_E d 178 Q (51, L, .int (6) :: st, g) := am_E_bipush (by decide +kernel : am_dc 178 49 = some (.bipush (6))) (by decide) rfl
theorem x_178_51   : am_E d 178 Q (51, L, st, g) ↔ am_K d 178 Q (am_ldI 53 L st g 4) := am_E_iload (by decide +kernel : am_dc 178 51 = some (.iload 4)) rfl
theorem x_178_53   : am_E d 178 Q (53, L, st, g) ↔ am_E d 178 Q (54, L, .int (1) :: st, g) := am_E_iconst (by decide +kernel : am_dc 178 53 = some (.iconst (1))) (by decide) rfl
theorem x_178_54  : am_E d 178 Q (54, L, st, g) ↔ am_K d 178 Q (am_S 178 (.invokestatic 217) 54 L st g) := am_E_x (by decide +kernel : am_dc 178 54 = some (.invokestatic 217))
theorem x_178_57   : am_E d 178 Q (57, L, .int y :: .int x :: st, g) ↔ am_E d 178 Q (58, L, .int (x + y) :: st, g) := am_E_iadd (by decide +kernel : am_dc 178 57 = some (.iadd)) rfl
theorem x_178_58   : am_E d 178 Q (58, L, .int x :: .ref a :: st, g) ↔ am_kv d 178 Q 59 L st g (am_iat .baload g a x) := am_E_baload (by decide +kernel : am_dc 178 58 = some (.baload)) rfl
theorem x_178_59   : am_E d 178 Q (59, L, .int x :: st, g) ↔ am_E d 178 Q (am_cmp .eq x 0 92 62, L, st, g) := am_E_if (by decide +kernel : am_dc 178 59 = some (.ifCond .eq (33))) rfl rfl
theorem x_178_62   : am_E d 178 Q (62, L, st, g) ↔ am_K d 178 Q (am_ldA 63 L st g 0) := am_E_aload_n (by decide +kernel : am_dc 178 62 = some (.aload_n 0)) rfl rfl
theorem x_178_63   : am_E d 178 Q (63, L, .ref a :: st, g) ↔ am_kv d 178 Q 66 L st g (am_gf g a 11 1) := am_E_getfield (by decide +kernel : am_dc 178 63 = some (.getfield 7)) (by decide +kernel) rfl
theorem x_178_66   : am_E d 178 Q (66, L, st, g) ↔ am_E d 178 Q (68, L, .int (12) :: st, g) := am_E_bipush (by decide +kernel : am_dc 178 66 = some (.bipush (12))) (by decide) rfl
theorem x_178_68   : am_E d 178 Q (68, L, st, g) ↔ am_K d 178 Q (am_ldI 70 L st g 4) := am_E_iload (by decide +kernel : am_dc 178 68 = some (.iload 4)) rfl
theorem x_178_70   : am_E d 178 Q (70, L, st, g) ↔ am_E d 178 Q (71, L, .int (2) :: st, g) := am_E_iconst (by decide +kernel : am_dc 178 70 = some (.iconst (2))) (by decide) rfl
theorem x_178_71  : am_E d 178 Q (71, L, st, g) ↔ am_K d 178 Q (am_S 178 (.invokestatic 217) 71 L st g) := am_E_x (by decide +kernel : am_dc 178 71 = some (.invokestatic 217))
theorem x_178_74   : am_E d 178 Q (74, L, .int y :: .int x :: st, g) ↔ am_E d 178 Q (75, L, .int (x + y) :: st, g) := am_E_iadd (by decide +kernel : am_dc 178 74 = some (.iadd)) rfl
theorem x_178_75   : am_E d 178 Q (75, L, .int x :: .ref a :: st, g) ↔ am_kv d 178 Q 76 L st g (am_iat .baload g a x) := am_E_baload (by decide +kernel : am_dc 178 75 = some (.baload)) rfl
theorem x_178_76   : am_E d 178 Q (76, L, .int x :: st, g) ↔ am_E d 178 Q (am_cmp .eq x 0 92 79, L, st, g) := am_E_if (by decide +kernel : am_dc 178 76 = some (.ifCond .eq (16))) rfl rfl
theorem x_178_79   : am_E d 178 Q (79, L, st, g) ↔ am_K d 178 Q (am_ldA 80 L st g 0) := am_E_aload_n (by decide +kernel : am_dc 178 79 = some (.aload_n 0)) rfl rfl
theorem x_178_80   : am_E d 178 Q (80, L, st, g) ↔ am_K d 178 Q (am_ldI 82 L st g 4) := am_E_iload (by decide +kernel : am_dc 178 80 = some (.iload 4)) rfl
theorem x_178_82  : am_E d 178 Q (82, L, st, g) ↔ am_K d 178 Q (am_S 178 (.invokevirtual 338) 82 L st g) := am_E_x (by decide +kernel : am_dc 178 82 = some (.invokevirtual 338))
theorem x_178_85   : am_E d 178 Q (85, L, .int x :: st, g) ↔ am_E d 178 Q (am_cmp .eq x 0 92 88, L, st, g) := am_E_if (by decide +kernel : am_dc 178 85 = some (.ifCond .eq (7))) rfl rfl
theorem x_178_88   : am_E d 178 Q (88, L, st, g) ↔ am_E d 178 Q (89, L, .int (1) :: st, g) := am_E_iconst (by decide +kernel : am_dc 178 88 = some (.iconst (1))) (by decide) rfl
theorem x_178_89   : am_E d 178 Q (89, L, st, g) ↔ am_E d 178 Q (93, L, st, g) := am_E_gt (by decide +kernel : am_dc 178 89 = some (.goto (4))) rfl rfl
theorem x_178_92   : am_E d 178 Q (92, L, st, g) ↔ am_E d 178 Q (93, L, .int (0) :: st, g) := am_E_iconst (by decide +kernel : am_dc 178 92 = some (.iconst (0))) (by decide) rfl
theorem x_178_93   : am_E d 178 Q (93, L, st, g) ↔ am_K d 178 Q (am_stI 95 L st g 5) := am_E_istore (by decide +kernel : am_dc 178 93 = some (.istore 5)) rfl
theorem x_178_95   : am_E d 178 Q (95, L, st, g) ↔ am_K d 178 Q (am_ldI 97 L st g 5) := am_E_iload (by decide +kernel : am_dc 178 95 = some (.iload 5)) rfl
theorem x_178_97   : am_E d 178 Q (97, L, .int x :: st, g) ↔ am_E d 178 Q (am_cmp .eq x 0 106 100, L, st, g) := am_E_if (by decide +kernel : am_dc 178 97 = some (.ifCond .eq (9))) rfl rfl
theorem x_178_100   : am_E d 178 Q (100, L, st, g) ↔ am_K d 178 Q (am_ldI 101 L st g 3) := am_E_iload_n (by decide +kernel : am_dc 178 100 = some (.iload_n 3)) rfl rfl
theorem x_178_101   : am_E d 178 Q (101, L, st, g) ↔ am_E d 178 Q (102, L, .int (1) :: st, g) := am_E_iconst (by decide +kernel : am_dc 178 101 = some (.iconst (1))) (by decide) rfl
theorem x_178_102   : am_E d 178 Q (102, L, .int y :: .int x :: st, g) ↔ am_E d 178 Q (103, L, .int (x + y) :: st, g) := am_E_iadd (by decide +kernel : am_dc 178 102 = some (.iadd)) rfl
theorem x_178_103   : am_E d 178 Q (103, L, st, g) ↔ am_E d 178 Q (107, L, st, g) := am_E_gt (by decide +kernel : am_dc 178 103 = some (.goto (4))) rfl rfl
theorem x_178_106   : am_E d 178 Q (106, L, st, g) ↔ am_K d 178 Q (am_ldI 107 L st g 3) := am_E_iload_n (by decide +kernel : am_dc 178 106 = some (.iload_n 3)) rfl rfl
theorem x_178_107   : am_E d 178 Q (107, L, st, g) ↔ am_K d 178 Q (am_stI 108 L st g 3) := am_E_istore_n (by decide +kernel : am_dc 178 107 = some (.istore_n 3)) rfl rfl
theorem x_178_108   : am_E d 178 Q (108, L, st, g) ↔ am_K d 178 Q (am_ldI 110 L st g 5) := am_E_iload (by decide +kernel : am_dc 178 108 = some (.iload 5)) rfl
theorem x_178_110   : am_E d 178 Q (110, L, .int x :: st, g) ↔ am_E d 178 Q (am_cmp .eq x 0 129 113, L, st, g) := am_E_if (by decide +kernel : am_dc 178 110 = some (.ifCond .eq (19))) rfl rfl
theorem x_178_113   : am_E d 178 Q (113, L, st, g) ↔ am_K d 178 Q (am_ldA 114 L st g 0) := am_E_aload_n (by decide +kernel : am_dc 178 113 = some (.aload_n 0)) rfl rfl
theorem x_178_114   : am_E d 178 Q (114, L, st, g) ↔ am_K d 178 Q (am_ldI 116 L st g 4) := am_E_iload (by decide +kernel : am_dc 178 114 = some (.iload 4)) rfl
theorem x_178_116   : am_E d 178 Q (116, L, st, g) ↔ am_K d 178 Q (am_ldI 117 L st g 1) := am_E_iload_n (by decide +kernel : am_dc 178 116 = some (.iload_n 1)) rfl rfl
theorem x_178_117  : am_E d 178 Q (117, L, st, g) ↔ am_K d 178 Q (am_S 178 (.invokevirtual 344) 117 L st g) := am_E_x (by decide +kernel : am_dc 178 117 = some (.invokevirtual 344))
theorem x_178_120   : am_E d 178 Q (120, L, .int x :: st, g) ↔ am_E d 178 Q (am_cmp .lt x 0 129 123, L, st, g) := am_E_if (by decide +kernel : am_dc 178 120 = some (.ifCond .lt (9))) rfl rfl
theorem x_178_123   : am_E d 178 Q (123, L, st, g) ↔ am_K d 178 Q (am_ldI 124 L st g 2) := am_E_iload_n (by decide +kernel : am_dc 178 123 = some (.iload_n 2)) rfl rfl
theorem x_178_124   : am_E d 178 Q (124, L, st, g) ↔ am_E d 178 Q (125, L, .int (1) :: st, g) := am_E_iconst (by decide +kernel : am_dc 178 124 = some (.iconst (1))) (by decide) rfl
theorem x_178_125   : am_E d 178 Q (125, L, .int y :: .int x :: st, g) ↔ am_E d 178 Q (126, L, .int (x + y) :: st, g) := am_E_iadd (by decide +kernel : am_dc 178 125 = some (.iadd)) rfl
theorem x_178_126   : am_E d 178 Q (126, L, st, g) ↔ am_E d 178 Q (130, L, st, g) := am_E_gt (by decide +kernel : am_dc 178 126 = some (.goto (4))) rfl rfl
theorem x_178_129   : am_E d 178 Q (129, L, st, g) ↔ am_K d 178 Q (am_ldI 130 L st g 2) := am_E_iload_n (by decide +kernel : am_dc 178 129 = some (.iload_n 2)) rfl rfl
theorem x_178_130   : am_E d 178 Q (130, L, st, g) ↔ am_K d 178 Q (am_stI 131 L st g 2) := am_E_istore_n (by decide +kernel : am_dc 178 130 = some (.istore_n 2)) rfl rfl
theorem x_178_131   (hk : L.getD 4 none = some (.int x)) (hl : 4 < L.length) : am_E d 178 Q (131, L, st, g) ↔ am_E d 178 Q (134, am_s1 L 4 (.int (x + (1))), st, g) := am_E_iinc (by decide +kernel : am_dc 178 131 = some (.iinc 4 (1))) (by decide) rfl hk hl
theorem x_178_134   : am_E d 178 Q (134, L, st, g) ↔ am_E d 178 Q (23, L, st, g) := am_E_gt (by decide +kernel : am_dc 178 134 = some (.goto (-111))) rfl rfl
theorem x_178_137   : am_E d 178 Q (137, L, st, g) ↔ am_K d 178 Q (am_ldI 138 L st g 2) := am_E_iload_n (by decide +kernel : am_dc 178 137 = some (.iload_n 2)) rfl rfl
theorem x_178_138   : am_E d 178 Q (138, L, .int x :: st, g) ↔ am_E d 178 Q (139, L, .float (FP.i2f x) :: st, g) := am_E_i2f (by decide +kernel : am_dc 178 138 = some (.i2f)) rfl
theorem x_178_139   : am_E d 178 Q (139, L, st, g) ↔ am_K d 178 Q (am_stF 141 L st g 4) := am_E_fstore (by decide +kernel : am_dc 178 139 = some (.fstore 4)) rfl
theorem x_178_141   : am_E d 178 Q (141, L, st, g) ↔ am_K d 178 Q (am_ldI 142 L st g 3) := am_E_iload_n (by decide +kernel : am_dc 178 141 = some (.iload_n 3)) rfl rfl
theorem x_178_142   : am_E d 178 Q (142, L, .int x :: st, g) ↔ am_E d 178 Q (am_cmp .ne x 0 149 145, L, st, g) := am_E_if (by decide +kernel : am_dc 178 142 = some (.ifCond .ne (7))) rfl rfl
theorem x_178_145   : am_E d 178 Q (145, L, st, g) ↔ am_E d 178 Q (146, L, .float FP.fconst0 :: st, g) := am_E_fconst0 (by decide +kernel : am_dc 178 145 = some (.fconst 0)) rfl
theorem x_178_146   : am_E d 178 Q (146, L, st, g) ↔ am_E d 178 Q (154, L, st, g) := am_E_gt (by decide +kernel : am_dc 178 146 = some (.goto (8))) rfl rfl
theorem x_178_149   : am_E d 178 Q (149, L, st, g) ↔ am_K d 178 Q (am_ldF 151 L st g 4) := am_E_fload (by decide +kernel : am_dc 178 149 = some (.fload 4)) rfl
theorem x_178_151   : am_E d 178 Q (151, L, st, g) ↔ am_K d 178 Q (am_ldI 152 L st g 3) := am_E_iload_n (by decide +kernel : am_dc 178 151 = some (.iload_n 3)) rfl rfl
theorem x_178_152   : am_E d 178 Q (152, L, .int x :: st, g) ↔ am_E d 178 Q (153, L, .float (FP.i2f x) :: st, g) := am_E_i2f (by decide +kernel : am_dc 178 152 = some (.i2f)) rfl
theorem x_178_153  : am_E d 178 Q (153, L, st, g) ↔ am_K d 178 Q (am_S 178 (.fdiv) 153 L st g) := am_E_x (by decide +kernel : am_dc 178 153 = some (.fdiv))
theorem x_178_154  : am_E d 178 Q (154, L, [.float e1], g) ↔ Q (.inl (some (.float e1))) g := am_E_freturn (by decide +kernel : am_dc 178 154 = some (.freturn)) (by decide +kernel)
theorem v_178_399 : am_iv 178 399 = some (1, 193, 2) := by decide +kernel
theorem v_178_196 : am_iv 178 196 = some (1, 185, 4) := by decide +kernel
theorem f_178_7 : am_fl 178 7 = some (11, 1) := by decide +kernel
theorem v_178_217 : am_iv 178 217 = some (0, 213, 2) := by decide +kernel
theorem v_178_338 : am_iv 178 338 = some (1, 200, 2) := by decide +kernel
theorem v_178_344 : am_iv 178 344 = some (1, 189, 3) := by decide +kernel
theorem t_178 : am_t 178 = some (FieldType.float) := by decide +kernel
theorem h_178 : am_h 178 = [] := by decide +kernel
theorem m_178 : am_m 178 = 6 := by decide +kernel
theorem x_179_0   : am_E d 179 Q (0, L, st, g) ↔ am_E d 179 Q (1, L, .int (0) :: st, g) := am_E_iconst (by decide +kernel : am_dc 179 0 = some (.iconst (0))) (by decide) rfl
theorem x_179_1   : am_E d 179 Q (1, L, st, g) ↔ am_K d 179 Q (am_stI 2 L st g 2) := am_E_istore_n (by decide +kernel : am_dc 179 1 = some (.istore_n 2)) rfl rfl
theorem x_179_2   : am_E d 179 Q (2, L, st, g) ↔ am_E d 179 Q (3, L, .int (0) :: st, g) := am_E_iconst (by decide +kernel : am_dc 179 2 = some (.iconst (0))) (by decide) rfl
theorem x_179_3   : am_E d 179 Q (3, L, st, g) ↔ am_K d 179 Q (am_stI 4 L st g 3) := am_E_istore_n (by decide +kernel : am_dc 179 3 = some (.istore_n 3)) rfl rfl
theorem x_179_4   : am_E d 179 Q (4, L, st, g) ↔ am_E d 179 Q (5, L, .int (0) :: st, g) := am_E_iconst (by decide +kernel : am_dc 179 4 = some (.iconst (0))) (by decide) rfl
theorem x_179_5   : am_E d 179 Q (5, L, st, g) ↔ am_K d 179 Q (am_stI 7 L st g 4) := am_E_istore (by decide +kernel : am_dc 179 5 = some (.istore 4)) rfl
theorem x_179_7   : am_E d 179 Q (7, L, st, g) ↔ am_K d 179 Q (am_ldI 9 L st g 4) := am_E_iload (by decide +kernel : am_dc 179 7 = some (.iload 4)) rfl
theorem x_179_9   : am_E d 179 Q (9, L, st, g) ↔ am_E d 179 Q (11, L, .int (6) :: st, g) := am_E_bipush (by decide +kernel : am_dc 179 9 = some (.bipush (6))) (by decide) rfl
theorem x_179_11   : am_E d 179 Q (11, L, .int y :: .int x :: st, g) ↔ am_E d 179 Q (am_cmp .ge x y 33 14, L, st, g) := am_E_ic (by decide +kernel : am_dc 179 11 = some (.if_icmp .ge (22))) rfl rfl
theorem x_179_14   : am_E d 179 Q (14, L, st, g) ↔ am_K d 179 Q (am_ldA 15 L st g 0) := am_E_aload_n (by decide +kernel : am_dc 179 14 = some (.aload_n 0)) rfl rfl
theorem x_179_15   : am_E d 179 Q (15, L, .ref a :: st, g) ↔ am_kv d 179 Q 18 L st g (am_gf g a 11 4) := am_E_getfield (by decide +kernel : am_dc 179 15 = some (.getfield 20)) (by decide +kernel) rfl
theorem x_179_18   : am_E d 179 Q (18, L, st, g) ↔ am_E d 179 Q (20, L, .int (6) :: st, g) := am_E_bipush (by decide +kernel : am_dc 179 18 = some (.bipush (6))) (by decide) rfl
theorem x_179_20   : am_E d 179 Q (20, L, st, g) ↔ am_K d 179 Q (am_ldI 21 L st g 1) := am_E_iload_n (by decide +kernel : am_dc 179 20 = some (.iload_n 1)) rfl rfl
theorem x_179_21   : am_E d 179 Q (21, L, .int y :: .int x :: st, g) ↔ am_E d 179 Q (22, L, .int (x * y) :: st, g) := am_E_imul (by decide +kernel : am_dc 179 21 = some (.imul)) rfl
theorem x_179_22   : am_E d 179 Q (22, L, st, g) ↔ am_K d 179 Q (am_ldI 24 L st g 4) := am_E_iload (by decide +kernel : am_dc 179 22 = some (.iload 4)) rfl
theorem x_179_24   : am_E d 179 Q (24, L, .int y :: .int x :: st, g) ↔ am_E d 179 Q (25, L, .int (x + y) :: st, g) := am_E_iadd (by decide +kernel : am_dc 179 24 = some (.iadd)) rfl
theorem x_179_25   : am_E d 179 Q (25, L, st, g) ↔ am_E d 179 Q (26, L, .int (-1) :: st, g) := am_E_iconst (by decide +kernel : am_dc 179 25 = some (.iconst (-1))) (by decide) rfl
theorem x_179_26   : am_E d 179 Q (26, L, v :: .int x :: .ref a :: st, g) ↔ am_kg d 179 Q 27 L st (am_sat .iastore g a x v) := am_E_iastore (by decide +kernel : am_dc 179 26 = some (.iastore)) rfl
theorem x_179_27   (hk : L.getD 4 none = some (.int x)) (hl : 4 < L.length) : am_E d 179 Q (27, L, st, g) ↔ am_E d 179 Q (30, am_s1 L 4 (.int (x + (1))), st, g) := am_E_iinc (by decide +kernel : am_dc 179 27 = some (.iinc 4 (1))) (by decide) rfl hk hl
theorem x_179_30   : am_E d 179 Q (30, L, st, g) ↔ am_E d 179 Q (7, L, st, g) := am_E_gt (by decide +kernel : am_dc 179 30 = some (.goto (-23))) rfl rfl
theorem x_179_33   : am_E d 179 Q (33, L, st, g) ↔ am_E d 179 Q (34, L, .int (5) :: st, g) := am_E_iconst (by decide +kernel : am_dc 179 33 = some (.iconst (5))) (by decide) rfl
theorem x_179_34   : am_E d 179 Q (34, L, st, g) ↔ am_K d 179 Q (am_stI 36 L st g 4) := am_E_istore (by decide +kernel : am_dc 179 34 = some (.istore 4)) rfl
theorem x_179_36   : am_E d 179 Q (36, L, st, g) ↔ am_K d 179 Q (am_ldI 38 L st g 4) := am_E_iload (by decide +kernel : am_dc 179 36 = some (.iload 4)) rfl
theorem x_179_38   : am_E d 179 Q (38, L, .int x :: st, g) ↔ am_E d 179 Q (am_cmp .lt x 0 88 41, L, st, g) := am_E_if (by decide +kernel : am_dc 179 38 = some (.ifCond .lt (50))) rfl rfl
theorem x_179_41   : am_E d 179 Q (41, L, st, g) ↔ am_K d 179 Q (am_ldA 42 L st g 0) := am_E_aload_n (by decide +kernel : am_dc 179 41 = some (.aload_n 0)) rfl rfl
theorem x_179_42   : am_E d 179 Q (42, L, .ref a :: st, g) ↔ am_kv d 179 Q 45 L st g (am_gf g a 11 1) := am_E_getfield (by decide +kernel : am_dc 179 42 = some (.getfield 7)) (by decide +kernel) rfl
theorem x_179_45   : am_E d 179 Q (45, L, st, g) ↔ am_E d 179 Q (47, L, .int (6) :: st, g) := am_E_bipush (by decide +kernel : am_dc 179 45 = some (.bipush (6))) (by decide) rfl
theorem x_179_47   : am_E d 179 Q (47, L, st, g) ↔ am_K d 179 Q (am_ldI 48 L st g 1) := am_E_iload_n (by decide +kernel : am_dc 179 47 = some (.iload_n 1)) rfl rfl
theorem x_179_48   : am_E d 179 Q (48, L, .int y :: .int x :: st, g) ↔ am_E d 179 Q (49, L, .int (x * y) :: st, g) := am_E_imul (by decide +kernel : am_dc 179 48 = some (.imul)) rfl
theorem x_179_49   : am_E d 179 Q (49, L, st, g) ↔ am_K d 179 Q (am_ldI 51 L st g 4) := am_E_iload (by decide +kernel : am_dc 179 49 = some (.iload 4)) rfl
theorem x_179_51   : am_E d 179 Q (51, L, .int y :: .int x :: st, g) ↔ am_E d 179 Q (52, L, .int (x + y) :: st, g) := am_E_iadd (by decide +kernel : am_dc 179 51 = some (.iadd)) rfl
theorem x_179_52   : am_E d 179 Q (52, L, .int x :: .ref a :: st, g) ↔ am_kv d 179 Q 53 L st g (am_iat .baload g a x) := am_E_baload (by decide +kernel : am_dc 179 52 = some (.baload)) rfl
theorem x_179_53   : am_E d 179 Q (53, L, .int x :: st, g) ↔ am_E d 179 Q (am_cmp .eq x 0 82 56, L, st, g) := am_E_if (by decide +kernel : am_dc 179 53 = some (.ifCond .eq (29))) rfl rfl
theorem x_179_56   : am_E d 179 Q (56, L, st, g) ↔ am_K d 179 Q (am_ldA 57 L st g 0) := am_E_aload_n (by decide +kernel : am_dc 179 56 = some (.aload_n 0)) rfl rfl
theorem x_179_57   : am_E d 179 Q (57, L, .ref a :: st, g) ↔ am_kv d 179 Q 60 L st g (am_gf g a 11 2) := am_E_getfield (by decide +kernel : am_dc 179 57 = some (.getfield 13)) (by decide +kernel) rfl
theorem x_179_60   : am_E d 179 Q (60, L, st, g) ↔ am_E d 179 Q (62, L, .int (6) :: st, g) := am_E_bipush (by decide +kernel : am_dc 179 60 = some (.bipush (6))) (by decide) rfl
theorem x_179_62   : am_E d 179 Q (62, L, st, g) ↔ am_K d 179 Q (am_ldI 63 L st g 1) := am_E_iload_n (by decide +kernel : am_dc 179 62 = some (.iload_n 1)) rfl rfl
theorem x_179_63   : am_E d 179 Q (63, L, .int y :: .int x :: st, g) ↔ am_E d 179 Q (64, L, .int (x * y) :: st, g) := am_E_imul (by decide +kernel : am_dc 179 63 = some (.imul)) rfl
theorem x_179_64   : am_E d 179 Q (64, L, st, g) ↔ am_K d 179 Q (am_ldI 66 L st g 4) := am_E_iload (by decide +kernel : am_dc 179 64 = some (.iload 4)) rfl
theorem x_179_66   : am_E d 179 Q (66, L, .int y :: .int x :: st, g) ↔ am_E d 179 Q (67, L, .int (x + y) :: st, g) := am_E_iadd (by decide +kernel : am_dc 179 66 = some (.iadd)) rfl
theorem x_179_67   : am_E d 179 Q (67, L, .int x :: .ref a :: st, g) ↔ am_kv d 179 Q 68 L st g (am_iat .iaload g a x) := am_E_iaload (by decide +kernel : am_dc 179 67 = some (.iaload)) rfl
theorem x_179_68   : am_E d 179 Q (68, L, .int x :: st, g) ↔ am_E d 179 Q (am_cmp .ge x 0 82 71, L, st, g) := am_E_if (by decide +kernel : am_dc 179 68 = some (.ifCond .ge (14))) rfl rfl
theorem x_179_71   : am_E d 179 Q (71, L, st, g) ↔ am_K d 179 Q (am_ldA 72 L st g 0) := am_E_aload_n (by decide +kernel : am_dc 179 71 = some (.aload_n 0)) rfl rfl
theorem x_179_72   : am_E d 179 Q (72, L, .ref a :: st, g) ↔ am_kv d 179 Q 75 L st g (am_gf g a 11 6) := am_E_getfield (by decide +kernel : am_dc 179 72 = some (.getfield 26)) (by decide +kernel) rfl
theorem x_179_75   : am_E d 179 Q (75, L, st, g) ↔ am_K d 179 Q (am_ldI 76 L st g 3) := am_E_iload_n (by decide +kernel : am_dc 179 75 = some (.iload_n 3)) rfl rfl
theorem x_179_76   : am_E d 179 Q (76, L, st, g) ↔ am_K d 179 Q (am_ldI 78 L st g 4) := am_E_iload (by decide +kernel : am_dc 179 76 = some (.iload 4)) rfl
theorem x_179_78   : am_E d 179 Q (78, L, v :: .int x :: .ref a :: st, g) ↔ am_kg d 179 Q 79 L st (am_sat .iastore g a x v) := am_E_iastore (by decide +kernel : am_dc 179 78 = some (.iastore)) rfl
theorem x_179_79   (hk : L.getD 3 none = some (.int x)) (hl : 3 < L.length) : am_E d 179 Q (79, L, st, g) ↔ am_E d 179 Q (82, am_s1 L 3 (.int (x + (1))), st, g) := am_E_iinc (by decide +kernel : am_dc 179 79 = some (.iinc 3 (1))) (by decide) rfl hk hl
theorem x_179_82   (hk : L.getD 4 none = some (.int x)) (hl : 4 < L.length) : am_E d 179 Q (82, L, st, g) ↔ am_E d 179 Q (85, am_s1 L 4 (.int (x + (-1))), st, g) := am_E_iinc (by decide +kernel : am_dc 179 82 = some (.iinc 4 (-1))) (by decide) rfl hk hl
theorem x_179_85   : am_E d 179 Q (85, L, st, g) ↔ am_E d 179 Q (36, L, st, g) := am_E_gt (by decide +kernel : am_dc 179 85 = some (.goto (-49))) rfl rfl
theorem x_179_88   : am_E d 179 Q (88, L, st, g) ↔ am_K d 179 Q (am_ldI 89 L st g 3) := am_E_iload_n (by decide +kernel : am_dc 179 88 = some (.iload_n 3)) rfl rfl
theorem x_179_89   : am_E d 179 Q (89, L, .int x :: st, g) ↔ am_E d 179 Q (am_cmp .le x 0 189 92, L, st, g) := am_E_if (by decide +kernel : am_dc 179 89 = some (.ifCond .le (100))) rfl rfl
theorem x_179_92   (hk : L.getD 3 none = some (.int x)) (hl : 3 < L.length) : am_E d 179 Q (92, L, st, g) ↔ am_E d 179 Q (95, am_s1 L 3 (.int (x + (-1))), st, g) := am_E_iinc (by decide +kernel : am_dc 179 92 = some (.iinc 3 (-1))) (by decide) rfl hk hl
theorem x_179_95   : am_E d 179 Q (95, L, st, g) ↔ am_K d 179 Q (am_ldA 96 L st g 0) := am_E_aload_n (by decide +kernel : am_dc 179 95 = some (.aload_n 0)) rfl rfl
theorem x_179_96   : am_E d 179 Q (96, L, .ref a :: st, g) ↔ am_kv d 179 Q 99 L st g (am_gf g a 11 6) := am_E_getfield (by decide +kernel : am_dc 179 96 = some (.getfield 26)) (by decide +kernel) rfl
theorem x_179_99   : am_E d 179 Q (99, L, st, g) ↔ am_K d 179 Q (am_ldI 100 L st g 3) := am_E_iload_n (by decide +kernel : am_dc 179 99 = some (.iload_n 3)) rfl rfl
theorem x_179_100   : am_E d 179 Q (100, L, .int x :: .ref a :: st, g) ↔ am_kv d 179 Q 101 L st g (am_iat .iaload g a x) := am_E_iaload (by decide +kernel : am_dc 179 100 = some (.iaload)) rfl
theorem x_179_101   : am_E d 179 Q (101, L, st, g) ↔ am_K d 179 Q (am_stI 103 L st g 4) := am_E_istore (by decide +kernel : am_dc 179 101 = some (.istore 4)) rfl
theorem x_179_103   : am_E d 179 Q (103, L, st, g) ↔ am_K d 179 Q (am_ldA 104 L st g 0) := am_E_aload_n (by decide +kernel : am_dc 179 103 = some (.aload_n 0)) rfl rfl
theorem x_179_104   : am_E d 179 Q (104, L, st, g) ↔ am_K d 179 Q (am_ldI 105 L st g 1) := am_E_iload_n (by decide +kernel : am_dc 179 104 = some (.iload_n 1)) rfl rfl
theorem x_179_105   : am_E d 179 Q (105, L, st, g) ↔ am_K d 179 Q (am_ldI 107 L st g 4) := am_E_iload (by decide +kernel : am_dc 179 105 = some (.iload 4)) rfl
theorem x_179_107  : am_E d 179 Q (107, L, st, g) ↔ am_K d 179 Q (am_S 179 (.invokevirtual 179) 107 L st g) := am_E_x (by decide +kernel : am_dc 179 107 = some (.invokevirtual 179))
theorem x_179_110   : am_E d 179 Q (110, L, .int x :: st, g) ↔ am_E d 179 Q (am_cmp .eq x 0 129 113, L, st, g) := am_E_if (by decide +kernel : am_dc 179 110 = some (.ifCond .eq (19))) rfl rfl
theorem x_179_113   : am_E d 179 Q (113, L, st, g) ↔ am_K d 179 Q (am_ldA 114 L st g 0) := am_E_aload_n (by decide +kernel : am_dc 179 113 = some (.aload_n 0)) rfl rfl
theorem x_179_114   : am_E d 179 Q (114, L, .ref a :: st, g) ↔ am_kv d 179 Q 117 L st g (am_gf g a 11 4) := am_E_getfield (by decide +kernel : am_dc 179 114 = some (.getfield 20)) (by decide +kernel) rfl
theorem x_179_117   : am_E d 179 Q (117, L, st, g) ↔ am_E d 179 Q (119, L, .int (6) :: st, g) := am_E_bipush (by decide +kernel : am_dc 179 117 = some (.bipush (6))) (by decide) rfl
theorem x_179_119   : am_E d 179 Q (119, L, st, g) ↔ am_K d 179 Q (am_ldI 120 L st g 1) := am_E_iload_n (by decide +kernel : am_dc 179 119 = some (.iload_n 1)) rfl rfl
theorem x_179_120   : am_E d 179 Q (120, L, .int y :: .int x :: st, g) ↔ am_E d 179 Q (121, L, .int (x * y) :: st, g) := am_E_imul (by decide +kernel : am_dc 179 120 = some (.imul)) rfl
theorem x_179_121   : am_E d 179 Q (121, L, st, g) ↔ am_K d 179 Q (am_ldI 122 L st g 2) := am_E_iload_n (by decide +kernel : am_dc 179 121 = some (.iload_n 2)) rfl rfl
theorem x_179_122   : am_E d 179 Q (122, L, .int y :: .int x :: st, g) ↔ am_E d 179 Q (123, L, .int (x + y) :: st, g) := am_E_iadd (by decide +kernel : am_dc 179 122 = some (.iadd)) rfl
theorem x_179_123   : am_E d 179 Q (123, L, st, g) ↔ am_K d 179 Q (am_ldI 125 L st g 4) := am_E_iload (by decide +kernel : am_dc 179 123 = some (.iload 4)) rfl
theorem x_179_125   : am_E d 179 Q (125, L, v :: .int x :: .ref a :: st, g) ↔ am_kg d 179 Q 126 L st (am_sat .iastore g a x v) := am_E_iastore (by decide +kernel : am_dc 179 125 = some (.iastore)) rfl
theorem x_179_126   (hk : L.getD 2 none = some (.int x)) (hl : 2 < L.length) : am_E d 179 Q (126, L, st, g) ↔ am_E d 179 Q (129, am_s1 L 2 (.int (x + (1))), st, g) := am_E_iinc (by decide +kernel : am_dc 179 126 = some (.iinc 2 (1))) (by decide) rfl hk hl
theorem x_179_129   : am_E d 179 Q (129, L, st, g) ↔ am_E d 179 Q (130, L, .int (5) :: st, g) := am_E_iconst (by decide +kernel : am_dc 179 129 = some (.iconst (5))) (by decide) rfl
theorem x_179_130   : am_E d 179 Q (130, L, st, g) ↔ am_K d 179 Q (am_stI 132 L st g 5) := am_E_istore (by decide +kernel : am_dc 179 130 = some (.istore 5)) rfl
theorem x_179_132   : am_E d 179 Q (132, L, st, g) ↔ am_K d 179 Q (am_ldI 134 L st g 5) := am_E_iload (by decide +kernel : am_dc 179 132 = some (.iload 5)) rfl
theorem x_179_134   : am_E d 179 Q (134, L, .int x :: st, g) ↔ am_E d 179 Q (am_cmp .lt x 0 186 137, L, st, g) := am_E_if (by decide +kernel : am_dc 179 134 = some (.ifCond .lt (52))) rfl rfl
theorem x_179_137   : am_E d 179 Q (137, L, st, g) ↔ am_K d 179 Q (am_ldA 138 L st g 0) := am_E_aload_n (by decide +kernel : am_dc 179 137 = some (.aload_n 0)) rfl rfl
theorem x_179_138   : am_E d 179 Q (138, L, .ref a :: st, g) ↔ am_kv d 179 Q 141 L st g (am_gf g a 11 1) := am_E_getfield (by decide +kernel : am_dc 179 138 = some (.getfield 7)) (by decide +kernel) rfl
theorem x_179_141   : am_E d 179 Q (141, L, st, g) ↔ am_E d 179 Q (143, L, .int (6) :: st, g) := am_E_bipush (by decide +kernel : am_dc 179 141 = some (.bipush (6))) (by decide) rfl
theorem x_179_143   : am_E d 179 Q (143, L, st, g) ↔ am_K d 179 Q (am_ldI 144 L st g 1) := am_E_iload_n (by decide +kernel : am_dc 179 143 = some (.iload_n 1)) rfl rfl
theorem x_179_144   : am_E d 179 Q (144, L, .int y :: .int x :: st, g) ↔ am_E d 179 Q (145, L, .int (x * y) :: st, g) := am_E_imul (by decide +kernel : am_dc 179 144 = some (.imul)) rfl
theorem x_179_145   : am_E d 179 Q (145, L, st, g) ↔ am_K d 179 Q (am_ldI 147 L st g 5) := am_E_iload (by decide +kernel : am_dc 179 145 = some (.iload 5)) rfl
theorem x_179_147   : am_E d 179 Q (147, L, .int y :: .int x :: st, g) ↔ am_E d 179 Q (148, L, .int (x + y) :: st, g) := am_E_iadd (by decide +kernel : am_dc 179 147 = some (.iadd)) rfl
theorem x_179_148   : am_E d 179 Q (148, L, .int x :: .ref a :: st, g) ↔ am_kv d 179 Q 149 L st g (am_iat .baload g a x) := am_E_baload (by decide +kernel : am_dc 179 148 = some (.baload)) rfl
theorem x_179_149   : am_E d 179 Q (149, L, .int x :: st, g) ↔ am_E d 179 Q (am_cmp .eq x 0 180 152, L, st, g) := am_E_if (by decide +kernel : am_dc 179 149 = some (.ifCond .eq (31))) rfl rfl
theorem x_179_152   : am_E d 179 Q (152, L, st, g) ↔ am_K d 179 Q (am_ldA 153 L st g 0) := am_E_aload_n (by decide +kernel : am_dc 179 152 = some (.aload_n 0)) rfl rfl
theorem x_179_153   : am_E d 179 Q (153, L, .ref a :: st, g) ↔ am_kv d 179 Q 156 L st g (am_gf g a 11 2) := am_E_getfield (by decide +kernel : am_dc 179 153 = some (.getfield 13)) (by decide +kernel) rfl
theorem x_179_156   : am_E d 179 Q (156, L, st, g) ↔ am_E d 179 Q (158, L, .int (6) :: st, g) := am_E_bipush (by decide +kernel : am_dc 179 156 = some (.bipush (6))) (by decide) rfl
theorem x_179_158   : am_E d 179 Q (158, L, st, g) ↔ am_K d 179 Q (am_ldI 159 L st g 1) := am_E_iload_n (by decide +kernel : am_dc 179 158 = some (.iload_n 1)) rfl rfl
theorem x_179_159   : am_E d 179 Q (159, L, .int y :: .int x :: st, g) ↔ am_E d 179 Q (160, L, .int (x * y) :: st, g) := am_E_imul (by decide +kernel : am_dc 179 159 = some (.imul)) rfl
theorem x_179_160   : am_E d 179 Q (160, L, st, g) ↔ am_K d 179 Q (am_ldI 162 L st g 5) := am_E_iload (by decide +kernel : am_dc 179 160 = some (.iload 5)) rfl
theorem x_179_162   : am_E d 179 Q (162, L, .int y :: .int x :: st, g) ↔ am_E d 179 Q (163, L, .int (x + y) :: st, g) := am_E_iadd (by decide +kernel : am_dc 179 162 = some (.iadd)) rfl
theorem x_179_163   : am_E d 179 Q (163, L, .int x :: .ref a :: st, g) ↔ am_kv d 179 Q 164 L st g (am_iat .iaload g a x) := am_E_iaload (by decide +kernel : am_dc 179 163 = some (.iaload)) rfl
theorem x_179_164   : am_E d 179 Q (164, L, st, g) ↔ am_K d 179 Q (am_ldI 166 L st g 4) := am_E_iload (by decide +kernel : am_dc 179 164 = some (.iload 4)) rfl
theorem x_179_166   : am_E d 179 Q (166, L, .int y :: .int x :: st, g) ↔ am_E d 179 Q (am_cmp .ne x y 180 169, L, st, g) := am_E_ic (by decide +kernel : am_dc 179 166 = some (.if_icmp .ne (14))) rfl rfl
theorem x_179_169   : am_E d 179 Q (169, L, st, g) ↔ am_K d 179 Q (am_ldA 170 L st g 0) := am_E_aload_n (by decide +kernel : am_dc 179 169 = some (.aload_n 0)) rfl rfl
theorem x_179_170   : am_E d 179 Q (170, L, .ref a :: st, g) ↔ am_kv d 179 Q 173 L st g (am_gf g a 11 6) := am_E_getfield (by decide +kernel : am_dc 179 170 = some (.getfield 26)) (by decide +kernel) rfl
theorem x_179_173   : am_E d 179 Q (173, L, st, g) ↔ am_K d 179 Q (am_ldI 174 L st g 3) := am_E_iload_n (by decide +kernel : am_dc 179 173 = some (.iload_n 3)) rfl rfl
theorem x_179_174   : am_E d 179 Q (174, L, st, g) ↔ am_K d 179 Q (am_ldI 176 L st g 5) := am_E_iload (by decide +kernel : am_dc 179 174 = some (.iload 5)) rfl
theorem x_179_176   : am_E d 179 Q (176, L, v :: .int x :: .ref a :: st, g) ↔ am_kg d 179 Q 177 L st (am_sat .iastore g a x v) := am_E_iastore (by decide +kernel : am_dc 179 176 = some (.iastore)) rfl
theorem x_179_177   (hk : L.getD 3 none = some (.int x)) (hl : 3 < L.length) : am_E d 179 Q (177, L, st, g) ↔ am_E d 179 Q (180, am_s1 L 3 (.int (x + (1))), st, g) := am_E_iinc (by decide +kernel : am_dc 179 177 = some (.iinc 3 (1))) (by decide) rfl hk hl
theorem x_179_180   (hk : L.getD 5 none = some (.int x)) (hl : 5 < L.length) : am_E d 179 Q (180, L, st, g) ↔ am_E d 179 Q (183, am_s1 L 5 (.int (x + (-1))), st, g) := am_E_iinc (by decide +kernel : am_dc 179 180 = some (.iinc 5 (-1))) (by decide) rfl hk hl
theorem x_179_183   : am_E d 179 Q (183, L, st, g) ↔ am_E d 179 Q (132, L, st, g) := am_E_gt (by decide +kernel : am_dc 179 183 = some (.goto (-51))) rfl rfl
theorem x_179_186   : am_E d 179 Q (186, L, st, g) ↔ am_E d 179 Q (88, L, st, g) := am_E_gt (by decide +kernel : am_dc 179 186 = some (.goto (-98))) rfl rfl
theorem x_179_189   : am_E d 179 Q (189, L, st, g) ↔ am_K d 179 Q (am_ldA 190 L st g 0) := am_E_aload_n (by decide +kernel : am_dc 179 189 = some (.aload_n 0)) rfl rfl
theorem x_179_190   : am_E d 179 Q (190, L, .ref a :: st, g) ↔ am_kv d 179 Q 193 L st g (am_gf g a 11 5) := am_E_getfield (by decide +kernel : am_dc 179 190 = some (.getfield 23)) (by decide +kernel) rfl
theorem x_179_193   : am_E d 179 Q (193, L, st, g) ↔ am_K d 179 Q (am_ldI 194 L st g 1) := am_E_iload_n (by decide +kernel : am_dc 179 193 = some (.iload_n 1)) rfl rfl
theorem x_179_194   : am_E d 179 Q (194, L, st, g) ↔ am_K d 179 Q (am_ldI 195 L st g 2) := am_E_iload_n (by decide +kernel : am_dc 179 194 = some (.iload_n 2)) rfl rfl
theorem x_179_195   : am_E d 179 Q (195, L, v :: .int x :: .ref a :: st, g) ↔ am_kg d 179 Q 196 L st (am_sat .iastore g a x v) := am_E_iastore (by decide +kernel : am_dc 179 195 = some (.iastore)) rfl
theorem x_179_196  : am_E d 179 Q (196, L, [], g) ↔ Q (.inl none) g := am_E_return (by decide +kernel : am_dc 179 196 = some (.return_)) (by decide +kernel)
theorem f_179_20 : am_fl 179 20 = some (11, 4) := by decide +kernel
theorem f_179_7 : am_fl 179 7 = some (11, 1) := by decide +kernel
theorem f_179_13 : am_fl 179 13 = some (11, 2) := by decide +kernel
theorem f_179_26 : am_fl 179 26 = some (11, 6) := by decide +kernel
theorem v_179_179 : am_iv 179 179 = some (1, 194, 3) := by decide +kernel
theorem f_179_23 : am_fl 179 23 = some (11, 5) := by decide +kernel
theorem t_179 : am_t 179 = none := by decide +kernel
theorem h_179 : am_h 179 = [] := by decide +kernel
theorem m_179 : am_m 179 = 6 := by decide +kernel
theorem x_180_0   : am_E d 180 Q (0, L, st, g) ↔ am_K d 180 Q (am_ldA 1 L st g 0) := am_E_aload_n (by decide +kernel : am_dc 180 0 = some (.aload_n 0)) rfl rfl
theorem x_180_1   : am_E d 180 Q (1, L, .ref a :: st, g) ↔ am_kv d 180 Q 4 L st g (am_gf g a 11 12) := am_E_getfield (by decide +kernel : am_dc 180 1 = some (.getfield 42)) (by decide +kernel) rfl
theorem x_180_4   : am_E d 180 Q (4, L, st, g) ↔ am_E d 180 Q (5, L, .int (3) :: st, g) := am_E_iconst (by decide +kernel : am_dc 180 4 = some (.iconst (3))) (by decide) rfl
theorem x_180_5   : am_E d 180 Q (5, L, st, g) ↔ am_K d 180 Q (am_ldI 6 L st g 1) := am_E_iload_n (by decide +kernel : am_dc 180 5 = some (.iload_n 1)) rfl rfl
theorem x_180_6   : am_E d 180 Q (6, L, .int y :: .int x :: st, g) ↔ am_E d 180 Q (7, L, .int (x * y) :: st, g) := am_E_imul (by decide +kernel : am_dc 180 6 = some (.imul)) rfl
theorem x_180_7   : am_E d 180 Q (7, L, st, g) ↔ am_K d 180 Q (am_ldI 8 L st g 2) := am_E_iload_n (by decide +kernel : am_dc 180 7 = some (.iload_n 2)) rfl rfl
theorem x_180_8   : am_E d 180 Q (8, L, .int y :: .int x :: st, g) ↔ am_E d 180 Q (9, L, .int (x + y) :: st, g) := am_E_iadd (by decide +kernel : am_dc 180 8 = some (.iadd)) rfl
theorem x_180_9   : am_E d 180 Q (9, L, .int x :: .ref a :: st, g) ↔ am_kv d 180 Q 10 L st g (am_iat .iaload g a x) := am_E_iaload (by decide +kernel : am_dc 180 9 = some (.iaload)) rfl
theorem x_180_10   : am_E d 180 Q (10, L, st, g) ↔ am_K d 180 Q (am_stI 12 L st g 4) := am_E_istore (by decide +kernel : am_dc 180 10 = some (.istore 4)) rfl
theorem x_180_12   : am_E d 180 Q (12, L, st, g) ↔ am_K d 180 Q (am_ldA 13 L st g 0) := am_E_aload_n (by decide +kernel : am_dc 180 12 = some (.aload_n 0)) rfl rfl
theorem x_180_13   : am_E d 180 Q (13, L, .ref a :: st, g) ↔ am_kv d 180 Q 16 L st g (am_gf g a 11 13) := am_E_getfield (by decide +kernel : am_dc 180 13 = some (.getfield 45)) (by decide +kernel) rfl
theorem x_180_16   : am_E d 180 Q (16, L, st, g) ↔ am_E d 180 Q (17, L, .int (3) :: st, g) := am_E_iconst (by decide +kernel : am_dc 180 16 = some (.iconst (3))) (by decide) rfl
theorem x_180_17   : am_E d 180 Q (17, L, st, g) ↔ am_K d 180 Q (am_ldI 18 L st g 1) := am_E_iload_n (by decide +kernel : am_dc 180 17 = some (.iload_n 1)) rfl rfl
theorem x_180_18   : am_E d 180 Q (18, L, .int y :: .int x :: st, g) ↔ am_E d 180 Q (19, L, .int (x * y) :: st, g) := am_E_imul (by decide +kernel : am_dc 180 18 = some (.imul)) rfl
theorem x_180_19   : am_E d 180 Q (19, L, st, g) ↔ am_K d 180 Q (am_ldI 20 L st g 2) := am_E_iload_n (by decide +kernel : am_dc 180 19 = some (.iload_n 2)) rfl rfl
theorem x_180_20   : am_E d 180 Q (20, L, .int y :: .int x :: st, g) ↔ am_E d 180 Q (21, L, .int (x + y) :: st, g) := am_E_iadd (by decide +kernel : am_dc 180 20 = some (.iadd)) rfl
theorem x_180_21   : am_E d 180 Q (21, L, .int x :: .ref a :: st, g) ↔ am_kv d 180 Q 22 L st g (am_iat .iaload g a x) := am_E_iaload (by decide +kernel : am_dc 180 21 = some (.iaload)) rfl
theorem x_180_22   : am_E d 180 Q (22, L, st, g) ↔ am_K d 180 Q (am_stI 24 L st g 5) := am_E_istore (by decide +kernel : am_dc 180 22 = some (.istore 5)) rfl
theorem x_180_24   : am_E d 180 Q (24, L, st, g) ↔ am_K d 180 Q (am_ldI 26 L st g 4) := am_E_iload (by decide +kernel : am_dc 180 24 = some (.iload 4)) rfl
theorem x_180_26   : am_E d 180 Q (26, L, .int x :: st, g) ↔ am_E d 180 Q (am_cmp .eq x 0 67 29, L, st, g) := am_E_if (by decide +kernel : am_dc 180 26 = some (.ifCond .eq (41))) rfl rfl
theorem x_180_29   : am_E d 180 Q (29, L, st, g) ↔ am_K d 180 Q (am_ldI 31 L st g 4) := am_E_iload (by decide +kernel : am_dc 180 29 = some (.iload 4)) rfl
theorem x_180_31   : am_E d 180 Q (31, L, st, g) ↔ am_E d 180 Q (32, L, .int (1) :: st, g) := am_E_iconst (by decide +kernel : am_dc 180 31 = some (.iconst (1))) (by decide) rfl
theorem x_180_32   : am_E d 180 Q (32, L, .int y :: .int x :: st, g) ↔ am_E d 180 Q (am_cmp .ne x y 41 35, L, st, g) := am_E_ic (by decide +kernel : am_dc 180 32 = some (.if_icmp .ne (9))) rfl rfl
theorem x_180_35   : am_E d 180 Q (35, L, st, g) ↔ am_K d 180 Q (am_ldI 36 L st g 3) := am_E_iload_n (by decide +kernel : am_dc 180 35 = some (.iload_n 3)) rfl rfl
theorem x_180_36   : am_E d 180 Q (36, L, st, g) ↔ am_K d 180 Q (am_ldI 38 L st g 5) := am_E_iload (by decide +kernel : am_dc 180 36 = some (.iload 5)) rfl
theorem x_180_38   : am_E d 180 Q (38, L, .int y :: .int x :: st, g) ↔ am_E d 180 Q (am_cmp .eq x y 67 41, L, st, g) := am_E_ic (by decide +kernel : am_dc 180 38 = some (.if_icmp .eq (29))) rfl rfl
theorem x_180_41   : am_E d 180 Q (41, L, st, g) ↔ am_K d 180 Q (am_ldI 43 L st g 4) := am_E_iload (by decide +kernel : am_dc 180 41 = some (.iload 4)) rfl
theorem x_180_43   : am_E d 180 Q (43, L, st, g) ↔ am_E d 180 Q (44, L, .int (2) :: st, g) := am_E_iconst (by decide +kernel : am_dc 180 43 = some (.iconst (2))) (by decide) rfl
theorem x_180_44   : am_E d 180 Q (44, L, .int y :: .int x :: st, g) ↔ am_E d 180 Q (am_cmp .ne x y 71 47, L, st, g) := am_E_ic (by decide +kernel : am_dc 180 44 = some (.if_icmp .ne (27))) rfl rfl
theorem x_180_47   : am_E d 180 Q (47, L, st, g) ↔ am_K d 180 Q (am_ldA 48 L st g 0) := am_E_aload_n (by decide +kernel : am_dc 180 47 = some (.aload_n 0)) rfl rfl
theorem x_180_48   : am_E d 180 Q (48, L, st, g) ↔ am_K d 180 Q (am_ldI 49 L st g 2) := am_E_iload_n (by decide +kernel : am_dc 180 48 = some (.iload_n 2)) rfl rfl
theorem x_180_49   : am_E d 180 Q (49, L, st, g) ↔ am_K d 180 Q (am_ldI 50 L st g 3) := am_E_iload_n (by decide +kernel : am_dc 180 49 = some (.iload_n 3)) rfl rfl
theorem x_180_50  : am_E d 180 Q (50, L, st, g) ↔ am_K d 180 Q (am_S 180 (.invokevirtual 179) 50 L st g) := am_E_x (by decide +kernel : am_dc 180 50 = some (.invokevirtual 179))
theorem x_180_53   : am_E d 180 Q (53, L, .int x :: st, g) ↔ am_E d 180 Q (am_cmp .eq x 0 71 56, L, st, g) := am_E_if (by decide +kernel : am_dc 180 53 = some (.ifCond .eq (18))) rfl rfl
theorem x_180_56   : am_E d 180 Q (56, L, st, g) ↔ am_K d 180 Q (am_ldA 57 L st g 0) := am_E_aload_n (by decide +kernel : am_dc 180 56 = some (.aload_n 0)) rfl rfl
theorem x_180_57   : am_E d 180 Q (57, L, st, g) ↔ am_K d 180 Q (am_ldI 58 L st g 2) := am_E_iload_n (by decide +kernel : am_dc 180 57 = some (.iload_n 2)) rfl rfl
theorem x_180_58   : am_E d 180 Q (58, L, st, g) ↔ am_K d 180 Q (am_ldI 59 L st g 3) := am_E_iload_n (by decide +kernel : am_dc 180 58 = some (.iload_n 3)) rfl rfl
theorem x_180_59   : am_E d 180 Q (59, L, st, g) ↔ am_K d 180 Q (am_ldI 61 L st g 5) := am_E_iload (by decide +kernel : am_dc 180 59 = some (.iload 5)) rfl
theorem x_180_61  : am_E d 180 Q (61, L, st, g) ↔ am_K d 180 Q (am_S 180 (.invokevirtual 203) 61 L st g) := am_E_x (by decide +kernel : am_dc 180 61 = some (.invokevirtual 203))
theorem x_180_64   : am_E d 180 Q (64, L, .int x :: st, g) ↔ am_E d 180 Q (am_cmp .eq x 0 71 67, L, st, g) := am_E_if (by decide +kernel : am_dc 180 64 = some (.ifCond .eq (7))) rfl rfl
theorem x_180_67   : am_E d 180 Q (67, L, st, g) ↔ am_E d 180 Q (68, L, .int (1) :: st, g) := am_E_iconst (by decide +kernel : am_dc 180 67 = some (.iconst (1))) (by decide) rfl
theorem x_180_68   : am_E d 180 Q (68, L, st, g) ↔ am_E d 180 Q (72, L, st, g) := am_E_gt (by decide +kernel : am_dc 180 68 = some (.goto (4))) rfl rfl
theorem x_180_71   : am_E d 180 Q (71, L, st, g) ↔ am_E d 180 Q (72, L, .int (0) :: st, g) := am_E_iconst (by decide +kernel : am_dc 180 71 = some (.iconst (0))) (by decide) rfl
theorem x_180_72  : am_E d 180 Q (72, L, [.int x], g) ↔ if am_ok (FieldType.boolean) (.int x) = true then Q (.inl (some (.int x))) g else False := am_E_ireturn (by decide +kernel : am_dc 180 72 = some (.ireturn)) (by decide +kernel)
theorem f_180_42 : am_fl 180 42 = some (11, 12) := by decide +kernel
theorem f_180_45 : am_fl 180 45 = some (11, 13) := by decide +kernel
theorem v_180_179 : am_iv 180 179 = some (1, 194, 3) := by decide +kernel
theorem v_180_203 : am_iv 180 203 = some (1, 238, 4) := by decide +kernel
theorem t_180 : am_t 180 = some (FieldType.boolean) := by decide +kernel
theorem h_180 : am_h 180 = [] := by decide +kernel
theorem m_180 : am_m 180 = 6 := by decide +kernel
theorem x_181_0   : am_E d 181 Q (0, L, st, g) ↔ am_K d 181 Q (am_ldI 1 L st g 1) := am_E_iload_n (by decide +kernel : am_dc 181 0 = some (.iload_n 1)) rfl rfl
theorem x_181_1  : am_E d 181 Q (1, L, st, g) ↔ am_K d 181 Q (am_S 181 (.invokestatic 224) 1 L st g) := am_E_x (by decide +kernel : am_dc 181 1 = some (.invokestatic 224))
theorem x_181_4   : am_E d 181 Q (4, L, .int x :: st, g) ↔ am_E d 181 Q (am_cmp .eq x 0 78 7, L, st, g) := am_E_if (by decide +kernel : am_dc 181 4 = some (.ifCond .eq (74))) rfl rfl
theorem x_181_7   : am_E d 181 Q (7, L, st, g) ↔ am_K d 181 Q (am_ldA 8 L st g 0) := am_E_aload_n (by decide +kernel : am_dc 181 7 = some (.aload_n 0)) rfl rfl
theorem x_181_8  : am_E d 181 Q (8, L, st, g) ↔ am_K d 181 Q (am_S 181 (.invokevirtual 264) 8 L st g) := am_E_x (by decide +kernel : am_dc 181 8 = some (.invokevirtual 264))
theorem x_181_11   : am_E d 181 Q (11, L, st, g) ↔ am_K d 181 Q (am_ldI 12 L st g 1) := am_E_iload_n (by decide +kernel : am_dc 181 11 = some (.iload_n 1)) rfl rfl
theorem x_181_12   : am_E d 181 Q (12, L, st, g) ↔ am_E d 181 Q (14, L, .int (43) :: st, g) := am_E_bipush (by decide +kernel : am_dc 181 12 = some (.bipush (43))) (by decide) rfl
theorem x_181_14   : am_E d 181 Q (14, L, .int y :: .int x :: st, g) ↔ am_E d 181 Q (am_cmp .ne x y 21 17, L, st, g) := am_E_ic (by decide +kernel : am_dc 181 14 = some (.if_icmp .ne (7))) rfl rfl
theorem x_181_17   : am_E d 181 Q (17, L, st, g) ↔ am_E d 181 Q (18, L, .int (2) :: st, g) := am_E_iconst (by decide +kernel : am_dc 181 17 = some (.iconst (2))) (by decide) rfl
theorem x_181_18   : am_E d 181 Q (18, L, st, g) ↔ am_E d 181 Q (42, L, st, g) := am_E_gt (by decide +kernel : am_dc 181 18 = some (.goto (24))) rfl rfl
theorem x_181_21   : am_E d 181 Q (21, L, st, g) ↔ am_K d 181 Q (am_ldI 22 L st g 1) := am_E_iload_n (by decide +kernel : am_dc 181 21 = some (.iload_n 1)) rfl rfl
theorem x_181_22   : am_E d 181 Q (22, L, st, g) ↔ am_E d 181 Q (24, L, .int (45) :: st, g) := am_E_bipush (by decide +kernel : am_dc 181 22 = some (.bipush (45))) (by decide) rfl
theorem x_181_24   : am_E d 181 Q (24, L, .int y :: .int x :: st, g) ↔ am_E d 181 Q (am_cmp .ne x y 31 27, L, st, g) := am_E_ic (by decide +kernel : am_dc 181 24 = some (.if_icmp .ne (7))) rfl rfl
theorem x_181_27   : am_E d 181 Q (27, L, st, g) ↔ am_E d 181 Q (28, L, .int (3) :: st, g) := am_E_iconst (by decide +kernel : am_dc 181 27 = some (.iconst (3))) (by decide) rfl
theorem x_181_28   : am_E d 181 Q (28, L, st, g) ↔ am_E d 181 Q (42, L, st, g) := am_E_gt (by decide +kernel : am_dc 181 28 = some (.goto (14))) rfl rfl
theorem x_181_31   : am_E d 181 Q (31, L, st, g) ↔ am_K d 181 Q (am_ldI 32 L st g 1) := am_E_iload_n (by decide +kernel : am_dc 181 31 = some (.iload_n 1)) rfl rfl
theorem x_181_32   : am_E d 181 Q (32, L, st, g) ↔ am_E d 181 Q (34, L, .int (42) :: st, g) := am_E_bipush (by decide +kernel : am_dc 181 32 = some (.bipush (42))) (by decide) rfl
theorem x_181_34   : am_E d 181 Q (34, L, .int y :: .int x :: st, g) ↔ am_E d 181 Q (am_cmp .ne x y 41 37, L, st, g) := am_E_ic (by decide +kernel : am_dc 181 34 = some (.if_icmp .ne (7))) rfl rfl
theorem x_181_37   : am_E d 181 Q (37, L, st, g) ↔ am_E d 181 Q (38, L, .int (4) :: st, g) := am_E_iconst (by decide +kernel : am_dc 181 37 = some (.iconst (4))) (by decide) rfl
theorem x_181_38   : am_E d 181 Q (38, L, st, g) ↔ am_E d 181 Q (42, L, st, g) := am_E_gt (by decide +kernel : am_dc 181 38 = some (.goto (4))) rfl rfl
theorem x_181_41   : am_E d 181 Q (41, L, st, g) ↔ am_E d 181 Q (42, L, .int (5) :: st, g) := am_E_iconst (by decide +kernel : am_dc 181 41 = some (.iconst (5))) (by decide) rfl
theorem x_181_42   : am_E d 181 Q (42, L, st, g) ↔ am_K d 181 Q (am_stI 43 L st g 2) := am_E_istore_n (by decide +kernel : am_dc 181 42 = some (.istore_n 2)) rfl rfl
theorem x_181_43   : am_E d 181 Q (43, L, st, g) ↔ am_K d 181 Q (am_ldA 44 L st g 0) := am_E_aload_n (by decide +kernel : am_dc 181 43 = some (.aload_n 0)) rfl rfl
theorem x_181_44   : am_E d 181 Q (44, L, st, g) ↔ am_K d 181 Q (am_ldI 45 L st g 2) := am_E_iload_n (by decide +kernel : am_dc 181 44 = some (.iload_n 2)) rfl rfl
theorem x_181_45  : am_E d 181 Q (45, L, st, g) ↔ am_K d 181 Q (am_S 181 (.invokestatic 239) 45 L st g) := am_E_x (by decide +kernel : am_dc 181 45 = some (.invokestatic 239))
theorem x_181_48  : am_E d 181 Q (48, L, st, g) ↔ am_K d 181 Q (am_S 181 (.invokevirtual 245) 48 L st g) := am_E_x (by decide +kernel : am_dc 181 48 = some (.invokevirtual 245))
theorem x_181_51   : am_E d 181 Q (51, L, st, g) ↔ am_K d 181 Q (am_ldA 52 L st g 0) := am_E_aload_n (by decide +kernel : am_dc 181 51 = some (.aload_n 0)) rfl rfl
theorem x_181_52   : am_E d 181 Q (52, L, .ref a :: st, g) ↔ am_kv d 181 Q 55 L st g (am_gf g a 11 32) := am_E_getfield (by decide +kernel : am_dc 181 52 = some (.getfield 94)) (by decide +kernel) rfl
theorem x_181_55   : am_E d 181 Q (55, L, st, g) ↔ am_K d 181 Q (am_ldA 56 L st g 0) := am_E_aload_n (by decide +kernel : am_dc 181 55 = some (.aload_n 0)) rfl rfl
theorem x_181_56   : am_E d 181 Q (56, L, .ref a :: st, g) ↔ am_kv d 181 Q 59 L st g (am_gf g a 11 31) := am_E_getfield (by decide +kernel : am_dc 181 56 = some (.getfield 236)) (by decide +kernel) rfl
theorem x_181_59   : am_E d 181 Q (59, L, st, g) ↔ am_K d 181 Q (am_ldI 60 L st g 2) := am_E_iload_n (by decide +kernel : am_dc 181 59 = some (.iload_n 2)) rfl rfl
theorem x_181_60   : am_E d 181 Q (60, L, v :: .int x :: .ref a :: st, g) ↔ am_kg d 181 Q 61 L st (am_sat .iastore g a x v) := am_E_iastore (by decide +kernel : am_dc 181 60 = some (.iastore)) rfl
theorem x_181_61   : am_E d 181 Q (61, L, st, g) ↔ am_K d 181 Q (am_ldA 62 L st g 0) := am_E_aload_n (by decide +kernel : am_dc 181 61 = some (.aload_n 0)) rfl rfl
theorem x_181_62   : am_E d 181 Q (62, L, v :: st, g) ↔ if v.category = 1 then am_E d 181 Q (63, L, v :: v :: st, g) else False := am_E_dup (by decide +kernel : am_dc 181 62 = some (.dup)) rfl
theorem x_181_63   : am_E d 181 Q (63, L, .ref a :: st, g) ↔ am_kv d 181 Q 66 L st g (am_gf g a 11 31) := am_E_getfield (by decide +kernel : am_dc 181 63 = some (.getfield 236)) (by decide +kernel) rfl
theorem x_181_66   : am_E d 181 Q (66, L, st, g) ↔ am_E d 181 Q (67, L, .int (1) :: st, g) := am_E_iconst (by decide +kernel : am_dc 181 66 = some (.iconst (1))) (by decide) rfl
theorem x_181_67   : am_E d 181 Q (67, L, .int y :: .int x :: st, g) ↔ am_E d 181 Q (68, L, .int (x + y) :: st, g) := am_E_iadd (by decide +kernel : am_dc 181 67 = some (.iadd)) rfl
theorem x_181_68   (hok : (am_ok (am_ft 11 31).1 v && (!(am_ft 11 31).2 || (am_ini 181 && am_co 11 == am_o 181)) && decide (11 < 13)) = true) : am_E d 181 Q (68, L, v :: .ref a :: st, g) ↔ am_kg d 181 Q 71 L st (am_pf g a 11 31 v) := am_E_putfield (by decide +kernel : am_dc 181 68 = some (.putfield 236)) (by decide +kernel) rfl hok
theorem x_181_71   : am_E d 181 Q (71, L, st, g) ↔ am_K d 181 Q (am_ldA 72 L st g 0) := am_E_aload_n (by decide +kernel : am_dc 181 71 = some (.aload_n 0)) rfl rfl
theorem x_181_72   : am_E d 181 Q (72, L, st, g) ↔ am_E d 181 Q (73, L, .int (0) :: st, g) := am_E_iconst (by decide +kernel : am_dc 181 72 = some (.iconst (0))) (by decide) rfl
theorem x_181_73   (hok : (am_ok (am_ft 11 33).1 v && (!(am_ft 11 33).2 || (am_ini 181 && am_co 11 == am_o 181)) && decide (11 < 13)) = true) : am_E d 181 Q (73, L, v :: .ref a :: st, g) ↔ am_kg d 181 Q 76 L st (am_pf g a 11 33 v) := am_E_putfield (by decide +kernel : am_dc 181 73 = some (.putfield 248)) (by decide +kernel) rfl hok
theorem x_181_76   : am_E d 181 Q (76, L, st, g) ↔ am_E d 181 Q (77, L, .int (1) :: st, g) := am_E_iconst (by decide +kernel : am_dc 181 76 = some (.iconst (1))) (by decide) rfl
theorem x_181_77  : am_E d 181 Q (77, L, [.int x], g) ↔ if am_ok (FieldType.boolean) (.int x) = true then Q (.inl (some (.int x))) g else False := am_E_ireturn (by decide +kernel : am_dc 181 77 = some (.ireturn)) (by decide +kernel)
theorem x_181_78   : am_E d 181 Q (78, L, st, g) ↔ am_K d 181 Q (am_ldI 79 L st g 1) := am_E_iload_n (by decide +kernel : am_dc 181 78 = some (.iload_n 1)) rfl rfl
theorem x_181_79   : am_E d 181 Q (79, L, st, g) ↔ am_E d 181 Q (81, L, .int (63) :: st, g) := am_E_bipush (by decide +kernel : am_dc 181 79 = some (.bipush (63))) (by decide) rfl
theorem x_181_81   : am_E d 181 Q (81, L, .int y :: .int x :: st, g) ↔ am_E d 181 Q (am_cmp .ne x y 143 84, L, st, g) := am_E_ic (by decide +kernel : am_dc 181 81 = some (.if_icmp .ne (62))) rfl rfl
theorem x_181_84   : am_E d 181 Q (84, L, st, g) ↔ am_K d 181 Q (am_ldA 85 L st g 0) := am_E_aload_n (by decide +kernel : am_dc 181 84 = some (.aload_n 0)) rfl rfl
theorem x_181_85   : am_E d 181 Q (85, L, .ref a :: st, g) ↔ am_kv d 181 Q 88 L st g (am_gf g a 11 27) := am_E_getfield (by decide +kernel : am_dc 181 85 = some (.getfield 82)) (by decide +kernel) rfl
theorem x_181_88   : am_E d 181 Q (88, L, st, g) ↔ am_K d 181 Q (am_ldA 89 L st g 0) := am_E_aload_n (by decide +kernel : am_dc 181 88 = some (.aload_n 0)) rfl rfl
theorem x_181_89   : am_E d 181 Q (89, L, .ref a :: st, g) ↔ am_kv d 181 Q 92 L st g (am_gf g a 11 25) := am_E_getfield (by decide +kernel : am_dc 181 89 = some (.getfield 233)) (by decide +kernel) rfl
theorem x_181_92   : am_E d 181 Q (92, L, st, g) ↔ am_E d 181 Q (93, L, .int (1) :: st, g) := am_E_iconst (by decide +kernel : am_dc 181 92 = some (.iconst (1))) (by decide) rfl
theorem x_181_93   : am_E d 181 Q (93, L, .int y :: .int x :: st, g) ↔ am_E d 181 Q (94, L, .int (x - y) :: st, g) := am_E_isub (by decide +kernel : am_dc 181 93 = some (.isub)) rfl
theorem x_181_94   : am_E d 181 Q (94, L, .int x :: .ref a :: st, g) ↔ am_kv d 181 Q 95 L st g (am_iat .iaload g a x) := am_E_iaload (by decide +kernel : am_dc 181 94 = some (.iaload)) rfl
theorem x_181_95   : am_E d 181 Q (95, L, st, g) ↔ am_E d 181 Q (96, L, .int (3) :: st, g) := am_E_iconst (by decide +kernel : am_dc 181 95 = some (.iconst (3))) (by decide) rfl
theorem x_181_96   : am_E d 181 Q (96, L, .int y :: .int x :: st, g) ↔ am_E d 181 Q (am_cmp .ge x y 143 99, L, st, g) := am_E_ic (by decide +kernel : am_dc 181 96 = some (.if_icmp .ge (47))) rfl rfl
theorem x_181_99   : am_E d 181 Q (99, L, st, g) ↔ am_K d 181 Q (am_ldA 100 L st g 0) := am_E_aload_n (by decide +kernel : am_dc 181 99 = some (.aload_n 0)) rfl rfl
theorem x_181_100  : am_E d 181 Q (100, L, st, g) ↔ am_K d 181 Q (am_S 181 (.invokevirtual 264) 100 L st g) := am_E_x (by decide +kernel : am_dc 181 100 = some (.invokevirtual 264))
theorem x_181_103   : am_E d 181 Q (103, L, st, g) ↔ am_K d 181 Q (am_ldA 104 L st g 0) := am_E_aload_n (by decide +kernel : am_dc 181 103 = some (.aload_n 0)) rfl rfl
theorem x_181_104   : am_E d 181 Q (104, L, st, g) ↔ am_E d 181 Q (105, L, .int (1) :: st, g) := am_E_iconst (by decide +kernel : am_dc 181 104 = some (.iconst (1))) (by decide) rfl
theorem x_181_105  : am_E d 181 Q (105, L, st, g) ↔ am_K d 181 Q (am_S 181 (.invokevirtual 245) 105 L st g) := am_E_x (by decide +kernel : am_dc 181 105 = some (.invokevirtual 245))
theorem x_181_108   : am_E d 181 Q (108, L, st, g) ↔ am_K d 181 Q (am_ldA 109 L st g 0) := am_E_aload_n (by decide +kernel : am_dc 181 108 = some (.aload_n 0)) rfl rfl
theorem x_181_109   : am_E d 181 Q (109, L, st, g) ↔ am_E d 181 Q (111, L, .int (6) :: st, g) := am_E_bipush (by decide +kernel : am_dc 181 109 = some (.bipush (6))) (by decide) rfl
theorem x_181_111   : am_E d 181 Q (111, L, st, g) ↔ am_E d 181 Q (112, L, .int (0) :: st, g) := am_E_iconst (by decide +kernel : am_dc 181 111 = some (.iconst (0))) (by decide) rfl
theorem x_181_112   : am_E d 181 Q (112, L, st, g) ↔ am_E d 181 Q (113, L, .int (0) :: st, g) := am_E_iconst (by decide +kernel : am_dc 181 112 = some (.iconst (0))) (by decide) rfl
theorem x_181_113  : am_E d 181 Q (113, L, st, g) ↔ am_K d 181 Q (am_S 181 (.invokevirtual 242) 113 L st g) := am_E_x (by decide +kernel : am_dc 181 113 = some (.invokevirtual 242))
theorem x_181_116   : am_E d 181 Q (116, L, st, g) ↔ am_K d 181 Q (am_stI 117 L st g 2) := am_E_istore_n (by decide +kernel : am_dc 181 116 = some (.istore_n 2)) rfl rfl
theorem x_181_117   : am_E d 181 Q (117, L, st, g) ↔ am_K d 181 Q (am_ldA 118 L st g 0) := am_E_aload_n (by decide +kernel : am_dc 181 117 = some (.aload_n 0)) rfl rfl
theorem x_181_118   : am_E d 181 Q (118, L, st, g) ↔ am_E d 181 Q (119, L, .int (2) :: st, g) := am_E_iconst (by decide +kernel : am_dc 181 118 = some (.iconst (2))) (by decide) rfl
theorem x_181_119   : am_E d 181 Q (119, L, st, g) ↔ am_K d 181 Q (am_ldA 120 L st g 0) := am_E_aload_n (by decide +kernel : am_dc 181 119 = some (.aload_n 0)) rfl rfl
theorem x_181_120   : am_E d 181 Q (120, L, .ref a :: st, g) ↔ am_kv d 181 Q 123 L st g (am_gf g a 11 27) := am_E_getfield (by decide +kernel : am_dc 181 120 = some (.getfield 82)) (by decide +kernel) rfl
theorem x_181_123   : am_E d 181 Q (123, L, st, g) ↔ am_K d 181 Q (am_ldA 124 L st g 0) := am_E_aload_n (by decide +kernel : am_dc 181 123 = some (.aload_n 0)) rfl rfl
theorem x_181_124   : am_E d 181 Q (124, L, .ref a :: st, g) ↔ am_kv d 181 Q 127 L st g (am_gf g a 11 25) := am_E_getfield (by decide +kernel : am_dc 181 124 = some (.getfield 233)) (by decide +kernel) rfl
theorem x_181_127   : am_E d 181 Q (127, L, st, g) ↔ am_E d 181 Q (128, L, .int (1) :: st, g) := am_E_iconst (by decide +kernel : am_dc 181 127 = some (.iconst (1))) (by decide) rfl
theorem x_181_128   : am_E d 181 Q (128, L, .int y :: .int x :: st, g) ↔ am_E d 181 Q (129, L, .int (x - y) :: st, g) := am_E_isub (by decide +kernel : am_dc 181 128 = some (.isub)) rfl
theorem x_181_129   : am_E d 181 Q (129, L, .int x :: .ref a :: st, g) ↔ am_kv d 181 Q 130 L st g (am_iat .iaload g a x) := am_E_iaload (by decide +kernel : am_dc 181 129 = some (.iaload)) rfl
theorem x_181_130   : am_E d 181 Q (130, L, st, g) ↔ am_E d 181 Q (131, L, .int (1) :: st, g) := am_E_iconst (by decide +kernel : am_dc 181 130 = some (.iconst (1))) (by decide) rfl
theorem x_181_131   : am_E d 181 Q (131, L, .int y :: .int x :: st, g) ↔ am_E d 181 Q (132, L, .int (x + y) :: st, g) := am_E_iadd (by decide +kernel : am_dc 181 131 = some (.iadd)) rfl
theorem x_181_132   : am_E d 181 Q (132, L, st, g) ↔ am_K d 181 Q (am_ldI 133 L st g 2) := am_E_iload_n (by decide +kernel : am_dc 181 132 = some (.iload_n 2)) rfl rfl
theorem x_181_133  : am_E d 181 Q (133, L, st, g) ↔ am_K d 181 Q (am_S 181 (.invokevirtual 260) 133 L st g) := am_E_x (by decide +kernel : am_dc 181 133 = some (.invokevirtual 260))
theorem x_181_136   : am_E d 181 Q (136, L, st, g) ↔ am_K d 181 Q (am_ldA 137 L st g 0) := am_E_aload_n (by decide +kernel : am_dc 181 136 = some (.aload_n 0)) rfl rfl
theorem x_181_137   : am_E d 181 Q (137, L, st, g) ↔ am_E d 181 Q (138, L, .int (0) :: st, g) := am_E_iconst (by decide +kernel : am_dc 181 137 = some (.iconst (0))) (by decide) rfl
theorem x_181_138   (hok : (am_ok (am_ft 11 33).1 v && (!(am_ft 11 33).2 || (am_ini 181 && am_co 11 == am_o 181)) && decide (11 < 13)) = true) : am_E d 181 Q (138, L, v :: .ref a :: st, g) ↔ am_kg d 181 Q 141 L st (am_pf g a 11 33 v) := am_E_putfield (by decide +kernel : am_dc 181 138 = some (.putfield 248)) (by decide +kernel) rfl hok
theorem x_181_141   : am_E d 181 Q (141, L, st, g) ↔ am_E d 181 Q (142, L, .int (1) :: st, g) := am_E_iconst (by decide +kernel : am_dc 181 141 = some (.iconst (1))) (by decide) rfl
theorem x_181_142  : am_E d 181 Q (142, L, [.int x], g) ↔ if am_ok (FieldType.boolean) (.int x) = true then Q (.inl (some (.int x))) g else False := am_E_ireturn (by decide +kernel : am_dc 181 142 = some (.ireturn)) (by decide +kernel)
theorem x_181_143   : am_E d 181 Q (143, L, st, g) ↔ am_K d 181 Q (am_ldI 144 L st g 1) := am_E_iload_n (by decide +kernel : am_dc 181 143 = some (.iload_n 1)) rfl rfl
theorem x_181_144   : am_E d 181 Q (144, L, st, g) ↔ am_E d 181 Q (146, L, .int (58) :: st, g) := am_E_bipush (by decide +kernel : am_dc 181 144 = some (.bipush (58))) (by decide) rfl
theorem x_181_146   : am_E d 181 Q (146, L, .int y :: .int x :: st, g) ↔ am_E d 181 Q (am_cmp .ne x y 257 149, L, st, g) := am_E_ic (by decide +kernel : am_dc 181 146 = some (.if_icmp .ne (111))) rfl rfl
theorem x_181_149   : am_E d 181 Q (149, L, st, g) ↔ am_K d 181 Q (am_ldA 150 L st g 0) := am_E_aload_n (by decide +kernel : am_dc 181 149 = some (.aload_n 0)) rfl rfl
theorem x_181_150  : am_E d 181 Q (150, L, st, g) ↔ am_K d 181 Q (am_S 181 (.invokevirtual 267) 150 L st g) := am_E_x (by decide +kernel : am_dc 181 150 = some (.invokevirtual 267))
theorem x_181_153   : am_E d 181 Q (153, L, st, g) ↔ am_E d 181 Q (154, L, .int (2) :: st, g) := am_E_iconst (by decide +kernel : am_dc 181 153 = some (.iconst (2))) (by decide) rfl
theorem x_181_154   : am_E d 181 Q (154, L, .int y :: .int x :: st, g) ↔ am_E d 181 Q (am_cmp .ne x y 257 157, L, st, g) := am_E_ic (by decide +kernel : am_dc 181 154 = some (.if_icmp .ne (103))) rfl rfl
theorem x_181_157   : am_E d 181 Q (157, L, st, g) ↔ am_K d 181 Q (am_ldA 158 L st g 0) := am_E_aload_n (by decide +kernel : am_dc 181 157 = some (.aload_n 0)) rfl rfl
theorem x_181_158  : am_E d 181 Q (158, L, st, g) ↔ am_K d 181 Q (am_S 181 (.invokevirtual 264) 158 L st g) := am_E_x (by decide +kernel : am_dc 181 158 = some (.invokevirtual 264))
theorem x_181_161   : am_E d 181 Q (161, L, st, g) ↔ am_K d 181 Q (am_ldA 162 L st g 0) := am_E_aload_n (by decide +kernel : am_dc 181 161 = some (.aload_n 0)) rfl rfl
theorem x_181_162  : am_E d 181 Q (162, L, st, g) ↔ am_K d 181 Q (am_S 181 (.invokevirtual 271) 162 L st g) := am_E_x (by decide +kernel : am_dc 181 162 = some (.invokevirtual 271))
theorem x_181_165   : am_E d 181 Q (165, L, st, g) ↔ am_K d 181 Q (am_ldA 166 L st g 0) := am_E_aload_n (by decide +kernel : am_dc 181 165 = some (.aload_n 0)) rfl rfl
theorem x_181_166   : am_E d 181 Q (166, L, st, g) ↔ am_E d 181 Q (167, L, .int (1) :: st, g) := am_E_iconst (by decide +kernel : am_dc 181 166 = some (.iconst (1))) (by decide) rfl
theorem x_181_167  : am_E d 181 Q (167, L, st, g) ↔ am_K d 181 Q (am_S 181 (.invokevirtual 245) 167 L st g) := am_E_x (by decide +kernel : am_dc 181 167 = some (.invokevirtual 245))
theorem x_181_170   : am_E d 181 Q (170, L, st, g) ↔ am_K d 181 Q (am_ldA 171 L st g 0) := am_E_aload_n (by decide +kernel : am_dc 181 170 = some (.aload_n 0)) rfl rfl
theorem x_181_171   : am_E d 181 Q (171, L, .ref a :: st, g) ↔ am_kv d 181 Q 174 L st g (am_gf g a 11 29) := am_E_getfield (by decide +kernel : am_dc 181 171 = some (.getfield 88)) (by decide +kernel) rfl
theorem x_181_174   : am_E d 181 Q (174, L, st, g) ↔ am_K d 181 Q (am_ldA 175 L st g 0) := am_E_aload_n (by decide +kernel : am_dc 181 174 = some (.aload_n 0)) rfl rfl
theorem x_181_175   : am_E d 181 Q (175, L, .ref a :: st, g) ↔ am_kv d 181 Q 178 L st g (am_gf g a 11 25) := am_E_getfield (by decide +kernel : am_dc 181 175 = some (.getfield 233)) (by decide +kernel) rfl
theorem x_181_178   : am_E d 181 Q (178, L, st, g) ↔ am_E d 181 Q (179, L, .int (1) :: st, g) := am_E_iconst (by decide +kernel : am_dc 181 178 = some (.iconst (1))) (by decide) rfl
theorem x_181_179   : am_E d 181 Q (179, L, .int y :: .int x :: st, g) ↔ am_E d 181 Q (180, L, .int (x - y) :: st, g) := am_E_isub (by decide +kernel : am_dc 181 179 = some (.isub)) rfl
theorem x_181_180   : am_E d 181 Q (180, L, .int x :: .ref a :: st, g) ↔ am_kv d 181 Q 181 L st g (am_iat .iaload g a x) := am_E_iaload (by decide +kernel : am_dc 181 180 = some (.iaload)) rfl
theorem x_181_181   : am_E d 181 Q (181, L, st, g) ↔ am_K d 181 Q (am_stI 182 L st g 2) := am_E_istore_n (by decide +kernel : am_dc 181 181 = some (.istore_n 2)) rfl rfl
theorem x_181_182   : am_E d 181 Q (182, L, st, g) ↔ am_K d 181 Q (am_ldA 183 L st g 0) := am_E_aload_n (by decide +kernel : am_dc 181 182 = some (.aload_n 0)) rfl rfl
theorem x_181_183   : am_E d 181 Q (183, L, st, g) ↔ am_E d 181 Q (185, L, .int (7) :: st, g) := am_E_bipush (by decide +kernel : am_dc 181 183 = some (.bipush (7))) (by decide) rfl
theorem x_181_185   : am_E d 181 Q (185, L, st, g) ↔ am_E d 181 Q (186, L, .int (0) :: st, g) := am_E_iconst (by decide +kernel : am_dc 181 185 = some (.iconst (0))) (by decide) rfl
theorem x_181_186   : am_E d 181 Q (186, L, st, g) ↔ am_E d 181 Q (187, L, .int (0) :: st, g) := am_E_iconst (by decide +kernel : am_dc 181 186 = some (.iconst (0))) (by decide) rfl
theorem x_181_187  : am_E d 181 Q (187, L, st, g) ↔ am_K d 181 Q (am_S 181 (.invokevirtual 242) 187 L st g) := am_E_x (by decide +kernel : am_dc 181 187 = some (.invokevirtual 242))
theorem x_181_190   : am_E d 181 Q (190, L, st, g) ↔ am_K d 181 Q (am_stI 191 L st g 3) := am_E_istore_n (by decide +kernel : am_dc 181 190 = some (.istore_n 3)) rfl rfl
theorem x_181_191   : am_E d 181 Q (191, L, st, g) ↔ am_K d 181 Q (am_ldA 192 L st g 0) := am_E_aload_n (by decide +kernel : am_dc 181 191 = some (.aload_n 0)) rfl rfl
theorem x_181_192   : am_E d 181 Q (192, L, .ref a :: st, g) ↔ am_kv d 181 Q 195 L st g (am_gf g a 11 16) := am_E_getfield (by decide +kernel : am_dc 181 192 = some (.getfield 54)) (by decide +kernel) rfl
theorem x_181_195   : am_E d 181 Q (195, L, st, g) ↔ am_E d 181 Q (197, L, .int (64) :: st, g) := am_E_bipush (by decide +kernel : am_dc 181 195 = some (.bipush (64))) (by decide) rfl
theorem x_181_197   : am_E d 181 Q (197, L, st, g) ↔ am_K d 181 Q (am_ldA 198 L st g 0) := am_E_aload_n (by decide +kernel : am_dc 181 197 = some (.aload_n 0)) rfl rfl
theorem x_181_198   : am_E d 181 Q (198, L, .ref a :: st, g) ↔ am_kv d 181 Q 201 L st g (am_gf g a 11 11) := am_E_getfield (by decide +kernel : am_dc 181 198 = some (.getfield 211)) (by decide +kernel) rfl
theorem x_181_201   : am_E d 181 Q (201, L, .int y :: .int x :: st, g) ↔ am_E d 181 Q (202, L, .int (x * y) :: st, g) := am_E_imul (by decide +kernel : am_dc 181 201 = some (.imul)) rfl
theorem x_181_202   : am_E d 181 Q (202, L, st, g) ↔ am_K d 181 Q (am_ldI 203 L st g 2) := am_E_iload_n (by decide +kernel : am_dc 181 202 = some (.iload_n 2)) rfl rfl
theorem x_181_203   : am_E d 181 Q (203, L, .int y :: .int x :: st, g) ↔ am_E d 181 Q (204, L, .int (x + y) :: st, g) := am_E_iadd (by decide +kernel : am_dc 181 203 = some (.iadd)) rfl
theorem x_181_204   : am_E d 181 Q (204, L, st, g) ↔ am_K d 181 Q (am_ldA 205 L st g 0) := am_E_aload_n (by decide +kernel : am_dc 181 204 = some (.aload_n 0)) rfl rfl
theorem x_181_205   : am_E d 181 Q (205, L, .ref a :: st, g) ↔ am_kv d 181 Q 208 L st g (am_gf g a 11 14) := am_E_getfield (by decide +kernel : am_dc 181 205 = some (.getfield 48)) (by decide +kernel) rfl
theorem x_181_208   : am_E d 181 Q (208, L, st, g) ↔ am_K d 181 Q (am_ldA 209 L st g 0) := am_E_aload_n (by decide +kernel : am_dc 181 208 = some (.aload_n 0)) rfl rfl
theorem x_181_209   : am_E d 181 Q (209, L, .ref a :: st, g) ↔ am_kv d 181 Q 212 L st g (am_gf g a 11 11) := am_E_getfield (by decide +kernel : am_dc 181 209 = some (.getfield 211)) (by decide +kernel) rfl
theorem x_181_212   : am_E d 181 Q (212, L, .int x :: .ref a :: st, g) ↔ am_kv d 181 Q 213 L st g (am_iat .iaload g a x) := am_E_iaload (by decide +kernel : am_dc 181 212 = some (.iaload)) rfl
theorem x_181_213   : am_E d 181 Q (213, L, v :: .int x :: .ref a :: st, g) ↔ am_kg d 181 Q 214 L st (am_sat .iastore g a x v) := am_E_iastore (by decide +kernel : am_dc 181 213 = some (.iastore)) rfl
theorem x_181_214   : am_E d 181 Q (214, L, st, g) ↔ am_K d 181 Q (am_ldA 215 L st g 0) := am_E_aload_n (by decide +kernel : am_dc 181 214 = some (.aload_n 0)) rfl rfl
theorem x_181_215   : am_E d 181 Q (215, L, .ref a :: st, g) ↔ am_kv d 181 Q 218 L st g (am_gf g a 11 26) := am_E_getfield (by decide +kernel : am_dc 181 215 = some (.getfield 79)) (by decide +kernel) rfl
theorem x_181_218   : am_E d 181 Q (218, L, st, g) ↔ am_K d 181 Q (am_ldA 219 L st g 0) := am_E_aload_n (by decide +kernel : am_dc 181 218 = some (.aload_n 0)) rfl rfl
theorem x_181_219   : am_E d 181 Q (219, L, .ref a :: st, g) ↔ am_kv d 181 Q 222 L st g (am_gf g a 11 25) := am_E_getfield (by decide +kernel : am_dc 181 219 = some (.getfield 233)) (by decide +kernel) rfl
theorem x_181_222   : am_E d 181 Q (222, L, st, g) ↔ am_E d 181 Q (223, L, .int (1) :: st, g) := am_E_iconst (by decide +kernel : am_dc 181 222 = some (.iconst (1))) (by decide) rfl
theorem x_181_223   : am_E d 181 Q (223, L, .int y :: .int x :: st, g) ↔ am_E d 181 Q (224, L, .int (x - y) :: st, g) := am_E_isub (by decide +kernel : am_dc 181 223 = some (.isub)) rfl
theorem x_181_224   : am_E d 181 Q (224, L, st, g) ↔ am_E d 181 Q (225, L, .int (3) :: st, g) := am_E_iconst (by decide +kernel : am_dc 181 224 = some (.iconst (3))) (by decide) rfl
theorem x_181_225   : am_E d 181 Q (225, L, v :: .int x :: .ref a :: st, g) ↔ am_kg d 181 Q 226 L st (am_sat .iastore g a x v) := am_E_iastore (by decide +kernel : am_dc 181 225 = some (.iastore)) rfl
theorem x_181_226   : am_E d 181 Q (226, L, st, g) ↔ am_K d 181 Q (am_ldA 227 L st g 0) := am_E_aload_n (by decide +kernel : am_dc 181 226 = some (.aload_n 0)) rfl rfl
theorem x_181_227   : am_E d 181 Q (227, L, .ref a :: st, g) ↔ am_kv d 181 Q 230 L st g (am_gf g a 11 29) := am_E_getfield (by decide +kernel : am_dc 181 227 = some (.getfield 88)) (by decide +kernel) rfl
theorem x_181_230   : am_E d 181 Q (230, L, st, g) ↔ am_K d 181 Q (am_ldA 231 L st g 0) := am_E_aload_n (by decide +kernel : am_dc 181 230 = some (.aload_n 0)) rfl rfl
theorem x_181_231   : am_E d 181 Q (231, L, .ref a :: st, g) ↔ am_kv d 181 Q 234 L st g (am_gf g a 11 25) := am_E_getfield (by decide +kernel : am_dc 181 231 = some (.getfield 233)) (by decide +kernel) rfl
theorem x_181_234   : am_E d 181 Q (234, L, st, g) ↔ am_E d 181 Q (235, L, .int (1) :: st, g) := am_E_iconst (by decide +kernel : am_dc 181 234 = some (.iconst (1))) (by decide) rfl
theorem x_181_235   : am_E d 181 Q (235, L, .int y :: .int x :: st, g) ↔ am_E d 181 Q (236, L, .int (x - y) :: st, g) := am_E_isub (by decide +kernel : am_dc 181 235 = some (.isub)) rfl
theorem x_181_236   : am_E d 181 Q (236, L, st, g) ↔ am_K d 181 Q (am_ldI 237 L st g 3) := am_E_iload_n (by decide +kernel : am_dc 181 236 = some (.iload_n 3)) rfl rfl
theorem x_181_237   : am_E d 181 Q (237, L, v :: .int x :: .ref a :: st, g) ↔ am_kg d 181 Q 238 L st (am_sat .iastore g a x v) := am_E_iastore (by decide +kernel : am_dc 181 237 = some (.iastore)) rfl
theorem x_181_238   : am_E d 181 Q (238, L, st, g) ↔ am_K d 181 Q (am_ldA 239 L st g 0) := am_E_aload_n (by decide +kernel : am_dc 181 238 = some (.aload_n 0)) rfl rfl
theorem x_181_239   : am_E d 181 Q (239, L, .ref a :: st, g) ↔ am_kv d 181 Q 242 L st g (am_gf g a 11 30) := am_E_getfield (by decide +kernel : am_dc 181 239 = some (.getfield 91)) (by decide +kernel) rfl
theorem x_181_242   : am_E d 181 Q (242, L, st, g) ↔ am_K d 181 Q (am_ldA 243 L st g 0) := am_E_aload_n (by decide +kernel : am_dc 181 242 = some (.aload_n 0)) rfl rfl
theorem x_181_243   : am_E d 181 Q (243, L, .ref a :: st, g) ↔ am_kv d 181 Q 246 L st g (am_gf g a 11 25) := am_E_getfield (by decide +kernel : am_dc 181 243 = some (.getfield 233)) (by decide +kernel) rfl
theorem x_181_246   : am_E d 181 Q (246, L, st, g) ↔ am_E d 181 Q (247, L, .int (1) :: st, g) := am_E_iconst (by decide +kernel : am_dc 181 246 = some (.iconst (1))) (by decide) rfl
theorem x_181_247   : am_E d 181 Q (247, L, .int y :: .int x :: st, g) ↔ am_E d 181 Q (248, L, .int (x - y) :: st, g) := am_E_isub (by decide +kernel : am_dc 181 247 = some (.isub)) rfl
theorem x_181_248   : am_E d 181 Q (248, L, st, g) ↔ am_K d 181 Q (am_ldI 249 L st g 2) := am_E_iload_n (by decide +kernel : am_dc 181 248 = some (.iload_n 2)) rfl rfl
theorem x_181_249   : am_E d 181 Q (249, L, v :: .int x :: .ref a :: st, g) ↔ am_kg d 181 Q 250 L st (am_sat .iastore g a x v) := am_E_iastore (by decide +kernel : am_dc 181 249 = some (.iastore)) rfl
theorem x_181_250   : am_E d 181 Q (250, L, st, g) ↔ am_K d 181 Q (am_ldA 251 L st g 0) := am_E_aload_n (by decide +kernel : am_dc 181 250 = some (.aload_n 0)) rfl rfl
theorem x_181_251   : am_E d 181 Q (251, L, st, g) ↔ am_E d 181 Q (252, L, .int (0) :: st, g) := am_E_iconst (by decide +kernel : am_dc 181 251 = some (.iconst (0))) (by decide) rfl
theorem x_181_252   (hok : (am_ok (am_ft 11 33).1 v && (!(am_ft 11 33).2 || (am_ini 181 && am_co 11 == am_o 181)) && decide (11 < 13)) = true) : am_E d 181 Q (252, L, v :: .ref a :: st, g) ↔ am_kg d 181 Q 255 L st (am_pf g a 11 33 v) := am_E_putfield (by decide +kernel : am_dc 181 252 = some (.putfield 248)) (by decide +kernel) rfl hok
theorem x_181_255   : am_E d 181 Q (255, L, st, g) ↔ am_E d 181 Q (256, L, .int (1) :: st, g) := am_E_iconst (by decide +kernel : am_dc 181 255 = some (.iconst (1))) (by decide) rfl
theorem x_181_256  : am_E d 181 Q (256, L, [.int x], g) ↔ if am_ok (FieldType.boolean) (.int x) = true then Q (.inl (some (.int x))) g else False := am_E_ireturn (by decide +kernel : am_dc 181 256 = some (.ireturn)) (by decide +kernel)
theorem x_181_257   : am_E d 181 Q (257, L, st, g) ↔ am_K d 181 Q (am_ldI 258 L st g 1) := am_E_iload_n (by decide +kernel : am_dc 181 257 = some (.iload_n 1)) rfl rfl
theorem x_181_258   : am_E d 181 Q (258, L, st, g) ↔ am_E d 181 Q (260, L, .int (41) :: st, g) := am_E_bipush (by decide +kernel : am_dc 181 258 = some (.bipush (41))) (by decide) rfl
theorem x_181_260   : am_E d 181 Q (260, L, .int y :: .int x :: st, g) ↔ am_E d 181 Q (am_cmp .ne x y 301 263, L, st, g) := am_E_ic (by decide +kernel : am_dc 181 260 = some (.if_icmp .ne (41))) rfl rfl
theorem x_181_263   : am_E d 181 Q (263, L, st, g) ↔ am_K d 181 Q (am_ldA 264 L st g 0) := am_E_aload_n (by decide +kernel : am_dc 181 263 = some (.aload_n 0)) rfl rfl
theorem x_181_264  : am_E d 181 Q (264, L, st, g) ↔ am_K d 181 Q (am_S 181 (.invokevirtual 267) 264 L st g) := am_E_x (by decide +kernel : am_dc 181 264 = some (.invokevirtual 267))
theorem x_181_267   : am_E d 181 Q (267, L, st, g) ↔ am_E d 181 Q (268, L, .int (1) :: st, g) := am_E_iconst (by decide +kernel : am_dc 181 267 = some (.iconst (1))) (by decide) rfl
theorem x_181_268   : am_E d 181 Q (268, L, .int y :: .int x :: st, g) ↔ am_E d 181 Q (am_cmp .ne x y 301 271, L, st, g) := am_E_ic (by decide +kernel : am_dc 181 268 = some (.if_icmp .ne (33))) rfl rfl
theorem x_181_271   : am_E d 181 Q (271, L, st, g) ↔ am_K d 181 Q (am_ldA 272 L st g 0) := am_E_aload_n (by decide +kernel : am_dc 181 271 = some (.aload_n 0)) rfl rfl
theorem x_181_272  : am_E d 181 Q (272, L, st, g) ↔ am_K d 181 Q (am_S 181 (.invokevirtual 264) 272 L st g) := am_E_x (by decide +kernel : am_dc 181 272 = some (.invokevirtual 264))
theorem x_181_275   : am_E d 181 Q (275, L, st, g) ↔ am_K d 181 Q (am_ldA 276 L st g 0) := am_E_aload_n (by decide +kernel : am_dc 181 275 = some (.aload_n 0)) rfl rfl
theorem x_181_276  : am_E d 181 Q (276, L, st, g) ↔ am_K d 181 Q (am_S 181 (.invokevirtual 271) 276 L st g) := am_E_x (by decide +kernel : am_dc 181 276 = some (.invokevirtual 271))
theorem x_181_279   : am_E d 181 Q (279, L, st, g) ↔ am_K d 181 Q (am_ldA 280 L st g 0) := am_E_aload_n (by decide +kernel : am_dc 181 279 = some (.aload_n 0)) rfl rfl
theorem x_181_280   : am_E d 181 Q (280, L, st, g) ↔ am_E d 181 Q (281, L, .int (1) :: st, g) := am_E_iconst (by decide +kernel : am_dc 181 280 = some (.iconst (1))) (by decide) rfl
theorem x_181_281  : am_E d 181 Q (281, L, st, g) ↔ am_K d 181 Q (am_S 181 (.invokevirtual 245) 281 L st g) := am_E_x (by decide +kernel : am_dc 181 281 = some (.invokevirtual 245))
theorem x_181_284   : am_E d 181 Q (284, L, st, g) ↔ am_K d 181 Q (am_ldA 285 L st g 0) := am_E_aload_n (by decide +kernel : am_dc 181 284 = some (.aload_n 0)) rfl rfl
theorem x_181_285   : am_E d 181 Q (285, L, v :: st, g) ↔ if v.category = 1 then am_E d 181 Q (286, L, v :: v :: st, g) else False := am_E_dup (by decide +kernel : am_dc 181 285 = some (.dup)) rfl
theorem x_181_286   : am_E d 181 Q (286, L, .ref a :: st, g) ↔ am_kv d 181 Q 289 L st g (am_gf g a 11 25) := am_E_getfield (by decide +kernel : am_dc 181 286 = some (.getfield 233)) (by decide +kernel) rfl
theorem x_181_289   : am_E d 181 Q (289, L, st, g) ↔ am_E d 181 Q (290, L, .int (1) :: st, g) := am_E_iconst (by decide +kernel : am_dc 181 289 = some (.iconst (1))) (by decide) rfl
theorem x_181_290   : am_E d 181 Q (290, L, .int y :: .int x :: st, g) ↔ am_E d 181 Q (291, L, .int (x - y) :: st, g) := am_E_isub (by decide +kernel : am_dc 181 290 = some (.isub)) rfl
theorem x_181_291   (hok : (am_ok (am_ft 11 25).1 v && (!(am_ft 11 25).2 || (am_ini 181 && am_co 11 == am_o 181)) && decide (11 < 13)) = true) : am_E d 181 Q (291, L, v :: .ref a :: st, g) ↔ am_kg d 181 Q 294 L st (am_pf g a 11 25 v) := am_E_putfield (by decide +kernel : am_dc 181 291 = some (.putfield 233)) (by decide +kernel) rfl hok
theorem x_181_294   : am_E d 181 Q (294, L, st, g) ↔ am_K d 181 Q (am_ldA 295 L st g 0) := am_E_aload_n (by decide +kernel : am_dc 181 294 = some (.aload_n 0)) rfl rfl
theorem x_181_295   : am_E d 181 Q (295, L, st, g) ↔ am_E d 181 Q (296, L, .int (4) :: st, g) := am_E_iconst (by decide +kernel : am_dc 181 295 = some (.iconst (4))) (by decide) rfl
theorem x_181_296   (hok : (am_ok (am_ft 11 33).1 v && (!(am_ft 11 33).2 || (am_ini 181 && am_co 11 == am_o 181)) && decide (11 < 13)) = true) : am_E d 181 Q (296, L, v :: .ref a :: st, g) ↔ am_kg d 181 Q 299 L st (am_pf g a 11 33 v) := am_E_putfield (by decide +kernel : am_dc 181 296 = some (.putfield 248)) (by decide +kernel) rfl hok
theorem x_181_299   : am_E d 181 Q (299, L, st, g) ↔ am_E d 181 Q (300, L, .int (1) :: st, g) := am_E_iconst (by decide +kernel : am_dc 181 299 = some (.iconst (1))) (by decide) rfl
theorem x_181_300  : am_E d 181 Q (300, L, [.int x], g) ↔ if am_ok (FieldType.boolean) (.int x) = true then Q (.inl (some (.int x))) g else False := am_E_ireturn (by decide +kernel : am_dc 181 300 = some (.ireturn)) (by decide +kernel)
theorem x_181_301   : am_E d 181 Q (301, L, st, g) ↔ am_E d 181 Q (302, L, .int (0) :: st, g) := am_E_iconst (by decide +kernel : am_dc 181 301 = some (.iconst (0))) (by decide) rfl
theorem x_181_302  : am_E d 181 Q (302, L, [.int x], g) ↔ if am_ok (FieldType.boolean) (.int x) = true then Q (.inl (some (.int x))) g else False := am_E_ireturn (by decide +kernel : am_dc 181 302 = some (.ireturn)) (by decide +kernel)
theorem v_181_224 : am_iv 181 224 = some (0, 198, 1) := by decide +kernel
theorem v_181_264 : am_iv 181 264 = some (1, 175, 1) := by decide +kernel
theorem v_181_239 : am_iv 181 239 = some (0, 219, 1) := by decide +kernel
theorem v_181_245 : am_iv 181 245 = some (1, 216, 2) := by decide +kernel
theorem f_181_94 : am_fl 181 94 = some (11, 32) := by decide +kernel
theorem f_181_236 : am_fl 181 236 = some (11, 31) := by decide +kernel
theorem f_181_248 : am_fl 181 248 = some (11, 33) := by decide +kernel
theorem f_181_82 : am_fl 181 82 = some (11, 27) := by decide +kernel
theorem f_181_233 : am_fl 181 233 = some (11, 25) := by decide +kernel
theorem v_181_242 : am_iv 181 242 = some (1, 172, 4) := by decide +kernel
theorem v_181_260 : am_iv 181 260 = some (1, 211, 4) := by decide +kernel
theorem v_181_267 : am_iv 181 267 = some (1, 173, 1) := by decide +kernel
theorem v_181_271 : am_iv 181 271 = some (1, 174, 1) := by decide +kernel
theorem f_181_88 : am_fl 181 88 = some (11, 29) := by decide +kernel
theorem f_181_54 : am_fl 181 54 = some (11, 16) := by decide +kernel
theorem f_181_211 : am_fl 181 211 = some (11, 11) := by decide +kernel
theorem f_181_48 : am_fl 181 48 = some (11, 14) := by decide +kernel
theorem f_181_79 : am_fl 181 79 = some (11, 26) := by decide +kernel
theorem f_181_91 : am_fl 181 91 = some (11, 30) := by decide +kernel
theorem t_181 : am_t 181 = some (FieldType.boolean) := by decide +kernel
theorem h_181 : am_h 181 = [] := by decide +kernel
theorem m_181 : am_m 181 = 4 := by decide +kernel
theorem x_182_0   : am_E d 182 Q (0, L, st, g) ↔ am_K d 182 Q (am_ldA 1 L st g 0) := am_E_aload_n (by decide +kernel : am_dc 182 0 = some (.aload_n 0)) rfl rfl
theorem x_182_1   : am_E d 182 Q (1, L, st, g) ↔ am_E d 182 Q (2, L, .int (0) :: st, g) := am_E_iconst (by decide +kernel : am_dc 182 1 = some (.iconst (0))) (by decide) rfl
theorem x_182_2   (hok : (am_ok (am_ft 11 37).1 v && (!(am_ft 11 37).2 || (am_ini 182 && am_co 11 == am_o 182)) && decide (11 < 13)) = true) : am_E d 182 Q (2, L, v :: .ref a :: st, g) ↔ am_kg d 182 Q 5 L st (am_pf g a 11 37 v) := am_E_putfield (by decide +kernel : am_dc 182 2 = some (.putfield 183)) (by decide +kernel) rfl hok
theorem x_182_5   : am_E d 182 Q (5, L, st, g) ↔ am_K d 182 Q (am_ldA 6 L st g 0) := am_E_aload_n (by decide +kernel : am_dc 182 5 = some (.aload_n 0)) rfl rfl
theorem x_182_6   : am_E d 182 Q (6, L, st, g) ↔ am_E d 182 Q (7, L, .int (0) :: st, g) := am_E_iconst (by decide +kernel : am_dc 182 6 = some (.iconst (0))) (by decide) rfl
theorem x_182_7   (hok : (am_ok (am_ft 11 38).1 v && (!(am_ft 11 38).2 || (am_ini 182 && am_co 11 == am_o 182)) && decide (11 < 13)) = true) : am_E d 182 Q (7, L, v :: .ref a :: st, g) ↔ am_kg d 182 Q 10 L st (am_pf g a 11 38 v) := am_E_putfield (by decide +kernel : am_dc 182 7 = some (.putfield 186)) (by decide +kernel) rfl hok
theorem x_182_10  : am_E d 182 Q (10, L, [], g) ↔ Q (.inl none) g := am_E_return (by decide +kernel : am_dc 182 10 = some (.return_)) (by decide +kernel)
theorem f_182_183 : am_fl 182 183 = some (11, 37) := by decide +kernel
theorem f_182_186 : am_fl 182 186 = some (11, 38) := by decide +kernel
theorem t_182 : am_t 182 = none := by decide +kernel
theorem h_182 : am_h 182 = [] := by decide +kernel
theorem m_182 : am_m 182 = 1 := by decide +kernel
theorem x_183_0   : am_E d 183 Q (0, L, st, g) ↔ am_K d 183 Q (am_ldA 1 L st g 0) := am_E_aload_n (by decide +kernel : am_dc 183 0 = some (.aload_n 0)) rfl rfl
theorem x_183_1   : am_E d 183 Q (1, L, .ref a :: st, g) ↔ am_kv d 183 Q 4 L st g (am_gf g a 11 50) := am_E_getfield (by decide +kernel : am_dc 183 1 = some (.getfield 118)) (by decide +kernel) rfl
theorem x_183_4   : am_E d 183 Q (4, L, st, g) ↔ am_K d 183 Q (am_ldA 5 L st g 0) := am_E_aload_n (by decide +kernel : am_dc 183 4 = some (.aload_n 0)) rfl rfl
theorem x_183_5   : am_E d 183 Q (5, L, .ref a :: st, g) ↔ am_kv d 183 Q 8 L st g (am_gf g a 11 47) := am_E_getfield (by decide +kernel : am_dc 183 5 = some (.getfield 315)) (by decide +kernel) rfl
theorem x_183_8   : am_E d 183 Q (8, L, st, g) ↔ am_K d 183 Q (am_ldI 9 L st g 1) := am_E_iload_n (by decide +kernel : am_dc 183 8 = some (.iload_n 1)) rfl rfl
theorem x_183_9   : am_E d 183 Q (9, L, v :: .int x :: .ref a :: st, g) ↔ am_kg d 183 Q 10 L st (am_sat .iastore g a x v) := am_E_iastore (by decide +kernel : am_dc 183 9 = some (.iastore)) rfl
theorem x_183_10   : am_E d 183 Q (10, L, st, g) ↔ am_K d 183 Q (am_ldA 11 L st g 0) := am_E_aload_n (by decide +kernel : am_dc 183 10 = some (.aload_n 0)) rfl rfl
theorem x_183_11   : am_E d 183 Q (11, L, .ref a :: st, g) ↔ am_kv d 183 Q 14 L st g (am_gf g a 11 51) := am_E_getfield (by decide +kernel : am_dc 183 11 = some (.getfield 121)) (by decide +kernel) rfl
theorem x_183_14   : am_E d 183 Q (14, L, st, g) ↔ am_K d 183 Q (am_ldA 15 L st g 0) := am_E_aload_n (by decide +kernel : am_dc 183 14 = some (.aload_n 0)) rfl rfl
theorem x_183_15   : am_E d 183 Q (15, L, .ref a :: st, g) ↔ am_kv d 183 Q 18 L st g (am_gf g a 11 47) := am_E_getfield (by decide +kernel : am_dc 183 15 = some (.getfield 315)) (by decide +kernel) rfl
theorem x_183_18   : am_E d 183 Q (18, L, st, g) ↔ am_K d 183 Q (am_ldI 19 L st g 2) := am_E_iload_n (by decide +kernel : am_dc 183 18 = some (.iload_n 2)) rfl rfl
theorem x_183_19   : am_E d 183 Q (19, L, v :: .int x :: .ref a :: st, g) ↔ am_kg d 183 Q 20 L st (am_sat .iastore g a x v) := am_E_iastore (by decide +kernel : am_dc 183 19 = some (.iastore)) rfl
theorem x_183_20   : am_E d 183 Q (20, L, st, g) ↔ am_K d 183 Q (am_ldA 21 L st g 0) := am_E_aload_n (by decide +kernel : am_dc 183 20 = some (.aload_n 0)) rfl rfl
theorem x_183_21   : am_E d 183 Q (21, L, .ref a :: st, g) ↔ am_kv d 183 Q 24 L st g (am_gf g a 11 52) := am_E_getfield (by decide +kernel : am_dc 183 21 = some (.getfield 124)) (by decide +kernel) rfl
theorem x_183_24   : am_E d 183 Q (24, L, st, g) ↔ am_K d 183 Q (am_ldA 25 L st g 0) := am_E_aload_n (by decide +kernel : am_dc 183 24 = some (.aload_n 0)) rfl rfl
theorem x_183_25   : am_E d 183 Q (25, L, .ref a :: st, g) ↔ am_kv d 183 Q 28 L st g (am_gf g a 11 47) := am_E_getfield (by decide +kernel : am_dc 183 25 = some (.getfield 315)) (by decide +kernel) rfl
theorem x_183_28   : am_E d 183 Q (28, L, st, g) ↔ am_E d 183 Q (29, L, .int (0) :: st, g) := am_E_iconst (by decide +kernel : am_dc 183 28 = some (.iconst (0))) (by decide) rfl
theorem x_183_29   : am_E d 183 Q (29, L, v :: .int x :: .ref a :: st, g) ↔ am_kg d 183 Q 30 L st (am_sat .iastore g a x v) := am_E_iastore (by decide +kernel : am_dc 183 29 = some (.iastore)) rfl
theorem x_183_30   : am_E d 183 Q (30, L, st, g) ↔ am_K d 183 Q (am_ldA 31 L st g 0) := am_E_aload_n (by decide +kernel : am_dc 183 30 = some (.aload_n 0)) rfl rfl
theorem x_183_31   : am_E d 183 Q (31, L, .ref a :: st, g) ↔ am_kv d 183 Q 34 L st g (am_gf g a 11 53) := am_E_getfield (by decide +kernel : am_dc 183 31 = some (.getfield 127)) (by decide +kernel) rfl
theorem x_183_34   : am_E d 183 Q (34, L, st, g) ↔ am_K d 183 Q (am_ldA 35 L st g 0) := am_E_aload_n (by decide +kernel : am_dc 183 34 = some (.aload_n 0)) rfl rfl
theorem x_183_35   : am_E d 183 Q (35, L, .ref a :: st, g) ↔ am_kv d 183 Q 38 L st g (am_gf g a 11 47) := am_E_getfield (by decide +kernel : am_dc 183 35 = some (.getfield 315)) (by decide +kernel) rfl
theorem x_183_38   : am_E d 183 Q (38, L, st, g) ↔ am_K d 183 Q (am_ldI 39 L st g 3) := am_E_iload_n (by decide +kernel : am_dc 183 38 = some (.iload_n 3)) rfl rfl
theorem x_183_39   : am_E d 183 Q (39, L, v :: .int x :: .ref a :: st, g) ↔ am_kg d 183 Q 40 L st (am_sat .iastore g a x v) := am_E_iastore (by decide +kernel : am_dc 183 39 = some (.iastore)) rfl
theorem x_183_40   : am_E d 183 Q (40, L, st, g) ↔ am_K d 183 Q (am_ldA 41 L st g 0) := am_E_aload_n (by decide +kernel : am_dc 183 40 = some (.aload_n 0)) rfl rfl
theorem x_183_41   : am_E d 183 Q (41, L, .ref a :: st, g) ↔ am_kv d 183 Q 44 L st g (am_gf g a 11 54) := am_E_getfield (by decide +kernel : am_dc 183 41 = some (.getfield 130)) (by decide +kernel) rfl
theorem x_183_44   : am_E d 183 Q (44, L, st, g) ↔ am_K d 183 Q (am_ldA 45 L st g 0) := am_E_aload_n (by decide +kernel : am_dc 183 44 = some (.aload_n 0)) rfl rfl
theorem x_183_45   : am_E d 183 Q (45, L, .ref a :: st, g) ↔ am_kv d 183 Q 48 L st g (am_gf g a 11 47) := am_E_getfield (by decide +kernel : am_dc 183 45 = some (.getfield 315)) (by decide +kernel) rfl
theorem x_183_48   : am_E d 183 Q (48, L, st, g) ↔ am_K d 183 Q (am_ldI 49 L st g 1) := am_E_iload_n (by decide +kernel : am_dc 183 48 = some (.iload_n 1)) rfl rfl
theorem x_183_49   : am_E d 183 Q (49, L, v :: .int x :: .ref a :: st, g) ↔ am_kg d 183 Q 50 L st (am_sat .iastore g a x v) := am_E_iastore (by decide +kernel : am_dc 183 49 = some (.iastore)) rfl
theorem x_183_50   : am_E d 183 Q (50, L, st, g) ↔ am_K d 183 Q (am_ldA 51 L st g 0) := am_E_aload_n (by decide +kernel : am_dc 183 50 = some (.aload_n 0)) rfl rfl
theorem x_183_51   : am_E d 183 Q (51, L, st, g) ↔ am_K d 183 Q (am_ldA 52 L st g 0) := am_E_aload_n (by decide +kernel : am_dc 183 51 = some (.aload_n 0)) rfl rfl
theorem x_183_52   : am_E d 183 Q (52, L, .ref a :: st, g) ↔ am_kv d 183 Q 55 L st g (am_gf g a 11 47) := am_E_getfield (by decide +kernel : am_dc 183 52 = some (.getfield 315)) (by decide +kernel) rfl
theorem x_183_55   : am_E d 183 Q (55, L, st, g) ↔ am_K d 183 Q (am_ldI 56 L st g 3) := am_E_iload_n (by decide +kernel : am_dc 183 55 = some (.iload_n 3)) rfl rfl
theorem x_183_56   : am_E d 183 Q (56, L, st, g) ↔ am_K d 183 Q (am_ldI 57 L st g 1) := am_E_iload_n (by decide +kernel : am_dc 183 56 = some (.iload_n 1)) rfl rfl
theorem x_183_57  : am_E d 183 Q (57, L, st, g) ↔ am_K d 183 Q (am_S 183 (.invokevirtual 318) 57 L st g) := am_E_x (by decide +kernel : am_dc 183 57 = some (.invokevirtual 318))
theorem x_183_60   : am_E d 183 Q (60, L, st, g) ↔ am_K d 183 Q (am_ldA 61 L st g 0) := am_E_aload_n (by decide +kernel : am_dc 183 60 = some (.aload_n 0)) rfl rfl
theorem x_183_61   : am_E d 183 Q (61, L, v :: st, g) ↔ if v.category = 1 then am_E d 183 Q (62, L, v :: v :: st, g) else False := am_E_dup (by decide +kernel : am_dc 183 61 = some (.dup)) rfl
theorem x_183_62   : am_E d 183 Q (62, L, .ref a :: st, g) ↔ am_kv d 183 Q 65 L st g (am_gf g a 11 47) := am_E_getfield (by decide +kernel : am_dc 183 62 = some (.getfield 315)) (by decide +kernel) rfl
theorem x_183_65   : am_E d 183 Q (65, L, st, g) ↔ am_E d 183 Q (66, L, .int (1) :: st, g) := am_E_iconst (by decide +kernel : am_dc 183 65 = some (.iconst (1))) (by decide) rfl
theorem x_183_66   : am_E d 183 Q (66, L, .int y :: .int x :: st, g) ↔ am_E d 183 Q (67, L, .int (x + y) :: st, g) := am_E_iadd (by decide +kernel : am_dc 183 66 = some (.iadd)) rfl
theorem x_183_67   (hok : (am_ok (am_ft 11 47).1 v && (!(am_ft 11 47).2 || (am_ini 183 && am_co 11 == am_o 183)) && decide (11 < 13)) = true) : am_E d 183 Q (67, L, v :: .ref a :: st, g) ↔ am_kg d 183 Q 70 L st (am_pf g a 11 47 v) := am_E_putfield (by decide +kernel : am_dc 183 67 = some (.putfield 315)) (by decide +kernel) rfl hok
theorem x_183_70  : am_E d 183 Q (70, L, [], g) ↔ Q (.inl none) g := am_E_return (by decide +kernel : am_dc 183 70 = some (.return_)) (by decide +kernel)
theorem f_183_118 : am_fl 183 118 = some (11, 50) := by decide +kernel
theorem f_183_315 : am_fl 183 315 = some (11, 47) := by decide +kernel
theorem f_183_121 : am_fl 183 121 = some (11, 51) := by decide +kernel
theorem f_183_124 : am_fl 183 124 = some (11, 52) := by decide +kernel
theorem f_183_127 : am_fl 183 127 = some (11, 53) := by decide +kernel
theorem f_183_130 : am_fl 183 130 = some (11, 54) := by decide +kernel
theorem v_183_318 : am_iv 183 318 = some (1, 161, 4) := by decide +kernel
theorem t_183 : am_t 183 = none := by decide +kernel
theorem h_183 : am_h 183 = [] := by decide +kernel
theorem m_183 : am_m 183 = 4 := by decide +kernel
theorem x_184_0   : am_E d 184 Q (0, L, st, g) ↔ am_K d 184 Q (am_ldA 1 L st g 0) := am_E_aload_n (by decide +kernel : am_dc 184 0 = some (.aload_n 0)) rfl rfl
theorem x_184_1   : am_E d 184 Q (1, L, st, g) ↔ am_K d 184 Q (am_ldI 2 L st g 1) := am_E_iload_n (by decide +kernel : am_dc 184 1 = some (.iload_n 1)) rfl rfl
theorem x_184_2   : am_E d 184 Q (2, L, st, g) ↔ am_E d 184 Q (3, L, .int (1) :: st, g) := am_E_iconst (by decide +kernel : am_dc 184 2 = some (.iconst (1))) (by decide) rfl
theorem x_184_3   : am_E d 184 Q (3, L, .int y :: .int x :: st, g) ↔ am_E d 184 Q (am_cmp .lt x y 17 6, L, st, g) := am_E_ic (by decide +kernel : am_dc 184 3 = some (.if_icmp .lt (14))) rfl rfl
theorem x_184_6   : am_E d 184 Q (6, L, st, g) ↔ am_K d 184 Q (am_ldI 7 L st g 1) := am_E_iload_n (by decide +kernel : am_dc 184 6 = some (.iload_n 1)) rfl rfl
theorem x_184_7   : am_E d 184 Q (7, L, st, g) ↔ am_E d 184 Q (10, L, .int (2000) :: st, g) := am_E_sipush (by decide +kernel : am_dc 184 7 = some (.sipush (2000))) (by decide) rfl
theorem x_184_10   : am_E d 184 Q (10, L, .int y :: .int x :: st, g) ↔ am_E d 184 Q (am_cmp .gt x y 17 13, L, st, g) := am_E_ic (by decide +kernel : am_dc 184 10 = some (.if_icmp .gt (7))) rfl rfl
theorem x_184_13   : am_E d 184 Q (13, L, st, g) ↔ am_E d 184 Q (14, L, .int (1) :: st, g) := am_E_iconst (by decide +kernel : am_dc 184 13 = some (.iconst (1))) (by decide) rfl
theorem x_184_14   : am_E d 184 Q (14, L, st, g) ↔ am_E d 184 Q (18, L, st, g) := am_E_gt (by decide +kernel : am_dc 184 14 = some (.goto (4))) rfl rfl
theorem x_184_17   : am_E d 184 Q (17, L, st, g) ↔ am_E d 184 Q (18, L, .int (0) :: st, g) := am_E_iconst (by decide +kernel : am_dc 184 17 = some (.iconst (0))) (by decide) rfl
theorem x_184_18   : am_E d 184 Q (18, L, st, g) ↔ am_E d 184 Q (19, L, .int (1) :: st, g) := am_E_iconst (by decide +kernel : am_dc 184 18 = some (.iconst (1))) (by decide) rfl
theorem x_184_19   : am_E d 184 Q (19, L, st, g) ↔ am_E d 184 Q (20, L, .int (1) :: st, g) := am_E_iconst (by decide +kernel : am_dc 184 19 = some (.iconst (1))) (by decide) rfl
theorem x_184_20  : am_E d 184 Q (20, L, st, g) ↔ am_K d 184 Q (am_S 184 (.invokevirtual 196) 20 L st g) := am_E_x (by decide +kernel : am_dc 184 20 = some (.invokevirtual 196))
theorem x_184_23   : am_E d 184 Q (23, L, .int x :: st, g) ↔ am_E d 184 Q (am_cmp .ne x 0 28 26, L, st, g) := am_E_if (by decide +kernel : am_dc 184 23 = some (.ifCond .ne (5))) rfl rfl
theorem x_184_26   : am_E d 184 Q (26, L, st, g) ↔ am_E d 184 Q (27, L, .int (0) :: st, g) := am_E_iconst (by decide +kernel : am_dc 184 26 = some (.iconst (0))) (by decide) rfl
theorem x_184_27  : am_E d 184 Q (27, L, [.int x], g) ↔ if am_ok (FieldType.int) (.int x) = true then Q (.inl (some (.int x))) g else False := am_E_ireturn (by decide +kernel : am_dc 184 27 = some (.ireturn)) (by decide +kernel)
theorem x_184_28   : am_E d 184 Q (28, L, st, g) ↔ am_K d 184 Q (am_ldA 29 L st g 0) := am_E_aload_n (by decide +kernel : am_dc 184 28 = some (.aload_n 0)) rfl rfl
theorem x_184_29   : am_E d 184 Q (29, L, .ref a :: st, g) ↔ am_kv d 184 Q 32 L st g (am_gf g a 11 65) := am_E_getfield (by decide +kernel : am_dc 184 29 = some (.getfield 152)) (by decide +kernel) rfl
theorem x_184_32   : am_E d 184 Q (32, L, st, g) ↔ am_K d 184 Q (am_stI 33 L st g 2) := am_E_istore_n (by decide +kernel : am_dc 184 32 = some (.istore_n 2)) rfl rfl
theorem x_184_33   : am_E d 184 Q (33, L, st, g) ↔ am_K d 184 Q (am_ldA 34 L st g 0) := am_E_aload_n (by decide +kernel : am_dc 184 33 = some (.aload_n 0)) rfl rfl
theorem x_184_34   : am_E d 184 Q (34, L, st, g) ↔ am_K d 184 Q (am_ldI 35 L st g 1) := am_E_iload_n (by decide +kernel : am_dc 184 34 = some (.iload_n 1)) rfl rfl
theorem x_184_35   (hok : (am_ok (am_ft 11 65).1 v && (!(am_ft 11 65).2 || (am_ini 184 && am_co 11 == am_o 184)) && decide (11 < 13)) = true) : am_E d 184 Q (35, L, v :: .ref a :: st, g) ↔ am_kg d 184 Q 38 L st (am_pf g a 11 65 v) := am_E_putfield (by decide +kernel : am_dc 184 35 = some (.putfield 152)) (by decide +kernel) rfl hok
theorem x_184_38   : am_E d 184 Q (38, L, st, g) ↔ am_K d 184 Q (am_ldI 39 L st g 2) := am_E_iload_n (by decide +kernel : am_dc 184 38 = some (.iload_n 2)) rfl rfl
theorem x_184_39  : am_E d 184 Q (39, L, [.int x], g) ↔ if am_ok (FieldType.int) (.int x) = true then Q (.inl (some (.int x))) g else False := am_E_ireturn (by decide +kernel : am_dc 184 39 = some (.ireturn)) (by decide +kernel)
theorem v_184_196 : am_iv 184 196 = some (1, 185, 4) := by decide +kernel
theorem f_184_152 : am_fl 184 152 = some (11, 65) := by decide +kernel
theorem t_184 : am_t 184 = some (FieldType.int) := by decide +kernel
theorem h_184 : am_h 184 = [] := by decide +kernel
theorem m_184 : am_m 184 = 3 := by decide +kernel
theorem x_185_0   : am_E d 185 Q (0, L, st, g) ↔ am_K d 185 Q (am_ldA 1 L st g 0) := am_E_aload_n (by decide +kernel : am_dc 185 0 = some (.aload_n 0)) rfl rfl
theorem x_185_1   : am_E d 185 Q (1, L, st, g) ↔ am_K d 185 Q (am_ldI 2 L st g 1) := am_E_iload_n (by decide +kernel : am_dc 185 1 = some (.iload_n 1)) rfl rfl
theorem x_185_2   : am_E d 185 Q (2, L, .int x :: st, g) ↔ am_E d 185 Q (am_cmp .ne x 0 9 5, L, st, g) := am_E_if (by decide +kernel : am_dc 185 2 = some (.ifCond .ne (7))) rfl rfl
theorem x_185_5   : am_E d 185 Q (5, L, st, g) ↔ am_E d 185 Q (6, L, .int (1) :: st, g) := am_E_iconst (by decide +kernel : am_dc 185 5 = some (.iconst (1))) (by decide) rfl
theorem x_185_6   : am_E d 185 Q (6, L, st, g) ↔ am_E d 185 Q (26, L, st, g) := am_E_gt (by decide +kernel : am_dc 185 6 = some (.goto (20))) rfl rfl
theorem x_185_9   : am_E d 185 Q (9, L, st, g) ↔ am_K d 185 Q (am_ldI 10 L st g 2) := am_E_iload_n (by decide +kernel : am_dc 185 9 = some (.iload_n 2)) rfl rfl
theorem x_185_10   : am_E d 185 Q (10, L, .int x :: st, g) ↔ am_E d 185 Q (am_cmp .ne x 0 17 13, L, st, g) := am_E_if (by decide +kernel : am_dc 185 10 = some (.ifCond .ne (7))) rfl rfl
theorem x_185_13   : am_E d 185 Q (13, L, st, g) ↔ am_E d 185 Q (14, L, .int (2) :: st, g) := am_E_iconst (by decide +kernel : am_dc 185 13 = some (.iconst (2))) (by decide) rfl
theorem x_185_14   : am_E d 185 Q (14, L, st, g) ↔ am_E d 185 Q (26, L, st, g) := am_E_gt (by decide +kernel : am_dc 185 14 = some (.goto (12))) rfl rfl
theorem x_185_17   : am_E d 185 Q (17, L, st, g) ↔ am_K d 185 Q (am_ldI 18 L st g 3) := am_E_iload_n (by decide +kernel : am_dc 185 17 = some (.iload_n 3)) rfl rfl
theorem x_185_18   : am_E d 185 Q (18, L, .int x :: st, g) ↔ am_E d 185 Q (am_cmp .ne x 0 25 21, L, st, g) := am_E_if (by decide +kernel : am_dc 185 18 = some (.ifCond .ne (7))) rfl rfl
theorem x_185_21   : am_E d 185 Q (21, L, st, g) ↔ am_E d 185 Q (22, L, .int (3) :: st, g) := am_E_iconst (by decide +kernel : am_dc 185 21 = some (.iconst (3))) (by decide) rfl
theorem x_185_22   : am_E d 185 Q (22, L, st, g) ↔ am_E d 185 Q (26, L, st, g) := am_E_gt (by decide +kernel : am_dc 185 22 = some (.goto (4))) rfl rfl
theorem x_185_25   : am_E d 185 Q (25, L, st, g) ↔ am_E d 185 Q (26, L, .int (0) :: st, g) := am_E_iconst (by decide +kernel : am_dc 185 25 = some (.iconst (0))) (by decide) rfl
theorem x_185_26   (hok : (am_ok (am_ft 11 0).1 v && (!(am_ft 11 0).2 || (am_ini 185 && am_co 11 == am_o 185)) && decide (11 < 13)) = true) : am_E d 185 Q (26, L, v :: .ref a :: st, g) ↔ am_kg d 185 Q 29 L st (am_pf g a 11 0 v) := am_E_putfield (by decide +kernel : am_dc 185 26 = some (.putfield 168)) (by decide +kernel) rfl hok
theorem x_185_29   : am_E d 185 Q (29, L, st, g) ↔ am_K d 185 Q (am_ldA 30 L st g 0) := am_E_aload_n (by decide +kernel : am_dc 185 29 = some (.aload_n 0)) rfl rfl
theorem x_185_30   : am_E d 185 Q (30, L, .ref a :: st, g) ↔ am_kv d 185 Q 33 L st g (am_gf g a 11 0) := am_E_getfield (by decide +kernel : am_dc 185 30 = some (.getfield 168)) (by decide +kernel) rfl
theorem x_185_33   : am_E d 185 Q (33, L, .int x :: st, g) ↔ am_E d 185 Q (am_cmp .ne x 0 40 36, L, st, g) := am_E_if (by decide +kernel : am_dc 185 33 = some (.ifCond .ne (7))) rfl rfl
theorem x_185_36   : am_E d 185 Q (36, L, st, g) ↔ am_E d 185 Q (37, L, .int (1) :: st, g) := am_E_iconst (by decide +kernel : am_dc 185 36 = some (.iconst (1))) (by decide) rfl
theorem x_185_37   : am_E d 185 Q (37, L, st, g) ↔ am_E d 185 Q (41, L, st, g) := am_E_gt (by decide +kernel : am_dc 185 37 = some (.goto (4))) rfl rfl
theorem x_185_40   : am_E d 185 Q (40, L, st, g) ↔ am_E d 185 Q (41, L, .int (0) :: st, g) := am_E_iconst (by decide +kernel : am_dc 185 40 = some (.iconst (0))) (by decide) rfl
theorem x_185_41  : am_E d 185 Q (41, L, [.int x], g) ↔ if am_ok (FieldType.boolean) (.int x) = true then Q (.inl (some (.int x))) g else False := am_E_ireturn (by decide +kernel : am_dc 185 41 = some (.ireturn)) (by decide +kernel)
theorem f_185_168 : am_fl 185 168 = some (11, 0) := by decide +kernel
theorem t_185 : am_t 185 = some (FieldType.boolean) := by decide +kernel
theorem h_185 : am_h 185 = [] := by decide +kernel
theorem m_185 : am_m 185 = 4 := by decide +kernel
theorem x_186_0   : am_E d 186 Q (0, L, st, g) ↔ am_E d 186 Q (1, L, .int (0) :: st, g) := am_E_iconst (by decide +kernel : am_dc 186 0 = some (.iconst (0))) (by decide) rfl
theorem x_186_1   : am_E d 186 Q (1, L, st, g) ↔ am_K d 186 Q (am_stI 2 L st g 1) := am_E_istore_n (by decide +kernel : am_dc 186 1 = some (.istore_n 1)) rfl rfl
theorem x_186_2   : am_E d 186 Q (2, L, st, g) ↔ am_K d 186 Q (am_ldI 3 L st g 1) := am_E_iload_n (by decide +kernel : am_dc 186 2 = some (.iload_n 1)) rfl rfl
theorem x_186_3   : am_E d 186 Q (3, L, st, g) ↔ am_E d 186 Q (4, L, .int (3) :: st, g) := am_E_iconst (by decide +kernel : am_dc 186 3 = some (.iconst (3))) (by decide) rfl
theorem x_186_4   : am_E d 186 Q (4, L, .int y :: .int x :: st, g) ↔ am_E d 186 Q (am_cmp .ge x y 34 7, L, st, g) := am_E_ic (by decide +kernel : am_dc 186 4 = some (.if_icmp .ge (30))) rfl rfl
theorem x_186_7   : am_E d 186 Q (7, L, st, g) ↔ am_K d 186 Q (am_ldA 8 L st g 0) := am_E_aload_n (by decide +kernel : am_dc 186 7 = some (.aload_n 0)) rfl rfl
theorem x_186_8   : am_E d 186 Q (8, L, .ref a :: st, g) ↔ am_kv d 186 Q 11 L st g (am_gf g a 11 1) := am_E_getfield (by decide +kernel : am_dc 186 8 = some (.getfield 7)) (by decide +kernel) rfl
theorem x_186_11   : am_E d 186 Q (11, L, st, g) ↔ am_E d 186 Q (13, L, .int (6) :: st, g) := am_E_bipush (by decide +kernel : am_dc 186 11 = some (.bipush (6))) (by decide) rfl
theorem x_186_13   : am_E d 186 Q (13, L, st, g) ↔ am_K d 186 Q (am_ldI 14 L st g 1) := am_E_iload_n (by decide +kernel : am_dc 186 13 = some (.iload_n 1)) rfl rfl
theorem x_186_14   : am_E d 186 Q (14, L, .int y :: .int x :: st, g) ↔ am_E d 186 Q (15, L, .int (x * y) :: st, g) := am_E_imul (by decide +kernel : am_dc 186 14 = some (.imul)) rfl
theorem x_186_15   : am_E d 186 Q (15, L, st, g) ↔ am_K d 186 Q (am_ldA 16 L st g 0) := am_E_aload_n (by decide +kernel : am_dc 186 15 = some (.aload_n 0)) rfl rfl
theorem x_186_16   : am_E d 186 Q (16, L, .ref a :: st, g) ↔ am_kv d 186 Q 19 L st g (am_gf g a 11 7) := am_E_getfield (by decide +kernel : am_dc 186 16 = some (.getfield 29)) (by decide +kernel) rfl
theorem x_186_19   : am_E d 186 Q (19, L, st, g) ↔ am_K d 186 Q (am_ldI 20 L st g 1) := am_E_iload_n (by decide +kernel : am_dc 186 19 = some (.iload_n 1)) rfl rfl
theorem x_186_20   : am_E d 186 Q (20, L, .int x :: .ref a :: st, g) ↔ am_kv d 186 Q 21 L st g (am_iat .iaload g a x) := am_E_iaload (by decide +kernel : am_dc 186 20 = some (.iaload)) rfl
theorem x_186_21   : am_E d 186 Q (21, L, .int y :: .int x :: st, g) ↔ am_E d 186 Q (22, L, .int (x + y) :: st, g) := am_E_iadd (by decide +kernel : am_dc 186 21 = some (.iadd)) rfl
theorem x_186_22   : am_E d 186 Q (22, L, .int x :: .ref a :: st, g) ↔ am_kv d 186 Q 23 L st g (am_iat .baload g a x) := am_E_baload (by decide +kernel : am_dc 186 22 = some (.baload)) rfl
theorem x_186_23   : am_E d 186 Q (23, L, .int x :: st, g) ↔ am_E d 186 Q (am_cmp .ne x 0 28 26, L, st, g) := am_E_if (by decide +kernel : am_dc 186 23 = some (.ifCond .ne (5))) rfl rfl
theorem x_186_26   : am_E d 186 Q (26, L, st, g) ↔ am_E d 186 Q (27, L, .int (-1) :: st, g) := am_E_iconst (by decide +kernel : am_dc 186 26 = some (.iconst (-1))) (by decide) rfl
theorem x_186_27  : am_E d 186 Q (27, L, [.int x], g) ↔ if am_ok (FieldType.int) (.int x) = true then Q (.inl (some (.int x))) g else False := am_E_ireturn (by decide +kernel : am_dc 186 27 = some (.ireturn)) (by decide +kernel)
theorem x_186_28   (hk : L.getD 1 none = some (.int x)) (hl : 1 < L.length) : am_E d 186 Q (28, L, st, g) ↔ am_E d 186 Q (31, am_s1 L 1 (.int (x + (1))), st, g) := am_E_iinc (by decide +kernel : am_dc 186 28 = some (.iinc 1 (1))) (by decide) rfl hk hl
theorem x_186_31   : am_E d 186 Q (31, L, st, g) ↔ am_E d 186 Q (2, L, st, g) := am_E_gt (by decide +kernel : am_dc 186 31 = some (.goto (-29))) rfl rfl
theorem x_186_34   : am_E d 186 Q (34, L, st, g) ↔ am_K d 186 Q (am_ldA 35 L st g 0) := am_E_aload_n (by decide +kernel : am_dc 186 34 = some (.aload_n 0)) rfl rfl
theorem x_186_35   : am_E d 186 Q (35, L, .ref a :: st, g) ↔ am_kv d 186 Q 38 L st g (am_gf g a 11 7) := am_E_getfield (by decide +kernel : am_dc 186 35 = some (.getfield 29)) (by decide +kernel) rfl
theorem x_186_38   : am_E d 186 Q (38, L, st, g) ↔ am_E d 186 Q (39, L, .int (0) :: st, g) := am_E_iconst (by decide +kernel : am_dc 186 38 = some (.iconst (0))) (by decide) rfl
theorem x_186_39   : am_E d 186 Q (39, L, .int x :: .ref a :: st, g) ↔ am_kv d 186 Q 40 L st g (am_iat .iaload g a x) := am_E_iaload (by decide +kernel : am_dc 186 39 = some (.iaload)) rfl
theorem x_186_40   : am_E d 186 Q (40, L, st, g) ↔ am_E d 186 Q (42, L, .int (6) :: st, g) := am_E_bipush (by decide +kernel : am_dc 186 40 = some (.bipush (6))) (by decide) rfl
theorem x_186_42   : am_E d 186 Q (42, L, st, g) ↔ am_K d 186 Q (am_ldA 43 L st g 0) := am_E_aload_n (by decide +kernel : am_dc 186 42 = some (.aload_n 0)) rfl rfl
theorem x_186_43   : am_E d 186 Q (43, L, .ref a :: st, g) ↔ am_kv d 186 Q 46 L st g (am_gf g a 11 7) := am_E_getfield (by decide +kernel : am_dc 186 43 = some (.getfield 29)) (by decide +kernel) rfl
theorem x_186_46   : am_E d 186 Q (46, L, st, g) ↔ am_E d 186 Q (47, L, .int (1) :: st, g) := am_E_iconst (by decide +kernel : am_dc 186 46 = some (.iconst (1))) (by decide) rfl
theorem x_186_47   : am_E d 186 Q (47, L, .int x :: .ref a :: st, g) ↔ am_kv d 186 Q 48 L st g (am_iat .iaload g a x) := am_E_iaload (by decide +kernel : am_dc 186 47 = some (.iaload)) rfl
theorem x_186_48   : am_E d 186 Q (48, L, .int y :: .int x :: st, g) ↔ am_E d 186 Q (49, L, .int (x * y) :: st, g) := am_E_imul (by decide +kernel : am_dc 186 48 = some (.imul)) rfl
theorem x_186_49   : am_E d 186 Q (49, L, .int y :: .int x :: st, g) ↔ am_E d 186 Q (50, L, .int (x + y) :: st, g) := am_E_iadd (by decide +kernel : am_dc 186 49 = some (.iadd)) rfl
theorem x_186_50   : am_E d 186 Q (50, L, st, g) ↔ am_E d 186 Q (52, L, .int (36) :: st, g) := am_E_bipush (by decide +kernel : am_dc 186 50 = some (.bipush (36))) (by decide) rfl
theorem x_186_52   : am_E d 186 Q (52, L, st, g) ↔ am_K d 186 Q (am_ldA 53 L st g 0) := am_E_aload_n (by decide +kernel : am_dc 186 52 = some (.aload_n 0)) rfl rfl
theorem x_186_53   : am_E d 186 Q (53, L, .ref a :: st, g) ↔ am_kv d 186 Q 56 L st g (am_gf g a 11 7) := am_E_getfield (by decide +kernel : am_dc 186 53 = some (.getfield 29)) (by decide +kernel) rfl
theorem x_186_56   : am_E d 186 Q (56, L, st, g) ↔ am_E d 186 Q (57, L, .int (2) :: st, g) := am_E_iconst (by decide +kernel : am_dc 186 56 = some (.iconst (2))) (by decide) rfl
theorem x_186_57   : am_E d 186 Q (57, L, .int x :: .ref a :: st, g) ↔ am_kv d 186 Q 58 L st g (am_iat .iaload g a x) := am_E_iaload (by decide +kernel : am_dc 186 57 = some (.iaload)) rfl
theorem x_186_58   : am_E d 186 Q (58, L, .int y :: .int x :: st, g) ↔ am_E d 186 Q (59, L, .int (x * y) :: st, g) := am_E_imul (by decide +kernel : am_dc 186 58 = some (.imul)) rfl
theorem x_186_59   : am_E d 186 Q (59, L, .int y :: .int x :: st, g) ↔ am_E d 186 Q (60, L, .int (x + y) :: st, g) := am_E_iadd (by decide +kernel : am_dc 186 59 = some (.iadd)) rfl
theorem x_186_60  : am_E d 186 Q (60, L, [.int x], g) ↔ if am_ok (FieldType.int) (.int x) = true then Q (.inl (some (.int x))) g else False := am_E_ireturn (by decide +kernel : am_dc 186 60 = some (.ireturn)) (by decide +kernel)
theorem f_186_7 : am_fl 186 7 = some (11, 1) := by decide +kernel
theorem f_186_29 : am_fl 186 29 = some (11, 7) := by decide +kernel
theorem t_186 : am_t 186 = some (FieldType.int) := by decide +kernel
theorem h_186 : am_h 186 = [] := by decide +kernel
theorem m_186 : am_m 186 = 2 := by decide +kernel
theorem x_187_0   : am_E d 187 Q (0, L, st, g) ↔ am_E d 187 Q (1, L, .int (0) :: st, g) := am_E_iconst (by decide +kernel : am_dc 187 0 = some (.iconst (0))) (by decide) rfl
theorem x_187_1   : am_E d 187 Q (1, L, st, g) ↔ am_K d 187 Q (am_stI 2 L st g 3) := am_E_istore_n (by decide +kernel : am_dc 187 1 = some (.istore_n 3)) rfl rfl
theorem x_187_2   : am_E d 187 Q (2, L, st, g) ↔ am_E d 187 Q (3, L, .int (0) :: st, g) := am_E_iconst (by decide +kernel : am_dc 187 2 = some (.iconst (0))) (by decide) rfl
theorem x_187_3   : am_E d 187 Q (3, L, st, g) ↔ am_K d 187 Q (am_stI 5 L st g 4) := am_E_istore (by decide +kernel : am_dc 187 3 = some (.istore 4)) rfl
theorem x_187_5   : am_E d 187 Q (5, L, st, g) ↔ am_K d 187 Q (am_ldI 7 L st g 4) := am_E_iload (by decide +kernel : am_dc 187 5 = some (.iload 4)) rfl
theorem x_187_7   : am_E d 187 Q (7, L, st, g) ↔ am_K d 187 Q (am_ldA 8 L st g 0) := am_E_aload_n (by decide +kernel : am_dc 187 7 = some (.aload_n 0)) rfl rfl
theorem x_187_8   : am_E d 187 Q (8, L, .ref a :: st, g) ↔ am_kv d 187 Q 11 L st g (am_gf g a 11 11) := am_E_getfield (by decide +kernel : am_dc 187 8 = some (.getfield 211)) (by decide +kernel) rfl
theorem x_187_11   : am_E d 187 Q (11, L, .int y :: .int x :: st, g) ↔ am_E d 187 Q (am_cmp .ge x y 127 14, L, st, g) := am_E_ic (by decide +kernel : am_dc 187 11 = some (.if_icmp .ge (116))) rfl rfl
theorem x_187_14   : am_E d 187 Q (14, L, st, g) ↔ am_K d 187 Q (am_ldI 15 L st g 3) := am_E_iload_n (by decide +kernel : am_dc 187 14 = some (.iload_n 3)) rfl rfl
theorem x_187_15   : am_E d 187 Q (15, L, .int x :: st, g) ↔ am_E d 187 Q (am_cmp .ne x 0 47 18, L, st, g) := am_E_if (by decide +kernel : am_dc 187 15 = some (.ifCond .ne (32))) rfl rfl
theorem x_187_18   : am_E d 187 Q (18, L, st, g) ↔ am_K d 187 Q (am_ldA 19 L st g 0) := am_E_aload_n (by decide +kernel : am_dc 187 18 = some (.aload_n 0)) rfl rfl
theorem x_187_19   : am_E d 187 Q (19, L, .ref a :: st, g) ↔ am_kv d 187 Q 22 L st g (am_gf g a 11 12) := am_E_getfield (by decide +kernel : am_dc 187 19 = some (.getfield 42)) (by decide +kernel) rfl
theorem x_187_22   : am_E d 187 Q (22, L, st, g) ↔ am_E d 187 Q (23, L, .int (3) :: st, g) := am_E_iconst (by decide +kernel : am_dc 187 22 = some (.iconst (3))) (by decide) rfl
theorem x_187_23   : am_E d 187 Q (23, L, st, g) ↔ am_K d 187 Q (am_ldI 25 L st g 4) := am_E_iload (by decide +kernel : am_dc 187 23 = some (.iload 4)) rfl
theorem x_187_25   : am_E d 187 Q (25, L, .int y :: .int x :: st, g) ↔ am_E d 187 Q (26, L, .int (x * y) :: st, g) := am_E_imul (by decide +kernel : am_dc 187 25 = some (.imul)) rfl
theorem x_187_26   : am_E d 187 Q (26, L, st, g) ↔ am_K d 187 Q (am_ldI 27 L st g 1) := am_E_iload_n (by decide +kernel : am_dc 187 26 = some (.iload_n 1)) rfl rfl
theorem x_187_27   : am_E d 187 Q (27, L, .int y :: .int x :: st, g) ↔ am_E d 187 Q (28, L, .int (x + y) :: st, g) := am_E_iadd (by decide +kernel : am_dc 187 27 = some (.iadd)) rfl
theorem x_187_28   : am_E d 187 Q (28, L, .int x :: .ref a :: st, g) ↔ am_kv d 187 Q 29 L st g (am_iat .iaload g a x) := am_E_iaload (by decide +kernel : am_dc 187 28 = some (.iaload)) rfl
theorem x_187_29   : am_E d 187 Q (29, L, .int x :: st, g) ↔ am_E d 187 Q (am_cmp .le x 0 51 32, L, st, g) := am_E_if (by decide +kernel : am_dc 187 29 = some (.ifCond .le (22))) rfl rfl
theorem x_187_32   : am_E d 187 Q (32, L, st, g) ↔ am_K d 187 Q (am_ldA 33 L st g 0) := am_E_aload_n (by decide +kernel : am_dc 187 32 = some (.aload_n 0)) rfl rfl
theorem x_187_33   : am_E d 187 Q (33, L, .ref a :: st, g) ↔ am_kv d 187 Q 36 L st g (am_gf g a 11 13) := am_E_getfield (by decide +kernel : am_dc 187 33 = some (.getfield 45)) (by decide +kernel) rfl
theorem x_187_36   : am_E d 187 Q (36, L, st, g) ↔ am_E d 187 Q (37, L, .int (3) :: st, g) := am_E_iconst (by decide +kernel : am_dc 187 36 = some (.iconst (3))) (by decide) rfl
theorem x_187_37   : am_E d 187 Q (37, L, st, g) ↔ am_K d 187 Q (am_ldI 39 L st g 4) := am_E_iload (by decide +kernel : am_dc 187 37 = some (.iload 4)) rfl
theorem x_187_39   : am_E d 187 Q (39, L, .int y :: .int x :: st, g) ↔ am_E d 187 Q (40, L, .int (x * y) :: st, g) := am_E_imul (by decide +kernel : am_dc 187 39 = some (.imul)) rfl
theorem x_187_40   : am_E d 187 Q (40, L, st, g) ↔ am_K d 187 Q (am_ldI 41 L st g 1) := am_E_iload_n (by decide +kernel : am_dc 187 40 = some (.iload_n 1)) rfl rfl
theorem x_187_41   : am_E d 187 Q (41, L, .int y :: .int x :: st, g) ↔ am_E d 187 Q (42, L, .int (x + y) :: st, g) := am_E_iadd (by decide +kernel : am_dc 187 41 = some (.iadd)) rfl
theorem x_187_42   : am_E d 187 Q (42, L, .int x :: .ref a :: st, g) ↔ am_kv d 187 Q 43 L st g (am_iat .iaload g a x) := am_E_iaload (by decide +kernel : am_dc 187 42 = some (.iaload)) rfl
theorem x_187_43   : am_E d 187 Q (43, L, st, g) ↔ am_K d 187 Q (am_ldI 44 L st g 2) := am_E_iload_n (by decide +kernel : am_dc 187 43 = some (.iload_n 2)) rfl rfl
theorem x_187_44   : am_E d 187 Q (44, L, .int y :: .int x :: st, g) ↔ am_E d 187 Q (am_cmp .ne x y 51 47, L, st, g) := am_E_ic (by decide +kernel : am_dc 187 44 = some (.if_icmp .ne (7))) rfl rfl
theorem x_187_47   : am_E d 187 Q (47, L, st, g) ↔ am_E d 187 Q (48, L, .int (1) :: st, g) := am_E_iconst (by decide +kernel : am_dc 187 47 = some (.iconst (1))) (by decide) rfl
theorem x_187_48   : am_E d 187 Q (48, L, st, g) ↔ am_E d 187 Q (52, L, st, g) := am_E_gt (by decide +kernel : am_dc 187 48 = some (.goto (4))) rfl rfl
theorem x_187_51   : am_E d 187 Q (51, L, st, g) ↔ am_E d 187 Q (52, L, .int (0) :: st, g) := am_E_iconst (by decide +kernel : am_dc 187 51 = some (.iconst (0))) (by decide) rfl
theorem x_187_52   : am_E d 187 Q (52, L, st, g) ↔ am_K d 187 Q (am_stI 53 L st g 3) := am_E_istore_n (by decide +kernel : am_dc 187 52 = some (.istore_n 3)) rfl rfl
theorem x_187_53   : am_E d 187 Q (53, L, st, g) ↔ am_E d 187 Q (54, L, .int (0) :: st, g) := am_E_iconst (by decide +kernel : am_dc 187 53 = some (.iconst (0))) (by decide) rfl
theorem x_187_54   : am_E d 187 Q (54, L, st, g) ↔ am_K d 187 Q (am_stI 56 L st g 5) := am_E_istore (by decide +kernel : am_dc 187 54 = some (.istore 5)) rfl
theorem x_187_56   : am_E d 187 Q (56, L, st, g) ↔ am_K d 187 Q (am_ldI 58 L st g 5) := am_E_iload (by decide +kernel : am_dc 187 56 = some (.iload 5)) rfl
theorem x_187_58   : am_E d 187 Q (58, L, st, g) ↔ am_K d 187 Q (am_ldA 59 L st g 0) := am_E_aload_n (by decide +kernel : am_dc 187 58 = some (.aload_n 0)) rfl rfl
theorem x_187_59   : am_E d 187 Q (59, L, .ref a :: st, g) ↔ am_kv d 187 Q 62 L st g (am_gf g a 11 18) := am_E_getfield (by decide +kernel : am_dc 187 59 = some (.getfield 60)) (by decide +kernel) rfl
theorem x_187_62   : am_E d 187 Q (62, L, st, g) ↔ am_K d 187 Q (am_ldI 64 L st g 4) := am_E_iload (by decide +kernel : am_dc 187 62 = some (.iload 4)) rfl
theorem x_187_64   : am_E d 187 Q (64, L, .int x :: .ref a :: st, g) ↔ am_kv d 187 Q 65 L st g (am_iat .iaload g a x) := am_E_iaload (by decide +kernel : am_dc 187 64 = some (.iaload)) rfl
theorem x_187_65   : am_E d 187 Q (65, L, .int y :: .int x :: st, g) ↔ am_E d 187 Q (am_cmp .ge x y 121 68, L, st, g) := am_E_ic (by decide +kernel : am_dc 187 65 = some (.if_icmp .ge (56))) rfl rfl
theorem x_187_68   : am_E d 187 Q (68, L, st, g) ↔ am_K d 187 Q (am_ldI 69 L st g 3) := am_E_iload_n (by decide +kernel : am_dc 187 68 = some (.iload_n 3)) rfl rfl
theorem x_187_69   : am_E d 187 Q (69, L, .int x :: st, g) ↔ am_E d 187 Q (am_cmp .ne x 0 109 72, L, st, g) := am_E_if (by decide +kernel : am_dc 187 69 = some (.ifCond .ne (40))) rfl rfl
theorem x_187_72   : am_E d 187 Q (72, L, st, g) ↔ am_K d 187 Q (am_ldA 73 L st g 0) := am_E_aload_n (by decide +kernel : am_dc 187 72 = some (.aload_n 0)) rfl rfl
theorem x_187_73   : am_E d 187 Q (73, L, .ref a :: st, g) ↔ am_kv d 187 Q 76 L st g (am_gf g a 11 19) := am_E_getfield (by decide +kernel : am_dc 187 73 = some (.getfield 63)) (by decide +kernel) rfl
theorem x_187_76   : am_E d 187 Q (76, L, st, g) ↔ am_E d 187 Q (78, L, .int (24) :: st, g) := am_E_bipush (by decide +kernel : am_dc 187 76 = some (.bipush (24))) (by decide) rfl
theorem x_187_78   : am_E d 187 Q (78, L, st, g) ↔ am_K d 187 Q (am_ldI 80 L st g 4) := am_E_iload (by decide +kernel : am_dc 187 78 = some (.iload 4)) rfl
theorem x_187_80   : am_E d 187 Q (80, L, .int y :: .int x :: st, g) ↔ am_E d 187 Q (81, L, .int (x * y) :: st, g) := am_E_imul (by decide +kernel : am_dc 187 80 = some (.imul)) rfl
theorem x_187_81   : am_E d 187 Q (81, L, st, g) ↔ am_K d 187 Q (am_ldI 83 L st g 5) := am_E_iload (by decide +kernel : am_dc 187 81 = some (.iload 5)) rfl
theorem x_187_83   : am_E d 187 Q (83, L, .int y :: .int x :: st, g) ↔ am_E d 187 Q (84, L, .int (x + y) :: st, g) := am_E_iadd (by decide +kernel : am_dc 187 83 = some (.iadd)) rfl
theorem x_187_84   : am_E d 187 Q (84, L, .int x :: .ref a :: st, g) ↔ am_kv d 187 Q 85 L st g (am_iat .iaload g a x) := am_E_iaload (by decide +kernel : am_dc 187 84 = some (.iaload)) rfl
theorem x_187_85   : am_E d 187 Q (85, L, st, g) ↔ am_K d 187 Q (am_ldI 86 L st g 1) := am_E_iload_n (by decide +kernel : am_dc 187 85 = some (.iload_n 1)) rfl rfl
theorem x_187_86   : am_E d 187 Q (86, L, .int y :: .int x :: st, g) ↔ am_E d 187 Q (am_cmp .ne x y 113 89, L, st, g) := am_E_ic (by decide +kernel : am_dc 187 86 = some (.if_icmp .ne (27))) rfl rfl
theorem x_187_89   : am_E d 187 Q (89, L, st, g) ↔ am_K d 187 Q (am_ldA 90 L st g 0) := am_E_aload_n (by decide +kernel : am_dc 187 89 = some (.aload_n 0)) rfl rfl
theorem x_187_90   : am_E d 187 Q (90, L, .ref a :: st, g) ↔ am_kv d 187 Q 93 L st g (am_gf g a 11 20) := am_E_getfield (by decide +kernel : am_dc 187 90 = some (.getfield 66)) (by decide +kernel) rfl
theorem x_187_93   : am_E d 187 Q (93, L, st, g) ↔ am_E d 187 Q (95, L, .int (24) :: st, g) := am_E_bipush (by decide +kernel : am_dc 187 93 = some (.bipush (24))) (by decide) rfl
theorem x_187_95   : am_E d 187 Q (95, L, st, g) ↔ am_K d 187 Q (am_ldI 97 L st g 4) := am_E_iload (by decide +kernel : am_dc 187 95 = some (.iload 4)) rfl
theorem x_187_97   : am_E d 187 Q (97, L, .int y :: .int x :: st, g) ↔ am_E d 187 Q (98, L, .int (x * y) :: st, g) := am_E_imul (by decide +kernel : am_dc 187 97 = some (.imul)) rfl
theorem x_187_98   : am_E d 187 Q (98, L, st, g) ↔ am_K d 187 Q (am_ldI 100 L st g 5) := am_E_iload (by decide +kernel : am_dc 187 98 = some (.iload 5)) rfl
theorem x_187_100   : am_E d 187 Q (100, L, .int y :: .int x :: st, g) ↔ am_E d 187 Q (101, L, .int (x + y) :: st, g) := am_E_iadd (by decide +kernel : am_dc 187 100 = some (.iadd)) rfl
theorem x_187_101   : am_E d 187 Q (101, L, .int x :: .ref a :: st, g) ↔ am_kv d 187 Q 102 L st g (am_iat .iaload g a x) := am_E_iaload (by decide +kernel : am_dc 187 101 = some (.iaload)) rfl
theorem x_187_102   : am_E d 187 Q (102, L, st, g) ↔ am_E d 187 Q (104, L, .int (48) :: st, g) := am_E_bipush (by decide +kernel : am_dc 187 102 = some (.bipush (48))) (by decide) rfl
theorem x_187_104   : am_E d 187 Q (104, L, st, g) ↔ am_K d 187 Q (am_ldI 105 L st g 2) := am_E_iload_n (by decide +kernel : am_dc 187 104 = some (.iload_n 2)) rfl rfl
theorem x_187_105   : am_E d 187 Q (105, L, .int y :: .int x :: st, g) ↔ am_E d 187 Q (106, L, .int (x + y) :: st, g) := am_E_iadd (by decide +kernel : am_dc 187 105 = some (.iadd)) rfl
theorem x_187_106   : am_E d 187 Q (106, L, .int y :: .int x :: st, g) ↔ am_E d 187 Q (am_cmp .ne x y 113 109, L, st, g) := am_E_ic (by decide +kernel : am_dc 187 106 = some (.if_icmp .ne (7))) rfl rfl
theorem x_187_109   : am_E d 187 Q (109, L, st, g) ↔ am_E d 187 Q (110, L, .int (1) :: st, g) := am_E_iconst (by decide +kernel : am_dc 187 109 = some (.iconst (1))) (by decide) rfl
theorem x_187_110   : am_E d 187 Q (110, L, st, g) ↔ am_E d 187 Q (114, L, st, g) := am_E_gt (by decide +kernel : am_dc 187 110 = some (.goto (4))) rfl rfl
theorem x_187_113   : am_E d 187 Q (113, L, st, g) ↔ am_E d 187 Q (114, L, .int (0) :: st, g) := am_E_iconst (by decide +kernel : am_dc 187 113 = some (.iconst (0))) (by decide) rfl
theorem x_187_114   : am_E d 187 Q (114, L, st, g) ↔ am_K d 187 Q (am_stI 115 L st g 3) := am_E_istore_n (by decide +kernel : am_dc 187 114 = some (.istore_n 3)) rfl rfl
theorem x_187_115   (hk : L.getD 5 none = some (.int x)) (hl : 5 < L.length) : am_E d 187 Q (115, L, st, g) ↔ am_E d 187 Q (118, am_s1 L 5 (.int (x + (1))), st, g) := am_E_iinc (by decide +kernel : am_dc 187 115 = some (.iinc 5 (1))) (by decide) rfl hk hl
theorem x_187_118   : am_E d 187 Q (118, L, st, g) ↔ am_E d 187 Q (56, L, st, g) := am_E_gt (by decide +kernel : am_dc 187 118 = some (.goto (-62))) rfl rfl
theorem x_187_121   (hk : L.getD 4 none = some (.int x)) (hl : 4 < L.length) : am_E d 187 Q (121, L, st, g) ↔ am_E d 187 Q (124, am_s1 L 4 (.int (x + (1))), st, g) := am_E_iinc (by decide +kernel : am_dc 187 121 = some (.iinc 4 (1))) (by decide) rfl hk hl
theorem x_187_124   : am_E d 187 Q (124, L, st, g) ↔ am_E d 187 Q (5, L, st, g) := am_E_gt (by decide +kernel : am_dc 187 124 = some (.goto (-119))) rfl rfl
theorem x_187_127   : am_E d 187 Q (127, L, st, g) ↔ am_K d 187 Q (am_ldI 128 L st g 3) := am_E_iload_n (by decide +kernel : am_dc 187 127 = some (.iload_n 3)) rfl rfl
theorem x_187_128  : am_E d 187 Q (128, L, [.int x], g) ↔ if am_ok (FieldType.boolean) (.int x) = true then Q (.inl (some (.int x))) g else False := am_E_ireturn (by decide +kernel : am_dc 187 128 = some (.ireturn)) (by decide +kernel)
theorem f_187_211 : am_fl 187 211 = some (11, 11) := by decide +kernel
theorem f_187_42 : am_fl 187 42 = some (11, 12) := by decide +kernel
theorem f_187_45 : am_fl 187 45 = some (11, 13) := by decide +kernel
theorem f_187_60 : am_fl 187 60 = some (11, 18) := by decide +kernel
theorem f_187_63 : am_fl 187 63 = some (11, 19) := by decide +kernel
theorem f_187_66 : am_fl 187 66 = some (11, 20) := by decide +kernel
theorem t_187 : am_t 187 = some (FieldType.boolean) := by decide +kernel
theorem h_187 : am_h 187 = [] := by decide +kernel
theorem m_187 : am_m 187 = 6 := by decide +kernel
theorem x_188_0   : am_E d 188 Q (0, L, st, g) ↔ am_E d 188 Q (1, L, .int (0) :: st, g) := am_E_iconst (by decide +kernel : am_dc 188 0 = some (.iconst (0))) (by decide) rfl
theorem x_188_1   : am_E d 188 Q (1, L, st, g) ↔ am_K d 188 Q (am_stI 2 L st g 2) := am_E_istore_n (by decide +kernel : am_dc 188 1 = some (.istore_n 2)) rfl rfl
theorem x_188_2   : am_E d 188 Q (2, L, st, g) ↔ am_K d 188 Q (am_ldI 3 L st g 2) := am_E_iload_n (by decide +kernel : am_dc 188 2 = some (.iload_n 2)) rfl rfl
theorem x_188_3   : am_E d 188 Q (3, L, st, g) ↔ am_E d 188 Q (4, L, .int (3) :: st, g) := am_E_iconst (by decide +kernel : am_dc 188 3 = some (.iconst (3))) (by decide) rfl
theorem x_188_4   : am_E d 188 Q (4, L, .int y :: .int x :: st, g) ↔ am_E d 188 Q (am_cmp .ge x y 28 7, L, st, g) := am_E_ic (by decide +kernel : am_dc 188 4 = some (.if_icmp .ge (24))) rfl rfl
theorem x_188_7   : am_E d 188 Q (7, L, st, g) ↔ am_K d 188 Q (am_ldA 8 L st g 0) := am_E_aload_n (by decide +kernel : am_dc 188 7 = some (.aload_n 0)) rfl rfl
theorem x_188_8   : am_E d 188 Q (8, L, st, g) ↔ am_K d 188 Q (am_ldI 9 L st g 2) := am_E_iload_n (by decide +kernel : am_dc 188 8 = some (.iload_n 2)) rfl rfl
theorem x_188_9   : am_E d 188 Q (9, L, st, g) ↔ am_K d 188 Q (am_ldI 10 L st g 1) := am_E_iload_n (by decide +kernel : am_dc 188 9 = some (.iload_n 1)) rfl rfl
theorem x_188_10   : am_E d 188 Q (10, L, st, g) ↔ am_K d 188 Q (am_ldI 11 L st g 2) := am_E_iload_n (by decide +kernel : am_dc 188 10 = some (.iload_n 2)) rfl rfl
theorem x_188_11  : am_E d 188 Q (11, L, st, g) ↔ am_K d 188 Q (am_S 188 (.invokestatic 217) 11 L st g) := am_E_x (by decide +kernel : am_dc 188 11 = some (.invokestatic 217))
theorem x_188_14  : am_E d 188 Q (14, L, st, g) ↔ am_K d 188 Q (am_S 188 (.invokevirtual 179) 14 L st g) := am_E_x (by decide +kernel : am_dc 188 14 = some (.invokevirtual 179))
theorem x_188_17   : am_E d 188 Q (17, L, .int x :: st, g) ↔ am_E d 188 Q (am_cmp .ne x 0 22 20, L, st, g) := am_E_if (by decide +kernel : am_dc 188 17 = some (.ifCond .ne (5))) rfl rfl
theorem x_188_20   : am_E d 188 Q (20, L, st, g) ↔ am_K d 188 Q (am_ldI 21 L st g 2) := am_E_iload_n (by decide +kernel : am_dc 188 20 = some (.iload_n 2)) rfl rfl
theorem x_188_21  : am_E d 188 Q (21, L, [.int x], g) ↔ if am_ok (FieldType.int) (.int x) = true then Q (.inl (some (.int x))) g else False := am_E_ireturn (by decide +kernel : am_dc 188 21 = some (.ireturn)) (by decide +kernel)
theorem x_188_22   (hk : L.getD 2 none = some (.int x)) (hl : 2 < L.length) : am_E d 188 Q (22, L, st, g) ↔ am_E d 188 Q (25, am_s1 L 2 (.int (x + (1))), st, g) := am_E_iinc (by decide +kernel : am_dc 188 22 = some (.iinc 2 (1))) (by decide) rfl hk hl
theorem x_188_25   : am_E d 188 Q (25, L, st, g) ↔ am_E d 188 Q (2, L, st, g) := am_E_gt (by decide +kernel : am_dc 188 25 = some (.goto (-23))) rfl rfl
theorem x_188_28   : am_E d 188 Q (28, L, st, g) ↔ am_E d 188 Q (29, L, .int (-1) :: st, g) := am_E_iconst (by decide +kernel : am_dc 188 28 = some (.iconst (-1))) (by decide) rfl
theorem x_188_29  : am_E d 188 Q (29, L, [.int x], g) ↔ if am_ok (FieldType.int) (.int x) = true then Q (.inl (some (.int x))) g else False := am_E_ireturn (by decide +kernel : am_dc 188 29 = some (.ireturn)) (by decide +kernel)
theorem v_188_217 : am_iv 188 217 = some (0, 213, 2) := by decide +kernel
theorem v_188_179 : am_iv 188 179 = some (1, 194, 3) := by decide +kernel
theorem t_188 : am_t 188 = some (FieldType.int) := by decide +kernel
theorem h_188 : am_h 188 = [] := by decide +kernel
theorem m_188 : am_m 188 = 3 := by decide +kernel
theorem x_189_0   : am_E d 189 Q (0, L, st, g) ↔ am_K d 189 Q (am_ldI 1 L st g 2) := am_E_iload_n (by decide +kernel : am_dc 189 0 = some (.iload_n 2)) rfl rfl
theorem x_189_1   : am_E d 189 Q (1, L, st, g) ↔ am_K d 189 Q (am_stI 2 L st g 3) := am_E_istore_n (by decide +kernel : am_dc 189 1 = some (.istore_n 3)) rfl rfl
theorem x_189_2   : am_E d 189 Q (2, L, st, g) ↔ am_K d 189 Q (am_ldI 3 L st g 3) := am_E_iload_n (by decide +kernel : am_dc 189 2 = some (.iload_n 3)) rfl rfl
theorem x_189_3   : am_E d 189 Q (3, L, .int x :: st, g) ↔ am_E d 189 Q (am_cmp .lt x 0 27 6, L, st, g) := am_E_if (by decide +kernel : am_dc 189 3 = some (.ifCond .lt (24))) rfl rfl
theorem x_189_6   : am_E d 189 Q (6, L, st, g) ↔ am_K d 189 Q (am_ldA 7 L st g 0) := am_E_aload_n (by decide +kernel : am_dc 189 6 = some (.aload_n 0)) rfl rfl
theorem x_189_7   : am_E d 189 Q (7, L, .ref a :: st, g) ↔ am_kv d 189 Q 10 L st g (am_gf g a 11 9) := am_E_getfield (by decide +kernel : am_dc 189 7 = some (.getfield 36)) (by decide +kernel) rfl
theorem x_189_10   : am_E d 189 Q (10, L, st, g) ↔ am_E d 189 Q (13, L, .int (216) :: st, g) := am_E_sipush (by decide +kernel : am_dc 189 10 = some (.sipush (216))) (by decide) rfl
theorem x_189_13   : am_E d 189 Q (13, L, st, g) ↔ am_K d 189 Q (am_ldI 14 L st g 3) := am_E_iload_n (by decide +kernel : am_dc 189 13 = some (.iload_n 3)) rfl rfl
theorem x_189_14   : am_E d 189 Q (14, L, .int y :: .int x :: st, g) ↔ am_E d 189 Q (15, L, .int (x * y) :: st, g) := am_E_imul (by decide +kernel : am_dc 189 14 = some (.imul)) rfl
theorem x_189_15   : am_E d 189 Q (15, L, st, g) ↔ am_K d 189 Q (am_ldI 16 L st g 1) := am_E_iload_n (by decide +kernel : am_dc 189 15 = some (.iload_n 1)) rfl rfl
theorem x_189_16   : am_E d 189 Q (16, L, .int y :: .int x :: st, g) ↔ am_E d 189 Q (17, L, .int (x + y) :: st, g) := am_E_iadd (by decide +kernel : am_dc 189 16 = some (.iadd)) rfl
theorem x_189_17   : am_E d 189 Q (17, L, .int x :: .ref a :: st, g) ↔ am_kv d 189 Q 18 L st g (am_iat .baload g a x) := am_E_baload (by decide +kernel : am_dc 189 17 = some (.baload)) rfl
theorem x_189_18   : am_E d 189 Q (18, L, .int x :: st, g) ↔ am_E d 189 Q (am_cmp .ne x 0 27 21, L, st, g) := am_E_if (by decide +kernel : am_dc 189 18 = some (.ifCond .ne (9))) rfl rfl
theorem x_189_21   (hk : L.getD 3 none = some (.int x)) (hl : 3 < L.length) : am_E d 189 Q (21, L, st, g) ↔ am_E d 189 Q (24, am_s1 L 3 (.int (x + (-1))), st, g) := am_E_iinc (by decide +kernel : am_dc 189 21 = some (.iinc 3 (-1))) (by decide) rfl hk hl
theorem x_189_24   : am_E d 189 Q (24, L, st, g) ↔ am_E d 189 Q (2, L, st, g) := am_E_gt (by decide +kernel : am_dc 189 24 = some (.goto (-22))) rfl rfl
theorem x_189_27   : am_E d 189 Q (27, L, st, g) ↔ am_K d 189 Q (am_ldI 28 L st g 3) := am_E_iload_n (by decide +kernel : am_dc 189 27 = some (.iload_n 3)) rfl rfl
theorem x_189_28  : am_E d 189 Q (28, L, [.int x], g) ↔ if am_ok (FieldType.int) (.int x) = true then Q (.inl (some (.int x))) g else False := am_E_ireturn (by decide +kernel : am_dc 189 28 = some (.ireturn)) (by decide +kernel)
theorem f_189_36 : am_fl 189 36 = some (11, 9) := by decide +kernel
theorem t_189 : am_t 189 = some (FieldType.int) := by decide +kernel
theorem h_189 : am_h 189 = [] := by decide +kernel
theorem m_189 : am_m 189 = 4 := by decide +kernel
end AMZ
