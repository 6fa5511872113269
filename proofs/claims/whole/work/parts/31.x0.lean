/-! Rules of the machine, an instruction each. Written by program (wip/gen/genx.py). -/
section AMZ
variable {d : Nat} {Q : am_Ou → am_G → Prop} {L : am_Lo} {st : List Value} {g : am_G} {x y : Int32} {u w : Int64} {e1 : UInt32} {a : Nat} {v v1 : Value}
theorem x_0_0  : am_E d 0 Q (0, L, st, g) ↔ am_K d 0 Q (am_S 0 (.new 8) 0 L st g) := am_E_x (by decide +kernel : am_dc 0 0 = some (.new 8))
theorem x_0_3   : am_E d 0 Q (3, L, v :: st, g) ↔ if v.category = 1 then am_E d 0 Q (4, L, v :: v :: st, g) else False := am_E_dup (by decide +kernel : am_dc 0 3 = some (.dup)) rfl
theorem x_0_4  : am_E d 0 Q (4, L, st, g) ↔ am_K d 0 Q (am_S 0 (.invokespecial 90) 4 L st g) := am_E_x (by decide +kernel : am_dc 0 4 = some (.invokespecial 90))
theorem x_0_7   : am_E d 0 Q (7, L, st, g) ↔ am_K d 0 Q (am_stA 8 L st g 1) := am_E_astore_n (by decide +kernel : am_dc 0 7 = some (.astore_n 1)) rfl rfl
theorem x_0_8  : am_E d 0 Q (8, L, st, g) ↔ am_K d 0 Q (am_S 0 (.new 91) 8 L st g) := am_E_x (by decide +kernel : am_dc 0 8 = some (.new 91))
theorem x_0_11   : am_E d 0 Q (11, L, v :: st, g) ↔ if v.category = 1 then am_E d 0 Q (12, L, v :: v :: st, g) else False := am_E_dup (by decide +kernel : am_dc 0 11 = some (.dup)) rfl
theorem x_0_12  : am_E d 0 Q (12, L, st, g) ↔ am_K d 0 Q (am_S 0 (.invokespecial 93) 12 L st g) := am_E_x (by decide +kernel : am_dc 0 12 = some (.invokespecial 93))
theorem x_0_15   : am_E d 0 Q (15, L, st, g) ↔ am_K d 0 Q (am_stA 16 L st g 2) := am_E_astore_n (by decide +kernel : am_dc 0 15 = some (.astore_n 2)) rfl rfl
theorem x_0_16   : am_E d 0 Q (16, L, st, g) ↔ am_E d 0 Q (17, L, .int (1) :: st, g) := am_E_iconst (by decide +kernel : am_dc 0 16 = some (.iconst (1))) (by decide) rfl
theorem x_0_17  : am_E d 0 Q (17, L, st, g) ↔ am_K d 0 Q (am_S 0 (.newarray .long) 17 L st g) := am_E_x (by decide +kernel : am_dc 0 17 = some (.newarray .long))
theorem x_0_19   : am_E d 0 Q (19, L, st, g) ↔ am_K d 0 Q (am_stA 20 L st g 3) := am_E_astore_n (by decide +kernel : am_dc 0 19 = some (.astore_n 3)) rfl rfl
theorem x_0_20   : am_E d 0 Q (20, L, st, g) ↔ am_E d 0 Q (21, L, .int (1) :: st, g) := am_E_iconst (by decide +kernel : am_dc 0 20 = some (.iconst (1))) (by decide) rfl
theorem x_0_21  : am_E d 0 Q (21, L, st, g) ↔ am_K d 0 Q (am_S 0 (.newarray .double) 21 L st g) := am_E_x (by decide +kernel : am_dc 0 21 = some (.newarray .double))
theorem x_0_23   : am_E d 0 Q (23, L, st, g) ↔ am_K d 0 Q (am_stA 25 L st g 4) := am_E_astore (by decide +kernel : am_dc 0 23 = some (.astore 4)) rfl
theorem x_0_25   : am_E d 0 Q (25, L, st, g) ↔ am_E d 0 Q (26, L, .int (0) :: st, g) := am_E_iconst (by decide +kernel : am_dc 0 25 = some (.iconst (0))) (by decide) rfl
theorem x_0_26   : am_E d 0 Q (26, L, st, g) ↔ am_K d 0 Q (am_stI 28 L st g 5) := am_E_istore (by decide +kernel : am_dc 0 26 = some (.istore 5)) rfl
theorem x_0_28   : am_E d 0 Q (28, L, st, g) ↔ am_K d 0 Q (am_ldI 30 L st g 5) := am_E_iload (by decide +kernel : am_dc 0 28 = some (.iload 5)) rfl
theorem x_0_30   : am_E d 0 Q (30, L, st, g) ↔ am_K d 0 Q (am_ldA 31 L st g 0) := am_E_aload_n (by decide +kernel : am_dc 0 30 = some (.aload_n 0)) rfl rfl
theorem x_0_31   : am_E d 0 Q (31, L, .ref a :: st, g) ↔ am_kv d 0 Q 32 L st g ((am_sz g a).map fun n => .int (Int32.ofNat n)) := am_E_alen (by decide +kernel : am_dc 0 31 = some (.arraylength)) rfl
theorem x_0_32   : am_E d 0 Q (32, L, st, g) ↔ am_E d 0 Q (33, L, .int (4) :: st, g) := am_E_iconst (by decide +kernel : am_dc 0 32 = some (.iconst (4))) (by decide) rfl
theorem x_0_33   : am_E d 0 Q (33, L, .int y :: .int x :: st, g) ↔ am_E d 0 Q (34, L, .int (x - y) :: st, g) := am_E_isub (by decide +kernel : am_dc 0 33 = some (.isub)) rfl
theorem x_0_34   : am_E d 0 Q (34, L, .int y :: .int x :: st, g) ↔ am_E d 0 Q (am_cmp .gt x y 1535 37, L, st, g) := am_E_ic (by decide +kernel : am_dc 0 34 = some (.if_icmp .gt (1501))) rfl rfl
theorem x_0_37   : am_E d 0 Q (37, L, st, g) ↔ am_K d 0 Q (am_ldA 38 L st g 0) := am_E_aload_n (by decide +kernel : am_dc 0 37 = some (.aload_n 0)) rfl rfl
theorem x_0_38   : am_E d 0 Q (38, L, st, g) ↔ am_K d 0 Q (am_ldI 40 L st g 5) := am_E_iload (by decide +kernel : am_dc 0 38 = some (.iload 5)) rfl
theorem x_0_40   : am_E d 0 Q (40, L, .int x :: .ref a :: st, g) ↔ am_kv d 0 Q 41 L st g (am_iat .iaload g a x) := am_E_iaload (by decide +kernel : am_dc 0 40 = some (.iaload)) rfl
theorem x_0_41   : am_E d 0 Q (41, L, st, g) ↔ am_E d 0 Q (43, L, .int (31) :: st, g) := am_E_bipush (by decide +kernel : am_dc 0 41 = some (.bipush (31))) (by decide) rfl
theorem x_0_43   : am_E d 0 Q (43, L, .int y :: .int x :: st, g) ↔ am_E d 0 Q (44, L, .int (x &&& y) :: st, g) := am_E_iand (by decide +kernel : am_dc 0 43 = some (.iand)) rfl
theorem x_0_44  : am_E d 0 Q (44, L, st, g) ↔ am_K d 0 Q (am_S 0 (.tableswitch (1485) (0) (23) #[(112), (192), (272), (340), (408), (468), (495), (539), (595), (643), (706), (762), (818), (886), (899), (955), (999), (1043), (1115), (1183), (1227), (1271), (1327), (1407)]) 44 L st g) := am_E_x (by decide +kernel : am_dc 0 44 = some (.tableswitch (1485) (0) (23) #[(112), (192), (272), (340), (408), (468), (495), (539), (595), (643), (706), (762), (818), (886), (899), (955), (999), (1043), (1115), (1183), (1227), (1271), (1327), (1407)]))
theorem x_0_156   : am_E d 0 Q (156, L, st, g) ↔ am_K d 0 Q (am_ldA 157 L st g 1) := am_E_aload_n (by decide +kernel : am_dc 0 156 = some (.aload_n 1)) rfl rfl
theorem x_0_157   : am_E d 0 Q (157, L, st, g) ↔ am_K d 0 Q (am_ldA 158 L st g 0) := am_E_aload_n (by decide +kernel : am_dc 0 157 = some (.aload_n 0)) rfl rfl
theorem x_0_158   : am_E d 0 Q (158, L, st, g) ↔ am_K d 0 Q (am_ldI 160 L st g 5) := am_E_iload (by decide +kernel : am_dc 0 158 = some (.iload 5)) rfl
theorem x_0_160   : am_E d 0 Q (160, L, st, g) ↔ am_E d 0 Q (161, L, .int (1) :: st, g) := am_E_iconst (by decide +kernel : am_dc 0 160 = some (.iconst (1))) (by decide) rfl
theorem x_0_161   : am_E d 0 Q (161, L, .int y :: .int x :: st, g) ↔ am_E d 0 Q (162, L, .int (x + y) :: st, g) := am_E_iadd (by decide +kernel : am_dc 0 161 = some (.iadd)) rfl
theorem x_0_162   : am_E d 0 Q (162, L, .int x :: .ref a :: st, g) ↔ am_kv d 0 Q 163 L st g (am_iat .iaload g a x) := am_E_iaload (by decide +kernel : am_dc 0 162 = some (.iaload)) rfl
theorem x_0_163   : am_E d 0 Q (163, L, st, g) ↔ am_K d 0 Q (am_ldA 164 L st g 0) := am_E_aload_n (by decide +kernel : am_dc 0 163 = some (.aload_n 0)) rfl rfl
theorem x_0_164   : am_E d 0 Q (164, L, st, g) ↔ am_K d 0 Q (am_ldI 166 L st g 5) := am_E_iload (by decide +kernel : am_dc 0 164 = some (.iload 5)) rfl
theorem x_0_166   : am_E d 0 Q (166, L, st, g) ↔ am_E d 0 Q (167, L, .int (2) :: st, g) := am_E_iconst (by decide +kernel : am_dc 0 166 = some (.iconst (2))) (by decide) rfl
theorem x_0_167   : am_E d 0 Q (167, L, .int y :: .int x :: st, g) ↔ am_E d 0 Q (168, L, .int (x + y) :: st, g) := am_E_iadd (by decide +kernel : am_dc 0 167 = some (.iadd)) rfl
theorem x_0_168   : am_E d 0 Q (168, L, .int x :: .ref a :: st, g) ↔ am_kv d 0 Q 169 L st g (am_iat .iaload g a x) := am_E_iaload (by decide +kernel : am_dc 0 168 = some (.iaload)) rfl
theorem x_0_169   : am_E d 0 Q (169, L, st, g) ↔ am_K d 0 Q (am_ldA 170 L st g 0) := am_E_aload_n (by decide +kernel : am_dc 0 169 = some (.aload_n 0)) rfl rfl
theorem x_0_170   : am_E d 0 Q (170, L, st, g) ↔ am_K d 0 Q (am_ldI 172 L st g 5) := am_E_iload (by decide +kernel : am_dc 0 170 = some (.iload 5)) rfl
theorem x_0_172   : am_E d 0 Q (172, L, st, g) ↔ am_E d 0 Q (173, L, .int (3) :: st, g) := am_E_iconst (by decide +kernel : am_dc 0 172 = some (.iconst (3))) (by decide) rfl
theorem x_0_173   : am_E d 0 Q (173, L, .int y :: .int x :: st, g) ↔ am_E d 0 Q (174, L, .int (x + y) :: st, g) := am_E_iadd (by decide +kernel : am_dc 0 173 = some (.iadd)) rfl
theorem x_0_174   : am_E d 0 Q (174, L, .int x :: .ref a :: st, g) ↔ am_kv d 0 Q 175 L st g (am_iat .iaload g a x) := am_E_iaload (by decide +kernel : am_dc 0 174 = some (.iaload)) rfl
theorem x_0_175   : am_E d 0 Q (175, L, st, g) ↔ am_K d 0 Q (am_ldA 176 L st g 3) := am_E_aload_n (by decide +kernel : am_dc 0 175 = some (.aload_n 3)) rfl rfl
theorem x_0_176  : am_E d 0 Q (176, L, st, g) ↔ am_K d 0 Q (am_S 0 (.invokestatic 94) 176 L st g) := am_E_x (by decide +kernel : am_dc 0 176 = some (.invokestatic 94))
theorem x_0_179   : am_E d 0 Q (179, L, st, g) ↔ am_K d 0 Q (am_stI 181 L st g 6) := am_E_istore (by decide +kernel : am_dc 0 179 = some (.istore 6)) rfl
theorem x_0_181   : am_E d 0 Q (181, L, st, g) ↔ am_K d 0 Q (am_ldA 182 L st g 2) := am_E_aload_n (by decide +kernel : am_dc 0 181 = some (.aload_n 2)) rfl rfl
theorem x_0_182   : am_E d 0 Q (182, L, st, g) ↔ am_K d 0 Q (am_ldA 183 L st g 0) := am_E_aload_n (by decide +kernel : am_dc 0 182 = some (.aload_n 0)) rfl rfl
theorem x_0_183   : am_E d 0 Q (183, L, st, g) ↔ am_K d 0 Q (am_ldI 185 L st g 5) := am_E_iload (by decide +kernel : am_dc 0 183 = some (.iload 5)) rfl
theorem x_0_185   : am_E d 0 Q (185, L, st, g) ↔ am_E d 0 Q (186, L, .int (1) :: st, g) := am_E_iconst (by decide +kernel : am_dc 0 185 = some (.iconst (1))) (by decide) rfl
theorem x_0_186   : am_E d 0 Q (186, L, .int y :: .int x :: st, g) ↔ am_E d 0 Q (187, L, .int (x + y) :: st, g) := am_E_iadd (by decide +kernel : am_dc 0 186 = some (.iadd)) rfl
theorem x_0_187   : am_E d 0 Q (187, L, .int x :: .ref a :: st, g) ↔ am_kv d 0 Q 188 L st g (am_iat .iaload g a x) := am_E_iaload (by decide +kernel : am_dc 0 187 = some (.iaload)) rfl
theorem x_0_188   : am_E d 0 Q (188, L, st, g) ↔ am_K d 0 Q (am_ldA 189 L st g 0) := am_E_aload_n (by decide +kernel : am_dc 0 188 = some (.aload_n 0)) rfl rfl
theorem x_0_189   : am_E d 0 Q (189, L, st, g) ↔ am_K d 0 Q (am_ldI 191 L st g 5) := am_E_iload (by decide +kernel : am_dc 0 189 = some (.iload 5)) rfl
theorem x_0_191   : am_E d 0 Q (191, L, st, g) ↔ am_E d 0 Q (192, L, .int (2) :: st, g) := am_E_iconst (by decide +kernel : am_dc 0 191 = some (.iconst (2))) (by decide) rfl
theorem x_0_192   : am_E d 0 Q (192, L, .int y :: .int x :: st, g) ↔ am_E d 0 Q (193, L, .int (x + y) :: st, g) := am_E_iadd (by decide +kernel : am_dc 0 192 = some (.iadd)) rfl
theorem x_0_193   : am_E d 0 Q (193, L, .int x :: .ref a :: st, g) ↔ am_kv d 0 Q 194 L st g (am_iat .iaload g a x) := am_E_iaload (by decide +kernel : am_dc 0 193 = some (.iaload)) rfl
theorem x_0_194   : am_E d 0 Q (194, L, st, g) ↔ am_K d 0 Q (am_ldA 195 L st g 0) := am_E_aload_n (by decide +kernel : am_dc 0 194 = some (.aload_n 0)) rfl rfl
theorem x_0_195   : am_E d 0 Q (195, L, st, g) ↔ am_K d 0 Q (am_ldI 197 L st g 5) := am_E_iload (by decide +kernel : am_dc 0 195 = some (.iload 5)) rfl
theorem x_0_197   : am_E d 0 Q (197, L, st, g) ↔ am_E d 0 Q (198, L, .int (3) :: st, g) := am_E_iconst (by decide +kernel : am_dc 0 197 = some (.iconst (3))) (by decide) rfl
theorem x_0_198   : am_E d 0 Q (198, L, .int y :: .int x :: st, g) ↔ am_E d 0 Q (199, L, .int (x + y) :: st, g) := am_E_iadd (by decide +kernel : am_dc 0 198 = some (.iadd)) rfl
theorem x_0_199   : am_E d 0 Q (199, L, .int x :: .ref a :: st, g) ↔ am_kv d 0 Q 200 L st g (am_iat .iaload g a x) := am_E_iaload (by decide +kernel : am_dc 0 199 = some (.iaload)) rfl
theorem x_0_200  : am_E d 0 Q (200, L, st, g) ↔ am_K d 0 Q (am_S 0 (.invokevirtual 99) 200 L st g) := am_E_x (by decide +kernel : am_dc 0 200 = some (.invokevirtual 99))
theorem x_0_203   : am_E d 0 Q (203, L, st, g) ↔ am_K d 0 Q (am_stI 205 L st g 7) := am_E_istore (by decide +kernel : am_dc 0 203 = some (.istore 7)) rfl
theorem x_0_205   : am_E d 0 Q (205, L, st, g) ↔ am_K d 0 Q (am_ldA 206 L st g 2) := am_E_aload_n (by decide +kernel : am_dc 0 205 = some (.aload_n 2)) rfl rfl
theorem x_0_206  : am_E d 0 Q (206, L, st, g) ↔ am_K d 0 Q (am_S 0 (.invokevirtual 100) 206 L st g) := am_E_x (by decide +kernel : am_dc 0 206 = some (.invokevirtual 100))
theorem x_0_209   : am_E d 0 Q (209, L, st, g) ↔ am_K d 0 Q (am_ldI 211 L st g 6) := am_E_iload (by decide +kernel : am_dc 0 209 = some (.iload 6)) rfl
theorem x_0_211   : am_E d 0 Q (211, L, .int y :: .int x :: st, g) ↔ am_E d 0 Q (am_cmp .eq x y 216 214, L, st, g) := am_E_ic (by decide +kernel : am_dc 0 211 = some (.if_icmp .eq (5))) rfl rfl
theorem x_0_214   : am_E d 0 Q (214, L, st, g) ↔ am_E d 0 Q (215, L, .int (0) :: st, g) := am_E_iconst (by decide +kernel : am_dc 0 214 = some (.iconst (0))) (by decide) rfl
theorem x_0_215  : am_E d 0 Q (215, L, [.int x], g) ↔ if am_ok (FieldType.boolean) (.int x) = true then Q (.inl (some (.int x))) g else False := am_E_ireturn (by decide +kernel : am_dc 0 215 = some (.ireturn)) (by decide +kernel)
theorem x_0_216   : am_E d 0 Q (216, L, st, g) ↔ am_K d 0 Q (am_ldI 218 L st g 6) := am_E_iload (by decide +kernel : am_dc 0 216 = some (.iload 6)) rfl
theorem x_0_218   : am_E d 0 Q (218, L, .int x :: st, g) ↔ am_E d 0 Q (am_cmp .ne x 0 233 221, L, st, g) := am_E_if (by decide +kernel : am_dc 0 218 = some (.ifCond .ne (15))) rfl rfl
theorem x_0_221   : am_E d 0 Q (221, L, st, g) ↔ am_K d 0 Q (am_ldA 222 L st g 3) := am_E_aload_n (by decide +kernel : am_dc 0 221 = some (.aload_n 3)) rfl rfl
theorem x_0_222   : am_E d 0 Q (222, L, st, g) ↔ am_E d 0 Q (223, L, .int (0) :: st, g) := am_E_iconst (by decide +kernel : am_dc 0 222 = some (.iconst (0))) (by decide) rfl
theorem x_0_223   : am_E d 0 Q (223, L, .int x :: .ref a :: st, g) ↔ am_kv d 0 Q 224 L st g (am_iat .laload g a x) := am_E_laload (by decide +kernel : am_dc 0 223 = some (.laload)) rfl
theorem x_0_224   : am_E d 0 Q (224, L, st, g) ↔ am_K d 0 Q (am_ldI 226 L st g 7) := am_E_iload (by decide +kernel : am_dc 0 224 = some (.iload 7)) rfl
theorem x_0_226   : am_E d 0 Q (226, L, .int x :: st, g) ↔ am_E d 0 Q (227, L, .long x.toInt64 :: st, g) := am_E_i2l (by decide +kernel : am_dc 0 226 = some (.i2l)) rfl
theorem x_0_227   : am_E d 0 Q (227, L, .long w :: .long u :: st, g) ↔ am_E d 0 Q (228, L, .int (lg_cmp u w) :: st, g) := am_E_lcmp (by decide +kernel : am_dc 0 227 = some (.lcmp)) rfl
theorem x_0_228   : am_E d 0 Q (228, L, .int x :: st, g) ↔ am_E d 0 Q (am_cmp .eq x 0 233 231, L, st, g) := am_E_if (by decide +kernel : am_dc 0 228 = some (.ifCond .eq (5))) rfl rfl
theorem x_0_231   : am_E d 0 Q (231, L, st, g) ↔ am_E d 0 Q (232, L, .int (0) :: st, g) := am_E_iconst (by decide +kernel : am_dc 0 231 = some (.iconst (0))) (by decide) rfl
theorem x_0_232  : am_E d 0 Q (232, L, [.int x], g) ↔ if am_ok (FieldType.boolean) (.int x) = true then Q (.inl (some (.int x))) g else False := am_E_ireturn (by decide +kernel : am_dc 0 232 = some (.ireturn)) (by decide +kernel)
theorem x_0_233   : am_E d 0 Q (233, L, st, g) ↔ am_E d 0 Q (1529, L, st, g) := am_E_gt (by decide +kernel : am_dc 0 233 = some (.goto (1296))) rfl rfl
theorem x_0_236   : am_E d 0 Q (236, L, st, g) ↔ am_K d 0 Q (am_ldA 237 L st g 1) := am_E_aload_n (by decide +kernel : am_dc 0 236 = some (.aload_n 1)) rfl rfl
theorem x_0_237   : am_E d 0 Q (237, L, st, g) ↔ am_K d 0 Q (am_ldA 238 L st g 0) := am_E_aload_n (by decide +kernel : am_dc 0 237 = some (.aload_n 0)) rfl rfl
theorem x_0_238   : am_E d 0 Q (238, L, st, g) ↔ am_K d 0 Q (am_ldI 240 L st g 5) := am_E_iload (by decide +kernel : am_dc 0 238 = some (.iload 5)) rfl
theorem x_0_240   : am_E d 0 Q (240, L, st, g) ↔ am_E d 0 Q (241, L, .int (1) :: st, g) := am_E_iconst (by decide +kernel : am_dc 0 240 = some (.iconst (1))) (by decide) rfl
theorem x_0_241   : am_E d 0 Q (241, L, .int y :: .int x :: st, g) ↔ am_E d 0 Q (242, L, .int (x + y) :: st, g) := am_E_iadd (by decide +kernel : am_dc 0 241 = some (.iadd)) rfl
theorem x_0_242   : am_E d 0 Q (242, L, .int x :: .ref a :: st, g) ↔ am_kv d 0 Q 243 L st g (am_iat .iaload g a x) := am_E_iaload (by decide +kernel : am_dc 0 242 = some (.iaload)) rfl
theorem x_0_243   : am_E d 0 Q (243, L, st, g) ↔ am_K d 0 Q (am_ldA 244 L st g 0) := am_E_aload_n (by decide +kernel : am_dc 0 243 = some (.aload_n 0)) rfl rfl
theorem x_0_244   : am_E d 0 Q (244, L, st, g) ↔ am_K d 0 Q (am_ldI 246 L st g 5) := am_E_iload (by decide +kernel : am_dc 0 244 = some (.iload 5)) rfl
theorem x_0_246   : am_E d 0 Q (246, L, st, g) ↔ am_E d 0 Q (247, L, .int (2) :: st, g) := am_E_iconst (by decide +kernel : am_dc 0 246 = some (.iconst (2))) (by decide) rfl
theorem x_0_247   : am_E d 0 Q (247, L, .int y :: .int x :: st, g) ↔ am_E d 0 Q (248, L, .int (x + y) :: st, g) := am_E_iadd (by decide +kernel : am_dc 0 247 = some (.iadd)) rfl
theorem x_0_248   : am_E d 0 Q (248, L, .int x :: .ref a :: st, g) ↔ am_kv d 0 Q 249 L st g (am_iat .iaload g a x) := am_E_iaload (by decide +kernel : am_dc 0 248 = some (.iaload)) rfl
theorem x_0_249   : am_E d 0 Q (249, L, st, g) ↔ am_K d 0 Q (am_ldA 250 L st g 0) := am_E_aload_n (by decide +kernel : am_dc 0 249 = some (.aload_n 0)) rfl rfl
theorem x_0_250   : am_E d 0 Q (250, L, st, g) ↔ am_K d 0 Q (am_ldI 252 L st g 5) := am_E_iload (by decide +kernel : am_dc 0 250 = some (.iload 5)) rfl
theorem x_0_252   : am_E d 0 Q (252, L, st, g) ↔ am_E d 0 Q (253, L, .int (3) :: st, g) := am_E_iconst (by decide +kernel : am_dc 0 252 = some (.iconst (3))) (by decide) rfl
theorem x_0_253   : am_E d 0 Q (253, L, .int y :: .int x :: st, g) ↔ am_E d 0 Q (254, L, .int (x + y) :: st, g) := am_E_iadd (by decide +kernel : am_dc 0 253 = some (.iadd)) rfl
theorem x_0_254   : am_E d 0 Q (254, L, .int x :: .ref a :: st, g) ↔ am_kv d 0 Q 255 L st g (am_iat .iaload g a x) := am_E_iaload (by decide +kernel : am_dc 0 254 = some (.iaload)) rfl
theorem x_0_255   : am_E d 0 Q (255, L, st, g) ↔ am_K d 0 Q (am_ldA 256 L st g 3) := am_E_aload_n (by decide +kernel : am_dc 0 255 = some (.aload_n 3)) rfl rfl
theorem x_0_256  : am_E d 0 Q (256, L, st, g) ↔ am_K d 0 Q (am_S 0 (.invokestatic 103) 256 L st g) := am_E_x (by decide +kernel : am_dc 0 256 = some (.invokestatic 103))
theorem x_0_259   : am_E d 0 Q (259, L, st, g) ↔ am_K d 0 Q (am_stI 261 L st g 6) := am_E_istore (by decide +kernel : am_dc 0 259 = some (.istore 6)) rfl
theorem x_0_261   : am_E d 0 Q (261, L, st, g) ↔ am_K d 0 Q (am_ldA 262 L st g 2) := am_E_aload_n (by decide +kernel : am_dc 0 261 = some (.aload_n 2)) rfl rfl
theorem x_0_262   : am_E d 0 Q (262, L, st, g) ↔ am_K d 0 Q (am_ldA 263 L st g 0) := am_E_aload_n (by decide +kernel : am_dc 0 262 = some (.aload_n 0)) rfl rfl
theorem x_0_263   : am_E d 0 Q (263, L, st, g) ↔ am_K d 0 Q (am_ldI 265 L st g 5) := am_E_iload (by decide +kernel : am_dc 0 263 = some (.iload 5)) rfl
theorem x_0_265   : am_E d 0 Q (265, L, st, g) ↔ am_E d 0 Q (266, L, .int (1) :: st, g) := am_E_iconst (by decide +kernel : am_dc 0 265 = some (.iconst (1))) (by decide) rfl
theorem x_0_266   : am_E d 0 Q (266, L, .int y :: .int x :: st, g) ↔ am_E d 0 Q (267, L, .int (x + y) :: st, g) := am_E_iadd (by decide +kernel : am_dc 0 266 = some (.iadd)) rfl
theorem x_0_267   : am_E d 0 Q (267, L, .int x :: .ref a :: st, g) ↔ am_kv d 0 Q 268 L st g (am_iat .iaload g a x) := am_E_iaload (by decide +kernel : am_dc 0 267 = some (.iaload)) rfl
theorem x_0_268   : am_E d 0 Q (268, L, st, g) ↔ am_K d 0 Q (am_ldA 269 L st g 0) := am_E_aload_n (by decide +kernel : am_dc 0 268 = some (.aload_n 0)) rfl rfl
theorem x_0_269   : am_E d 0 Q (269, L, st, g) ↔ am_K d 0 Q (am_ldI 271 L st g 5) := am_E_iload (by decide +kernel : am_dc 0 269 = some (.iload 5)) rfl
theorem x_0_271   : am_E d 0 Q (271, L, st, g) ↔ am_E d 0 Q (272, L, .int (2) :: st, g) := am_E_iconst (by decide +kernel : am_dc 0 271 = some (.iconst (2))) (by decide) rfl
theorem x_0_272   : am_E d 0 Q (272, L, .int y :: .int x :: st, g) ↔ am_E d 0 Q (273, L, .int (x + y) :: st, g) := am_E_iadd (by decide +kernel : am_dc 0 272 = some (.iadd)) rfl
theorem x_0_273   : am_E d 0 Q (273, L, .int x :: .ref a :: st, g) ↔ am_kv d 0 Q 274 L st g (am_iat .iaload g a x) := am_E_iaload (by decide +kernel : am_dc 0 273 = some (.iaload)) rfl
theorem x_0_274   : am_E d 0 Q (274, L, st, g) ↔ am_K d 0 Q (am_ldA 275 L st g 0) := am_E_aload_n (by decide +kernel : am_dc 0 274 = some (.aload_n 0)) rfl rfl
theorem x_0_275   : am_E d 0 Q (275, L, st, g) ↔ am_K d 0 Q (am_ldI 277 L st g 5) := am_E_iload (by decide +kernel : am_dc 0 275 = some (.iload 5)) rfl
theorem x_0_277   : am_E d 0 Q (277, L, st, g) ↔ am_E d 0 Q (278, L, .int (3) :: st, g) := am_E_iconst (by decide +kernel : am_dc 0 277 = some (.iconst (3))) (by decide) rfl
theorem x_0_278   : am_E d 0 Q (278, L, .int y :: .int x :: st, g) ↔ am_E d 0 Q (279, L, .int (x + y) :: st, g) := am_E_iadd (by decide +kernel : am_dc 0 278 = some (.iadd)) rfl
theorem x_0_279   : am_E d 0 Q (279, L, .int x :: .ref a :: st, g) ↔ am_kv d 0 Q 280 L st g (am_iat .iaload g a x) := am_E_iaload (by decide +kernel : am_dc 0 279 = some (.iaload)) rfl
theorem x_0_280  : am_E d 0 Q (280, L, st, g) ↔ am_K d 0 Q (am_S 0 (.invokevirtual 105) 280 L st g) := am_E_x (by decide +kernel : am_dc 0 280 = some (.invokevirtual 105))
theorem x_0_283   : am_E d 0 Q (283, L, st, g) ↔ am_K d 0 Q (am_stI 285 L st g 7) := am_E_istore (by decide +kernel : am_dc 0 283 = some (.istore 7)) rfl
theorem x_0_285   : am_E d 0 Q (285, L, st, g) ↔ am_K d 0 Q (am_ldA 286 L st g 2) := am_E_aload_n (by decide +kernel : am_dc 0 285 = some (.aload_n 2)) rfl rfl
theorem x_0_286  : am_E d 0 Q (286, L, st, g) ↔ am_K d 0 Q (am_S 0 (.invokevirtual 100) 286 L st g) := am_E_x (by decide +kernel : am_dc 0 286 = some (.invokevirtual 100))
theorem x_0_289   : am_E d 0 Q (289, L, st, g) ↔ am_K d 0 Q (am_ldI 291 L st g 6) := am_E_iload (by decide +kernel : am_dc 0 289 = some (.iload 6)) rfl
theorem x_0_291   : am_E d 0 Q (291, L, .int y :: .int x :: st, g) ↔ am_E d 0 Q (am_cmp .eq x y 296 294, L, st, g) := am_E_ic (by decide +kernel : am_dc 0 291 = some (.if_icmp .eq (5))) rfl rfl
theorem x_0_294   : am_E d 0 Q (294, L, st, g) ↔ am_E d 0 Q (295, L, .int (0) :: st, g) := am_E_iconst (by decide +kernel : am_dc 0 294 = some (.iconst (0))) (by decide) rfl
theorem x_0_295  : am_E d 0 Q (295, L, [.int x], g) ↔ if am_ok (FieldType.boolean) (.int x) = true then Q (.inl (some (.int x))) g else False := am_E_ireturn (by decide +kernel : am_dc 0 295 = some (.ireturn)) (by decide +kernel)
theorem x_0_296   : am_E d 0 Q (296, L, st, g) ↔ am_K d 0 Q (am_ldI 298 L st g 6) := am_E_iload (by decide +kernel : am_dc 0 296 = some (.iload 6)) rfl
theorem x_0_298   : am_E d 0 Q (298, L, .int x :: st, g) ↔ am_E d 0 Q (am_cmp .ne x 0 313 301, L, st, g) := am_E_if (by decide +kernel : am_dc 0 298 = some (.ifCond .ne (15))) rfl rfl
theorem x_0_301   : am_E d 0 Q (301, L, st, g) ↔ am_K d 0 Q (am_ldA 302 L st g 3) := am_E_aload_n (by decide +kernel : am_dc 0 301 = some (.aload_n 3)) rfl rfl
theorem x_0_302   : am_E d 0 Q (302, L, st, g) ↔ am_E d 0 Q (303, L, .int (0) :: st, g) := am_E_iconst (by decide +kernel : am_dc 0 302 = some (.iconst (0))) (by decide) rfl
theorem x_0_303   : am_E d 0 Q (303, L, .int x :: .ref a :: st, g) ↔ am_kv d 0 Q 304 L st g (am_iat .laload g a x) := am_E_laload (by decide +kernel : am_dc 0 303 = some (.laload)) rfl
theorem x_0_304   : am_E d 0 Q (304, L, st, g) ↔ am_K d 0 Q (am_ldI 306 L st g 7) := am_E_iload (by decide +kernel : am_dc 0 304 = some (.iload 7)) rfl
theorem x_0_306   : am_E d 0 Q (306, L, .int x :: st, g) ↔ am_E d 0 Q (307, L, .long x.toInt64 :: st, g) := am_E_i2l (by decide +kernel : am_dc 0 306 = some (.i2l)) rfl
theorem x_0_307   : am_E d 0 Q (307, L, .long w :: .long u :: st, g) ↔ am_E d 0 Q (308, L, .int (lg_cmp u w) :: st, g) := am_E_lcmp (by decide +kernel : am_dc 0 307 = some (.lcmp)) rfl
theorem x_0_308   : am_E d 0 Q (308, L, .int x :: st, g) ↔ am_E d 0 Q (am_cmp .eq x 0 313 311, L, st, g) := am_E_if (by decide +kernel : am_dc 0 308 = some (.ifCond .eq (5))) rfl rfl
theorem x_0_311   : am_E d 0 Q (311, L, st, g) ↔ am_E d 0 Q (312, L, .int (0) :: st, g) := am_E_iconst (by decide +kernel : am_dc 0 311 = some (.iconst (0))) (by decide) rfl
theorem x_0_312  : am_E d 0 Q (312, L, [.int x], g) ↔ if am_ok (FieldType.boolean) (.int x) = true then Q (.inl (some (.int x))) g else False := am_E_ireturn (by decide +kernel : am_dc 0 312 = some (.ireturn)) (by decide +kernel)
theorem x_0_313   : am_E d 0 Q (313, L, st, g) ↔ am_E d 0 Q (1529, L, st, g) := am_E_gt (by decide +kernel : am_dc 0 313 = some (.goto (1216))) rfl rfl
theorem x_0_316   : am_E d 0 Q (316, L, st, g) ↔ am_K d 0 Q (am_ldA 317 L st g 1) := am_E_aload_n (by decide +kernel : am_dc 0 316 = some (.aload_n 1)) rfl rfl
theorem x_0_317   : am_E d 0 Q (317, L, st, g) ↔ am_K d 0 Q (am_ldA 318 L st g 0) := am_E_aload_n (by decide +kernel : am_dc 0 317 = some (.aload_n 0)) rfl rfl
theorem x_0_318   : am_E d 0 Q (318, L, st, g) ↔ am_K d 0 Q (am_ldI 320 L st g 5) := am_E_iload (by decide +kernel : am_dc 0 318 = some (.iload 5)) rfl
theorem x_0_320   : am_E d 0 Q (320, L, st, g) ↔ am_E d 0 Q (321, L, .int (1) :: st, g) := am_E_iconst (by decide +kernel : am_dc 0 320 = some (.iconst (1))) (by decide) rfl
theorem x_0_321   : am_E d 0 Q (321, L, .int y :: .int x :: st, g) ↔ am_E d 0 Q (322, L, .int (x + y) :: st, g) := am_E_iadd (by decide +kernel : am_dc 0 321 = some (.iadd)) rfl
theorem x_0_322   : am_E d 0 Q (322, L, .int x :: .ref a :: st, g) ↔ am_kv d 0 Q 323 L st g (am_iat .iaload g a x) := am_E_iaload (by decide +kernel : am_dc 0 322 = some (.iaload)) rfl
theorem x_0_323   : am_E d 0 Q (323, L, st, g) ↔ am_K d 0 Q (am_ldA 324 L st g 0) := am_E_aload_n (by decide +kernel : am_dc 0 323 = some (.aload_n 0)) rfl rfl
theorem x_0_324   : am_E d 0 Q (324, L, st, g) ↔ am_K d 0 Q (am_ldI 326 L st g 5) := am_E_iload (by decide +kernel : am_dc 0 324 = some (.iload 5)) rfl
theorem x_0_326   : am_E d 0 Q (326, L, st, g) ↔ am_E d 0 Q (327, L, .int (2) :: st, g) := am_E_iconst (by decide +kernel : am_dc 0 326 = some (.iconst (2))) (by decide) rfl
theorem x_0_327   : am_E d 0 Q (327, L, .int y :: .int x :: st, g) ↔ am_E d 0 Q (328, L, .int (x + y) :: st, g) := am_E_iadd (by decide +kernel : am_dc 0 327 = some (.iadd)) rfl
theorem x_0_328   : am_E d 0 Q (328, L, .int x :: .ref a :: st, g) ↔ am_kv d 0 Q 329 L st g (am_iat .iaload g a x) := am_E_iaload (by decide +kernel : am_dc 0 328 = some (.iaload)) rfl
theorem x_0_329   : am_E d 0 Q (329, L, st, g) ↔ am_K d 0 Q (am_ldA 330 L st g 3) := am_E_aload_n (by decide +kernel : am_dc 0 329 = some (.aload_n 3)) rfl rfl
theorem x_0_330  : am_E d 0 Q (330, L, st, g) ↔ am_K d 0 Q (am_S 0 (.invokestatic 106) 330 L st g) := am_E_x (by decide +kernel : am_dc 0 330 = some (.invokestatic 106))
theorem x_0_333   : am_E d 0 Q (333, L, st, g) ↔ am_K d 0 Q (am_stI 335 L st g 6) := am_E_istore (by decide +kernel : am_dc 0 333 = some (.istore 6)) rfl
theorem x_0_335   : am_E d 0 Q (335, L, st, g) ↔ am_K d 0 Q (am_ldA 336 L st g 2) := am_E_aload_n (by decide +kernel : am_dc 0 335 = some (.aload_n 2)) rfl rfl
theorem x_0_336   : am_E d 0 Q (336, L, st, g) ↔ am_K d 0 Q (am_ldA 337 L st g 0) := am_E_aload_n (by decide +kernel : am_dc 0 336 = some (.aload_n 0)) rfl rfl
theorem x_0_337   : am_E d 0 Q (337, L, st, g) ↔ am_K d 0 Q (am_ldI 339 L st g 5) := am_E_iload (by decide +kernel : am_dc 0 337 = some (.iload 5)) rfl
theorem x_0_339   : am_E d 0 Q (339, L, st, g) ↔ am_E d 0 Q (340, L, .int (1) :: st, g) := am_E_iconst (by decide +kernel : am_dc 0 339 = some (.iconst (1))) (by decide) rfl
theorem x_0_340   : am_E d 0 Q (340, L, .int y :: .int x :: st, g) ↔ am_E d 0 Q (341, L, .int (x + y) :: st, g) := am_E_iadd (by decide +kernel : am_dc 0 340 = some (.iadd)) rfl
theorem x_0_341   : am_E d 0 Q (341, L, .int x :: .ref a :: st, g) ↔ am_kv d 0 Q 342 L st g (am_iat .iaload g a x) := am_E_iaload (by decide +kernel : am_dc 0 341 = some (.iaload)) rfl
theorem x_0_342   : am_E d 0 Q (342, L, st, g) ↔ am_K d 0 Q (am_ldA 343 L st g 0) := am_E_aload_n (by decide +kernel : am_dc 0 342 = some (.aload_n 0)) rfl rfl
theorem x_0_343   : am_E d 0 Q (343, L, st, g) ↔ am_K d 0 Q (am_ldI 345 L st g 5) := am_E_iload (by decide +kernel : am_dc 0 343 = some (.iload 5)) rfl
theorem x_0_345   : am_E d 0 Q (345, L, st, g) ↔ am_E d 0 Q (346, L, .int (2) :: st, g) := am_E_iconst (by decide +kernel : am_dc 0 345 = some (.iconst (2))) (by decide) rfl
theorem x_0_346   : am_E d 0 Q (346, L, .int y :: .int x :: st, g) ↔ am_E d 0 Q (347, L, .int (x + y) :: st, g) := am_E_iadd (by decide +kernel : am_dc 0 346 = some (.iadd)) rfl
theorem x_0_347   : am_E d 0 Q (347, L, .int x :: .ref a :: st, g) ↔ am_kv d 0 Q 348 L st g (am_iat .iaload g a x) := am_E_iaload (by decide +kernel : am_dc 0 347 = some (.iaload)) rfl
theorem x_0_348  : am_E d 0 Q (348, L, st, g) ↔ am_K d 0 Q (am_S 0 (.invokevirtual 109) 348 L st g) := am_E_x (by decide +kernel : am_dc 0 348 = some (.invokevirtual 109))
theorem x_0_351   : am_E d 0 Q (351, L, st, g) ↔ am_K d 0 Q (am_stI 353 L st g 7) := am_E_istore (by decide +kernel : am_dc 0 351 = some (.istore 7)) rfl
theorem x_0_353   : am_E d 0 Q (353, L, st, g) ↔ am_K d 0 Q (am_ldA 354 L st g 2) := am_E_aload_n (by decide +kernel : am_dc 0 353 = some (.aload_n 2)) rfl rfl
theorem x_0_354  : am_E d 0 Q (354, L, st, g) ↔ am_K d 0 Q (am_S 0 (.invokevirtual 100) 354 L st g) := am_E_x (by decide +kernel : am_dc 0 354 = some (.invokevirtual 100))
theorem x_0_357   : am_E d 0 Q (357, L, st, g) ↔ am_K d 0 Q (am_ldI 359 L st g 6) := am_E_iload (by decide +kernel : am_dc 0 357 = some (.iload 6)) rfl
theorem x_0_359   : am_E d 0 Q (359, L, .int y :: .int x :: st, g) ↔ am_E d 0 Q (am_cmp .eq x y 364 362, L, st, g) := am_E_ic (by decide +kernel : am_dc 0 359 = some (.if_icmp .eq (5))) rfl rfl
theorem x_0_362   : am_E d 0 Q (362, L, st, g) ↔ am_E d 0 Q (363, L, .int (0) :: st, g) := am_E_iconst (by decide +kernel : am_dc 0 362 = some (.iconst (0))) (by decide) rfl
theorem x_0_363  : am_E d 0 Q (363, L, [.int x], g) ↔ if am_ok (FieldType.boolean) (.int x) = true then Q (.inl (some (.int x))) g else False := am_E_ireturn (by decide +kernel : am_dc 0 363 = some (.ireturn)) (by decide +kernel)
theorem x_0_364   : am_E d 0 Q (364, L, st, g) ↔ am_K d 0 Q (am_ldI 366 L st g 6) := am_E_iload (by decide +kernel : am_dc 0 364 = some (.iload 6)) rfl
theorem x_0_366   : am_E d 0 Q (366, L, .int x :: st, g) ↔ am_E d 0 Q (am_cmp .ne x 0 381 369, L, st, g) := am_E_if (by decide +kernel : am_dc 0 366 = some (.ifCond .ne (15))) rfl rfl
theorem x_0_369   : am_E d 0 Q (369, L, st, g) ↔ am_K d 0 Q (am_ldA 370 L st g 3) := am_E_aload_n (by decide +kernel : am_dc 0 369 = some (.aload_n 3)) rfl rfl
theorem x_0_370   : am_E d 0 Q (370, L, st, g) ↔ am_E d 0 Q (371, L, .int (0) :: st, g) := am_E_iconst (by decide +kernel : am_dc 0 370 = some (.iconst (0))) (by decide) rfl
theorem x_0_371   : am_E d 0 Q (371, L, .int x :: .ref a :: st, g) ↔ am_kv d 0 Q 372 L st g (am_iat .laload g a x) := am_E_laload (by decide +kernel : am_dc 0 371 = some (.laload)) rfl
theorem x_0_372   : am_E d 0 Q (372, L, st, g) ↔ am_K d 0 Q (am_ldI 374 L st g 7) := am_E_iload (by decide +kernel : am_dc 0 372 = some (.iload 7)) rfl
theorem x_0_374   : am_E d 0 Q (374, L, .int x :: st, g) ↔ am_E d 0 Q (375, L, .long x.toInt64 :: st, g) := am_E_i2l (by decide +kernel : am_dc 0 374 = some (.i2l)) rfl
theorem x_0_375   : am_E d 0 Q (375, L, .long w :: .long u :: st, g) ↔ am_E d 0 Q (376, L, .int (lg_cmp u w) :: st, g) := am_E_lcmp (by decide +kernel : am_dc 0 375 = some (.lcmp)) rfl
theorem x_0_376   : am_E d 0 Q (376, L, .int x :: st, g) ↔ am_E d 0 Q (am_cmp .eq x 0 381 379, L, st, g) := am_E_if (by decide +kernel : am_dc 0 376 = some (.ifCond .eq (5))) rfl rfl
theorem x_0_379   : am_E d 0 Q (379, L, st, g) ↔ am_E d 0 Q (380, L, .int (0) :: st, g) := am_E_iconst (by decide +kernel : am_dc 0 379 = some (.iconst (0))) (by decide) rfl
theorem x_0_380  : am_E d 0 Q (380, L, [.int x], g) ↔ if am_ok (FieldType.boolean) (.int x) = true then Q (.inl (some (.int x))) g else False := am_E_ireturn (by decide +kernel : am_dc 0 380 = some (.ireturn)) (by decide +kernel)
theorem x_0_381   : am_E d 0 Q (381, L, st, g) ↔ am_E d 0 Q (1529, L, st, g) := am_E_gt (by decide +kernel : am_dc 0 381 = some (.goto (1148))) rfl rfl
theorem x_0_384   : am_E d 0 Q (384, L, st, g) ↔ am_K d 0 Q (am_ldA 385 L st g 1) := am_E_aload_n (by decide +kernel : am_dc 0 384 = some (.aload_n 1)) rfl rfl
theorem x_0_385   : am_E d 0 Q (385, L, st, g) ↔ am_K d 0 Q (am_ldA 386 L st g 0) := am_E_aload_n (by decide +kernel : am_dc 0 385 = some (.aload_n 0)) rfl rfl
theorem x_0_386   : am_E d 0 Q (386, L, st, g) ↔ am_K d 0 Q (am_ldI 388 L st g 5) := am_E_iload (by decide +kernel : am_dc 0 386 = some (.iload 5)) rfl
theorem x_0_388   : am_E d 0 Q (388, L, st, g) ↔ am_E d 0 Q (389, L, .int (1) :: st, g) := am_E_iconst (by decide +kernel : am_dc 0 388 = some (.iconst (1))) (by decide) rfl
theorem x_0_389   : am_E d 0 Q (389, L, .int y :: .int x :: st, g) ↔ am_E d 0 Q (390, L, .int (x + y) :: st, g) := am_E_iadd (by decide +kernel : am_dc 0 389 = some (.iadd)) rfl
theorem x_0_390   : am_E d 0 Q (390, L, .int x :: .ref a :: st, g) ↔ am_kv d 0 Q 391 L st g (am_iat .iaload g a x) := am_E_iaload (by decide +kernel : am_dc 0 390 = some (.iaload)) rfl
theorem x_0_391   : am_E d 0 Q (391, L, st, g) ↔ am_K d 0 Q (am_ldA 392 L st g 0) := am_E_aload_n (by decide +kernel : am_dc 0 391 = some (.aload_n 0)) rfl rfl
theorem x_0_392   : am_E d 0 Q (392, L, st, g) ↔ am_K d 0 Q (am_ldI 394 L st g 5) := am_E_iload (by decide +kernel : am_dc 0 392 = some (.iload 5)) rfl
theorem x_0_394   : am_E d 0 Q (394, L, st, g) ↔ am_E d 0 Q (395, L, .int (2) :: st, g) := am_E_iconst (by decide +kernel : am_dc 0 394 = some (.iconst (2))) (by decide) rfl
theorem x_0_395   : am_E d 0 Q (395, L, .int y :: .int x :: st, g) ↔ am_E d 0 Q (396, L, .int (x + y) :: st, g) := am_E_iadd (by decide +kernel : am_dc 0 395 = some (.iadd)) rfl
theorem x_0_396   : am_E d 0 Q (396, L, .int x :: .ref a :: st, g) ↔ am_kv d 0 Q 397 L st g (am_iat .iaload g a x) := am_E_iaload (by decide +kernel : am_dc 0 396 = some (.iaload)) rfl
theorem x_0_397   : am_E d 0 Q (397, L, st, g) ↔ am_K d 0 Q (am_ldA 398 L st g 3) := am_E_aload_n (by decide +kernel : am_dc 0 397 = some (.aload_n 3)) rfl rfl
theorem x_0_398  : am_E d 0 Q (398, L, st, g) ↔ am_K d 0 Q (am_S 0 (.invokestatic 110) 398 L st g) := am_E_x (by decide +kernel : am_dc 0 398 = some (.invokestatic 110))
theorem x_0_401   : am_E d 0 Q (401, L, st, g) ↔ am_K d 0 Q (am_stI 403 L st g 6) := am_E_istore (by decide +kernel : am_dc 0 401 = some (.istore 6)) rfl
theorem x_0_403   : am_E d 0 Q (403, L, st, g) ↔ am_K d 0 Q (am_ldA 404 L st g 2) := am_E_aload_n (by decide +kernel : am_dc 0 403 = some (.aload_n 2)) rfl rfl
theorem x_0_404   : am_E d 0 Q (404, L, st, g) ↔ am_K d 0 Q (am_ldA 405 L st g 0) := am_E_aload_n (by decide +kernel : am_dc 0 404 = some (.aload_n 0)) rfl rfl
theorem x_0_405   : am_E d 0 Q (405, L, st, g) ↔ am_K d 0 Q (am_ldI 407 L st g 5) := am_E_iload (by decide +kernel : am_dc 0 405 = some (.iload 5)) rfl
theorem x_0_407   : am_E d 0 Q (407, L, st, g) ↔ am_E d 0 Q (408, L, .int (1) :: st, g) := am_E_iconst (by decide +kernel : am_dc 0 407 = some (.iconst (1))) (by decide) rfl
theorem x_0_408   : am_E d 0 Q (408, L, .int y :: .int x :: st, g) ↔ am_E d 0 Q (409, L, .int (x + y) :: st, g) := am_E_iadd (by decide +kernel : am_dc 0 408 = some (.iadd)) rfl
theorem x_0_409   : am_E d 0 Q (409, L, .int x :: .ref a :: st, g) ↔ am_kv d 0 Q 410 L st g (am_iat .iaload g a x) := am_E_iaload (by decide +kernel : am_dc 0 409 = some (.iaload)) rfl
theorem x_0_410   : am_E d 0 Q (410, L, st, g) ↔ am_K d 0 Q (am_ldA 411 L st g 0) := am_E_aload_n (by decide +kernel : am_dc 0 410 = some (.aload_n 0)) rfl rfl
theorem x_0_411   : am_E d 0 Q (411, L, st, g) ↔ am_K d 0 Q (am_ldI 413 L st g 5) := am_E_iload (by decide +kernel : am_dc 0 411 = some (.iload 5)) rfl
theorem x_0_413   : am_E d 0 Q (413, L, st, g) ↔ am_E d 0 Q (414, L, .int (2) :: st, g) := am_E_iconst (by decide +kernel : am_dc 0 413 = some (.iconst (2))) (by decide) rfl
theorem x_0_414   : am_E d 0 Q (414, L, .int y :: .int x :: st, g) ↔ am_E d 0 Q (415, L, .int (x + y) :: st, g) := am_E_iadd (by decide +kernel : am_dc 0 414 = some (.iadd)) rfl
theorem x_0_415   : am_E d 0 Q (415, L, .int x :: .ref a :: st, g) ↔ am_kv d 0 Q 416 L st g (am_iat .iaload g a x) := am_E_iaload (by decide +kernel : am_dc 0 415 = some (.iaload)) rfl
theorem x_0_416  : am_E d 0 Q (416, L, st, g) ↔ am_K d 0 Q (am_S 0 (.invokevirtual 112) 416 L st g) := am_E_x (by decide +kernel : am_dc 0 416 = some (.invokevirtual 112))
theorem x_0_419   : am_E d 0 Q (419, L, st, g) ↔ am_K d 0 Q (am_stI 421 L st g 7) := am_E_istore (by decide +kernel : am_dc 0 419 = some (.istore 7)) rfl
theorem x_0_421   : am_E d 0 Q (421, L, st, g) ↔ am_K d 0 Q (am_ldA 422 L st g 2) := am_E_aload_n (by decide +kernel : am_dc 0 421 = some (.aload_n 2)) rfl rfl
theorem x_0_422  : am_E d 0 Q (422, L, st, g) ↔ am_K d 0 Q (am_S 0 (.invokevirtual 100) 422 L st g) := am_E_x (by decide +kernel : am_dc 0 422 = some (.invokevirtual 100))
theorem x_0_425   : am_E d 0 Q (425, L, st, g) ↔ am_K d 0 Q (am_ldI 427 L st g 6) := am_E_iload (by decide +kernel : am_dc 0 425 = some (.iload 6)) rfl
theorem x_0_427   : am_E d 0 Q (427, L, .int y :: .int x :: st, g) ↔ am_E d 0 Q (am_cmp .eq x y 432 430, L, st, g) := am_E_ic (by decide +kernel : am_dc 0 427 = some (.if_icmp .eq (5))) rfl rfl
theorem x_0_430   : am_E d 0 Q (430, L, st, g) ↔ am_E d 0 Q (431, L, .int (0) :: st, g) := am_E_iconst (by decide +kernel : am_dc 0 430 = some (.iconst (0))) (by decide) rfl
theorem x_0_431  : am_E d 0 Q (431, L, [.int x], g) ↔ if am_ok (FieldType.boolean) (.int x) = true then Q (.inl (some (.int x))) g else False := am_E_ireturn (by decide +kernel : am_dc 0 431 = some (.ireturn)) (by decide +kernel)
theorem x_0_432   : am_E d 0 Q (432, L, st, g) ↔ am_K d 0 Q (am_ldI 434 L st g 6) := am_E_iload (by decide +kernel : am_dc 0 432 = some (.iload 6)) rfl
theorem x_0_434   : am_E d 0 Q (434, L, .int x :: st, g) ↔ am_E d 0 Q (am_cmp .ne x 0 449 437, L, st, g) := am_E_if (by decide +kernel : am_dc 0 434 = some (.ifCond .ne (15))) rfl rfl
theorem x_0_437   : am_E d 0 Q (437, L, st, g) ↔ am_K d 0 Q (am_ldA 438 L st g 3) := am_E_aload_n (by decide +kernel : am_dc 0 437 = some (.aload_n 3)) rfl rfl
theorem x_0_438   : am_E d 0 Q (438, L, st, g) ↔ am_E d 0 Q (439, L, .int (0) :: st, g) := am_E_iconst (by decide +kernel : am_dc 0 438 = some (.iconst (0))) (by decide) rfl
theorem x_0_439   : am_E d 0 Q (439, L, .int x :: .ref a :: st, g) ↔ am_kv d 0 Q 440 L st g (am_iat .laload g a x) := am_E_laload (by decide +kernel : am_dc 0 439 = some (.laload)) rfl
theorem x_0_440   : am_E d 0 Q (440, L, st, g) ↔ am_K d 0 Q (am_ldI 442 L st g 7) := am_E_iload (by decide +kernel : am_dc 0 440 = some (.iload 7)) rfl
theorem x_0_442   : am_E d 0 Q (442, L, .int x :: st, g) ↔ am_E d 0 Q (443, L, .long x.toInt64 :: st, g) := am_E_i2l (by decide +kernel : am_dc 0 442 = some (.i2l)) rfl
theorem x_0_443   : am_E d 0 Q (443, L, .long w :: .long u :: st, g) ↔ am_E d 0 Q (444, L, .int (lg_cmp u w) :: st, g) := am_E_lcmp (by decide +kernel : am_dc 0 443 = some (.lcmp)) rfl
theorem x_0_444   : am_E d 0 Q (444, L, .int x :: st, g) ↔ am_E d 0 Q (am_cmp .eq x 0 449 447, L, st, g) := am_E_if (by decide +kernel : am_dc 0 444 = some (.ifCond .eq (5))) rfl rfl
theorem x_0_447   : am_E d 0 Q (447, L, st, g) ↔ am_E d 0 Q (448, L, .int (0) :: st, g) := am_E_iconst (by decide +kernel : am_dc 0 447 = some (.iconst (0))) (by decide) rfl
theorem x_0_448  : am_E d 0 Q (448, L, [.int x], g) ↔ if am_ok (FieldType.boolean) (.int x) = true then Q (.inl (some (.int x))) g else False := am_E_ireturn (by decide +kernel : am_dc 0 448 = some (.ireturn)) (by decide +kernel)
theorem x_0_449   : am_E d 0 Q (449, L, st, g) ↔ am_E d 0 Q (1529, L, st, g) := am_E_gt (by decide +kernel : am_dc 0 449 = some (.goto (1080))) rfl rfl
theorem x_0_452   : am_E d 0 Q (452, L, st, g) ↔ am_K d 0 Q (am_ldA 453 L st g 1) := am_E_aload_n (by decide +kernel : am_dc 0 452 = some (.aload_n 1)) rfl rfl
theorem x_0_453   : am_E d 0 Q (453, L, st, g) ↔ am_K d 0 Q (am_ldA 454 L st g 0) := am_E_aload_n (by decide +kernel : am_dc 0 453 = some (.aload_n 0)) rfl rfl
theorem x_0_454   : am_E d 0 Q (454, L, st, g) ↔ am_K d 0 Q (am_ldI 456 L st g 5) := am_E_iload (by decide +kernel : am_dc 0 454 = some (.iload 5)) rfl
theorem x_0_456   : am_E d 0 Q (456, L, st, g) ↔ am_E d 0 Q (457, L, .int (1) :: st, g) := am_E_iconst (by decide +kernel : am_dc 0 456 = some (.iconst (1))) (by decide) rfl
theorem x_0_457   : am_E d 0 Q (457, L, .int y :: .int x :: st, g) ↔ am_E d 0 Q (458, L, .int (x + y) :: st, g) := am_E_iadd (by decide +kernel : am_dc 0 457 = some (.iadd)) rfl
theorem x_0_458   : am_E d 0 Q (458, L, .int x :: .ref a :: st, g) ↔ am_kv d 0 Q 459 L st g (am_iat .iaload g a x) := am_E_iaload (by decide +kernel : am_dc 0 458 = some (.iaload)) rfl
theorem x_0_459   : am_E d 0 Q (459, L, st, g) ↔ am_K d 0 Q (am_ldA 460 L st g 0) := am_E_aload_n (by decide +kernel : am_dc 0 459 = some (.aload_n 0)) rfl rfl
theorem x_0_460   : am_E d 0 Q (460, L, st, g) ↔ am_K d 0 Q (am_ldI 462 L st g 5) := am_E_iload (by decide +kernel : am_dc 0 460 = some (.iload 5)) rfl
theorem x_0_462   : am_E d 0 Q (462, L, st, g) ↔ am_E d 0 Q (463, L, .int (2) :: st, g) := am_E_iconst (by decide +kernel : am_dc 0 462 = some (.iconst (2))) (by decide) rfl
theorem x_0_463   : am_E d 0 Q (463, L, .int y :: .int x :: st, g) ↔ am_E d 0 Q (464, L, .int (x + y) :: st, g) := am_E_iadd (by decide +kernel : am_dc 0 463 = some (.iadd)) rfl
theorem x_0_464   : am_E d 0 Q (464, L, .int x :: .ref a :: st, g) ↔ am_kv d 0 Q 465 L st g (am_iat .iaload g a x) := am_E_iaload (by decide +kernel : am_dc 0 464 = some (.iaload)) rfl
theorem x_0_465   : am_E d 0 Q (465, L, st, g) ↔ am_K d 0 Q (am_ldA 466 L st g 0) := am_E_aload_n (by decide +kernel : am_dc 0 465 = some (.aload_n 0)) rfl rfl
theorem x_0_466   : am_E d 0 Q (466, L, st, g) ↔ am_K d 0 Q (am_ldI 468 L st g 5) := am_E_iload (by decide +kernel : am_dc 0 466 = some (.iload 5)) rfl
theorem x_0_468   : am_E d 0 Q (468, L, st, g) ↔ am_E d 0 Q (469, L, .int (3) :: st, g) := am_E_iconst (by decide +kernel : am_dc 0 468 = some (.iconst (3))) (by decide) rfl
theorem x_0_469   : am_E d 0 Q (469, L, .int y :: .int x :: st, g) ↔ am_E d 0 Q (470, L, .int (x + y) :: st, g) := am_E_iadd (by decide +kernel : am_dc 0 469 = some (.iadd)) rfl
theorem x_0_470   : am_E d 0 Q (470, L, .int x :: .ref a :: st, g) ↔ am_kv d 0 Q 471 L st g (am_iat .iaload g a x) := am_E_iaload (by decide +kernel : am_dc 0 470 = some (.iaload)) rfl
theorem x_0_471  : am_E d 0 Q (471, L, st, g) ↔ am_K d 0 Q (am_S 0 (.invokestatic 113) 471 L st g) := am_E_x (by decide +kernel : am_dc 0 471 = some (.invokestatic 113))
theorem x_0_474   : am_E d 0 Q (474, L, st, g) ↔ am_K d 0 Q (am_stI 476 L st g 6) := am_E_istore (by decide +kernel : am_dc 0 474 = some (.istore 6)) rfl
theorem x_0_476   : am_E d 0 Q (476, L, st, g) ↔ am_K d 0 Q (am_ldA 477 L st g 2) := am_E_aload_n (by decide +kernel : am_dc 0 476 = some (.aload_n 2)) rfl rfl
theorem x_0_477   : am_E d 0 Q (477, L, st, g) ↔ am_K d 0 Q (am_ldA 478 L st g 0) := am_E_aload_n (by decide +kernel : am_dc 0 477 = some (.aload_n 0)) rfl rfl
theorem x_0_478   : am_E d 0 Q (478, L, st, g) ↔ am_K d 0 Q (am_ldI 480 L st g 5) := am_E_iload (by decide +kernel : am_dc 0 478 = some (.iload 5)) rfl
theorem x_0_480   : am_E d 0 Q (480, L, st, g) ↔ am_E d 0 Q (481, L, .int (1) :: st, g) := am_E_iconst (by decide +kernel : am_dc 0 480 = some (.iconst (1))) (by decide) rfl
theorem x_0_481   : am_E d 0 Q (481, L, .int y :: .int x :: st, g) ↔ am_E d 0 Q (482, L, .int (x + y) :: st, g) := am_E_iadd (by decide +kernel : am_dc 0 481 = some (.iadd)) rfl
theorem x_0_482   : am_E d 0 Q (482, L, .int x :: .ref a :: st, g) ↔ am_kv d 0 Q 483 L st g (am_iat .iaload g a x) := am_E_iaload (by decide +kernel : am_dc 0 482 = some (.iaload)) rfl
theorem x_0_483   : am_E d 0 Q (483, L, st, g) ↔ am_K d 0 Q (am_ldA 484 L st g 0) := am_E_aload_n (by decide +kernel : am_dc 0 483 = some (.aload_n 0)) rfl rfl
theorem x_0_484   : am_E d 0 Q (484, L, st, g) ↔ am_K d 0 Q (am_ldI 486 L st g 5) := am_E_iload (by decide +kernel : am_dc 0 484 = some (.iload 5)) rfl
theorem x_0_486   : am_E d 0 Q (486, L, st, g) ↔ am_E d 0 Q (487, L, .int (2) :: st, g) := am_E_iconst (by decide +kernel : am_dc 0 486 = some (.iconst (2))) (by decide) rfl
theorem x_0_487   : am_E d 0 Q (487, L, .int y :: .int x :: st, g) ↔ am_E d 0 Q (488, L, .int (x + y) :: st, g) := am_E_iadd (by decide +kernel : am_dc 0 487 = some (.iadd)) rfl
theorem x_0_488   : am_E d 0 Q (488, L, .int x :: .ref a :: st, g) ↔ am_kv d 0 Q 489 L st g (am_iat .iaload g a x) := am_E_iaload (by decide +kernel : am_dc 0 488 = some (.iaload)) rfl
theorem x_0_489   : am_E d 0 Q (489, L, st, g) ↔ am_K d 0 Q (am_ldA 490 L st g 0) := am_E_aload_n (by decide +kernel : am_dc 0 489 = some (.aload_n 0)) rfl rfl
theorem x_0_490   : am_E d 0 Q (490, L, st, g) ↔ am_K d 0 Q (am_ldI 492 L st g 5) := am_E_iload (by decide +kernel : am_dc 0 490 = some (.iload 5)) rfl
theorem x_0_492   : am_E d 0 Q (492, L, st, g) ↔ am_E d 0 Q (493, L, .int (3) :: st, g) := am_E_iconst (by decide +kernel : am_dc 0 492 = some (.iconst (3))) (by decide) rfl
theorem x_0_493   : am_E d 0 Q (493, L, .int y :: .int x :: st, g) ↔ am_E d 0 Q (494, L, .int (x + y) :: st, g) := am_E_iadd (by decide +kernel : am_dc 0 493 = some (.iadd)) rfl
theorem x_0_494   : am_E d 0 Q (494, L, .int x :: .ref a :: st, g) ↔ am_kv d 0 Q 495 L st g (am_iat .iaload g a x) := am_E_iaload (by decide +kernel : am_dc 0 494 = some (.iaload)) rfl
theorem x_0_495  : am_E d 0 Q (495, L, st, g) ↔ am_K d 0 Q (am_S 0 (.invokevirtual 116) 495 L st g) := am_E_x (by decide +kernel : am_dc 0 495 = some (.invokevirtual 116))
theorem x_0_498   : am_E d 0 Q (498, L, st, g) ↔ am_K d 0 Q (am_ldA 499 L st g 2) := am_E_aload_n (by decide +kernel : am_dc 0 498 = some (.aload_n 2)) rfl rfl
theorem x_0_499  : am_E d 0 Q (499, L, st, g) ↔ am_K d 0 Q (am_S 0 (.invokevirtual 100) 499 L st g) := am_E_x (by decide +kernel : am_dc 0 499 = some (.invokevirtual 100))
theorem x_0_502   : am_E d 0 Q (502, L, st, g) ↔ am_K d 0 Q (am_ldI 504 L st g 6) := am_E_iload (by decide +kernel : am_dc 0 502 = some (.iload 6)) rfl
theorem x_0_504   : am_E d 0 Q (504, L, .int y :: .int x :: st, g) ↔ am_E d 0 Q (am_cmp .eq x y 509 507, L, st, g) := am_E_ic (by decide +kernel : am_dc 0 504 = some (.if_icmp .eq (5))) rfl rfl
theorem x_0_507   : am_E d 0 Q (507, L, st, g) ↔ am_E d 0 Q (508, L, .int (0) :: st, g) := am_E_iconst (by decide +kernel : am_dc 0 507 = some (.iconst (0))) (by decide) rfl
theorem x_0_508  : am_E d 0 Q (508, L, [.int x], g) ↔ if am_ok (FieldType.boolean) (.int x) = true then Q (.inl (some (.int x))) g else False := am_E_ireturn (by decide +kernel : am_dc 0 508 = some (.ireturn)) (by decide +kernel)
theorem x_0_509   : am_E d 0 Q (509, L, st, g) ↔ am_E d 0 Q (1529, L, st, g) := am_E_gt (by decide +kernel : am_dc 0 509 = some (.goto (1020))) rfl rfl
theorem x_0_512   : am_E d 0 Q (512, L, st, g) ↔ am_K d 0 Q (am_ldA 513 L st g 1) := am_E_aload_n (by decide +kernel : am_dc 0 512 = some (.aload_n 1)) rfl rfl
theorem x_0_513   : am_E d 0 Q (513, L, st, g) ↔ am_K d 0 Q (am_ldA 514 L st g 0) := am_E_aload_n (by decide +kernel : am_dc 0 513 = some (.aload_n 0)) rfl rfl
theorem x_0_514   : am_E d 0 Q (514, L, st, g) ↔ am_K d 0 Q (am_ldI 516 L st g 5) := am_E_iload (by decide +kernel : am_dc 0 514 = some (.iload 5)) rfl
theorem x_0_516   : am_E d 0 Q (516, L, st, g) ↔ am_E d 0 Q (517, L, .int (1) :: st, g) := am_E_iconst (by decide +kernel : am_dc 0 516 = some (.iconst (1))) (by decide) rfl
theorem x_0_517   : am_E d 0 Q (517, L, .int y :: .int x :: st, g) ↔ am_E d 0 Q (518, L, .int (x + y) :: st, g) := am_E_iadd (by decide +kernel : am_dc 0 517 = some (.iadd)) rfl
theorem x_0_518   : am_E d 0 Q (518, L, .int x :: .ref a :: st, g) ↔ am_kv d 0 Q 519 L st g (am_iat .iaload g a x) := am_E_iaload (by decide +kernel : am_dc 0 518 = some (.iaload)) rfl
theorem x_0_519   : am_E d 0 Q (519, L, .int x :: st, g) ↔ am_E d 0 Q (520, L, .int (x.toUInt32 % 65536).toInt32 :: st, g) := am_E_i2c (by decide +kernel : am_dc 0 519 = some (.i2c)) rfl
theorem x_0_520  : am_E d 0 Q (520, L, st, g) ↔ am_K d 0 Q (am_S 0 (.invokevirtual 117) 520 L st g) := am_E_x (by decide +kernel : am_dc 0 520 = some (.invokevirtual 117))
theorem x_0_523   : am_E d 0 Q (523, L, st, g) ↔ am_K d 0 Q (am_ldA 524 L st g 2) := am_E_aload_n (by decide +kernel : am_dc 0 523 = some (.aload_n 2)) rfl rfl
theorem x_0_524   : am_E d 0 Q (524, L, st, g) ↔ am_K d 0 Q (am_ldA 525 L st g 0) := am_E_aload_n (by decide +kernel : am_dc 0 524 = some (.aload_n 0)) rfl rfl
theorem x_0_525   : am_E d 0 Q (525, L, st, g) ↔ am_K d 0 Q (am_ldI 527 L st g 5) := am_E_iload (by decide +kernel : am_dc 0 525 = some (.iload 5)) rfl
theorem x_0_527   : am_E d 0 Q (527, L, st, g) ↔ am_E d 0 Q (528, L, .int (1) :: st, g) := am_E_iconst (by decide +kernel : am_dc 0 527 = some (.iconst (1))) (by decide) rfl
theorem x_0_528   : am_E d 0 Q (528, L, .int y :: .int x :: st, g) ↔ am_E d 0 Q (529, L, .int (x + y) :: st, g) := am_E_iadd (by decide +kernel : am_dc 0 528 = some (.iadd)) rfl
theorem x_0_529   : am_E d 0 Q (529, L, .int x :: .ref a :: st, g) ↔ am_kv d 0 Q 530 L st g (am_iat .iaload g a x) := am_E_iaload (by decide +kernel : am_dc 0 529 = some (.iaload)) rfl
theorem x_0_530   : am_E d 0 Q (530, L, .int x :: st, g) ↔ am_E d 0 Q (531, L, .int (x.toUInt32 % 65536).toInt32 :: st, g) := am_E_i2c (by decide +kernel : am_dc 0 530 = some (.i2c)) rfl
theorem x_0_531  : am_E d 0 Q (531, L, st, g) ↔ am_K d 0 Q (am_S 0 (.invokevirtual 121) 531 L st g) := am_E_x (by decide +kernel : am_dc 0 531 = some (.invokevirtual 121))
theorem x_0_534   : am_E d 0 Q (534, L, .int y :: .int x :: st, g) ↔ am_E d 0 Q (am_cmp .eq x y 1529 537, L, st, g) := am_E_ic (by decide +kernel : am_dc 0 534 = some (.if_icmp .eq (995))) rfl rfl
theorem x_0_537   : am_E d 0 Q (537, L, st, g) ↔ am_E d 0 Q (538, L, .int (0) :: st, g) := am_E_iconst (by decide +kernel : am_dc 0 537 = some (.iconst (0))) (by decide) rfl
theorem x_0_538  : am_E d 0 Q (538, L, [.int x], g) ↔ if am_ok (FieldType.boolean) (.int x) = true then Q (.inl (some (.int x))) g else False := am_E_ireturn (by decide +kernel : am_dc 0 538 = some (.ireturn)) (by decide +kernel)
theorem x_0_539   : am_E d 0 Q (539, L, st, g) ↔ am_K d 0 Q (am_ldA 540 L st g 1) := am_E_aload_n (by decide +kernel : am_dc 0 539 = some (.aload_n 1)) rfl rfl
theorem x_0_540   : am_E d 0 Q (540, L, st, g) ↔ am_K d 0 Q (am_ldA 541 L st g 3) := am_E_aload_n (by decide +kernel : am_dc 0 540 = some (.aload_n 3)) rfl rfl
theorem x_0_541  : am_E d 0 Q (541, L, st, g) ↔ am_K d 0 Q (am_S 0 (.invokestatic 122) 541 L st g) := am_E_x (by decide +kernel : am_dc 0 541 = some (.invokestatic 122))
theorem x_0_544   : am_E d 0 Q (544, L, st, g) ↔ am_K d 0 Q (am_stI 546 L st g 6) := am_E_istore (by decide +kernel : am_dc 0 544 = some (.istore 6)) rfl
theorem x_0_546   : am_E d 0 Q (546, L, st, g) ↔ am_K d 0 Q (am_ldA 547 L st g 2) := am_E_aload_n (by decide +kernel : am_dc 0 546 = some (.aload_n 2)) rfl rfl
theorem x_0_547  : am_E d 0 Q (547, L, st, g) ↔ am_K d 0 Q (am_S 0 (.invokevirtual 125) 547 L st g) := am_E_x (by decide +kernel : am_dc 0 547 = some (.invokevirtual 125))
theorem x_0_550   : am_E d 0 Q (550, L, st, g) ↔ am_K d 0 Q (am_stI 552 L st g 7) := am_E_istore (by decide +kernel : am_dc 0 550 = some (.istore 7)) rfl
theorem x_0_552   : am_E d 0 Q (552, L, st, g) ↔ am_K d 0 Q (am_ldA 553 L st g 2) := am_E_aload_n (by decide +kernel : am_dc 0 552 = some (.aload_n 2)) rfl rfl
theorem x_0_553  : am_E d 0 Q (553, L, st, g) ↔ am_K d 0 Q (am_S 0 (.invokevirtual 100) 553 L st g) := am_E_x (by decide +kernel : am_dc 0 553 = some (.invokevirtual 100))
theorem x_0_556   : am_E d 0 Q (556, L, st, g) ↔ am_K d 0 Q (am_ldI 558 L st g 6) := am_E_iload (by decide +kernel : am_dc 0 556 = some (.iload 6)) rfl
theorem x_0_558   : am_E d 0 Q (558, L, .int y :: .int x :: st, g) ↔ am_E d 0 Q (am_cmp .eq x y 563 561, L, st, g) := am_E_ic (by decide +kernel : am_dc 0 558 = some (.if_icmp .eq (5))) rfl rfl
theorem x_0_561   : am_E d 0 Q (561, L, st, g) ↔ am_E d 0 Q (562, L, .int (0) :: st, g) := am_E_iconst (by decide +kernel : am_dc 0 561 = some (.iconst (0))) (by decide) rfl
theorem x_0_562  : am_E d 0 Q (562, L, [.int x], g) ↔ if am_ok (FieldType.boolean) (.int x) = true then Q (.inl (some (.int x))) g else False := am_E_ireturn (by decide +kernel : am_dc 0 562 = some (.ireturn)) (by decide +kernel)
theorem x_0_563   : am_E d 0 Q (563, L, st, g) ↔ am_K d 0 Q (am_ldI 565 L st g 6) := am_E_iload (by decide +kernel : am_dc 0 563 = some (.iload 6)) rfl
theorem x_0_565   : am_E d 0 Q (565, L, .int x :: st, g) ↔ am_E d 0 Q (am_cmp .ne x 0 580 568, L, st, g) := am_E_if (by decide +kernel : am_dc 0 565 = some (.ifCond .ne (15))) rfl rfl
theorem x_0_568   : am_E d 0 Q (568, L, st, g) ↔ am_K d 0 Q (am_ldA 569 L st g 3) := am_E_aload_n (by decide +kernel : am_dc 0 568 = some (.aload_n 3)) rfl rfl
theorem x_0_569   : am_E d 0 Q (569, L, st, g) ↔ am_E d 0 Q (570, L, .int (0) :: st, g) := am_E_iconst (by decide +kernel : am_dc 0 569 = some (.iconst (0))) (by decide) rfl
theorem x_0_570   : am_E d 0 Q (570, L, .int x :: .ref a :: st, g) ↔ am_kv d 0 Q 571 L st g (am_iat .laload g a x) := am_E_laload (by decide +kernel : am_dc 0 570 = some (.laload)) rfl
theorem x_0_571   : am_E d 0 Q (571, L, st, g) ↔ am_K d 0 Q (am_ldI 573 L st g 7) := am_E_iload (by decide +kernel : am_dc 0 571 = some (.iload 7)) rfl
theorem x_0_573   : am_E d 0 Q (573, L, .int x :: st, g) ↔ am_E d 0 Q (574, L, .long x.toInt64 :: st, g) := am_E_i2l (by decide +kernel : am_dc 0 573 = some (.i2l)) rfl
theorem x_0_574   : am_E d 0 Q (574, L, .long w :: .long u :: st, g) ↔ am_E d 0 Q (575, L, .int (lg_cmp u w) :: st, g) := am_E_lcmp (by decide +kernel : am_dc 0 574 = some (.lcmp)) rfl
theorem x_0_575   : am_E d 0 Q (575, L, .int x :: st, g) ↔ am_E d 0 Q (am_cmp .eq x 0 580 578, L, st, g) := am_E_if (by decide +kernel : am_dc 0 575 = some (.ifCond .eq (5))) rfl rfl
theorem x_0_578   : am_E d 0 Q (578, L, st, g) ↔ am_E d 0 Q (579, L, .int (0) :: st, g) := am_E_iconst (by decide +kernel : am_dc 0 578 = some (.iconst (0))) (by decide) rfl
theorem x_0_579  : am_E d 0 Q (579, L, [.int x], g) ↔ if am_ok (FieldType.boolean) (.int x) = true then Q (.inl (some (.int x))) g else False := am_E_ireturn (by decide +kernel : am_dc 0 579 = some (.ireturn)) (by decide +kernel)
theorem x_0_580   : am_E d 0 Q (580, L, st, g) ↔ am_E d 0 Q (1529, L, st, g) := am_E_gt (by decide +kernel : am_dc 0 580 = some (.goto (949))) rfl rfl
theorem x_0_583   : am_E d 0 Q (583, L, st, g) ↔ am_K d 0 Q (am_ldA 584 L st g 1) := am_E_aload_n (by decide +kernel : am_dc 0 583 = some (.aload_n 1)) rfl rfl
theorem x_0_584   : am_E d 0 Q (584, L, st, g) ↔ am_K d 0 Q (am_ldA 585 L st g 0) := am_E_aload_n (by decide +kernel : am_dc 0 584 = some (.aload_n 0)) rfl rfl
theorem x_0_585   : am_E d 0 Q (585, L, st, g) ↔ am_K d 0 Q (am_ldI 587 L st g 5) := am_E_iload (by decide +kernel : am_dc 0 585 = some (.iload 5)) rfl
theorem x_0_587   : am_E d 0 Q (587, L, st, g) ↔ am_E d 0 Q (588, L, .int (1) :: st, g) := am_E_iconst (by decide +kernel : am_dc 0 587 = some (.iconst (1))) (by decide) rfl
theorem x_0_588   : am_E d 0 Q (588, L, .int y :: .int x :: st, g) ↔ am_E d 0 Q (589, L, .int (x + y) :: st, g) := am_E_iadd (by decide +kernel : am_dc 0 588 = some (.iadd)) rfl
theorem x_0_589   : am_E d 0 Q (589, L, .int x :: .ref a :: st, g) ↔ am_kv d 0 Q 590 L st g (am_iat .iaload g a x) := am_E_iaload (by decide +kernel : am_dc 0 589 = some (.iaload)) rfl
theorem x_0_590   : am_E d 0 Q (590, L, st, g) ↔ am_K d 0 Q (am_ldA 591 L st g 3) := am_E_aload_n (by decide +kernel : am_dc 0 590 = some (.aload_n 3)) rfl rfl
theorem x_0_591  : am_E d 0 Q (591, L, st, g) ↔ am_K d 0 Q (am_S 0 (.invokestatic 126) 591 L st g) := am_E_x (by decide +kernel : am_dc 0 591 = some (.invokestatic 126))
theorem x_0_594   : am_E d 0 Q (594, L, st, g) ↔ am_K d 0 Q (am_stI 596 L st g 6) := am_E_istore (by decide +kernel : am_dc 0 594 = some (.istore 6)) rfl
theorem x_0_596   : am_E d 0 Q (596, L, st, g) ↔ am_K d 0 Q (am_ldA 597 L st g 2) := am_E_aload_n (by decide +kernel : am_dc 0 596 = some (.aload_n 2)) rfl rfl
theorem x_0_597   : am_E d 0 Q (597, L, st, g) ↔ am_K d 0 Q (am_ldA 598 L st g 0) := am_E_aload_n (by decide +kernel : am_dc 0 597 = some (.aload_n 0)) rfl rfl
theorem x_0_598   : am_E d 0 Q (598, L, st, g) ↔ am_K d 0 Q (am_ldI 600 L st g 5) := am_E_iload (by decide +kernel : am_dc 0 598 = some (.iload 5)) rfl
theorem x_0_600   : am_E d 0 Q (600, L, st, g) ↔ am_E d 0 Q (601, L, .int (1) :: st, g) := am_E_iconst (by decide +kernel : am_dc 0 600 = some (.iconst (1))) (by decide) rfl
theorem x_0_601   : am_E d 0 Q (601, L, .int y :: .int x :: st, g) ↔ am_E d 0 Q (602, L, .int (x + y) :: st, g) := am_E_iadd (by decide +kernel : am_dc 0 601 = some (.iadd)) rfl
theorem x_0_602   : am_E d 0 Q (602, L, .int x :: .ref a :: st, g) ↔ am_kv d 0 Q 603 L st g (am_iat .iaload g a x) := am_E_iaload (by decide +kernel : am_dc 0 602 = some (.iaload)) rfl
theorem x_0_603  : am_E d 0 Q (603, L, st, g) ↔ am_K d 0 Q (am_S 0 (.invokevirtual 129) 603 L st g) := am_E_x (by decide +kernel : am_dc 0 603 = some (.invokevirtual 129))
theorem x_0_606   : am_E d 0 Q (606, L, st, g) ↔ am_K d 0 Q (am_stI 608 L st g 7) := am_E_istore (by decide +kernel : am_dc 0 606 = some (.istore 7)) rfl
theorem x_0_608   : am_E d 0 Q (608, L, st, g) ↔ am_K d 0 Q (am_ldA 609 L st g 2) := am_E_aload_n (by decide +kernel : am_dc 0 608 = some (.aload_n 2)) rfl rfl
theorem x_0_609  : am_E d 0 Q (609, L, st, g) ↔ am_K d 0 Q (am_S 0 (.invokevirtual 100) 609 L st g) := am_E_x (by decide +kernel : am_dc 0 609 = some (.invokevirtual 100))
theorem x_0_612   : am_E d 0 Q (612, L, st, g) ↔ am_K d 0 Q (am_ldI 614 L st g 6) := am_E_iload (by decide +kernel : am_dc 0 612 = some (.iload 6)) rfl
theorem x_0_614   : am_E d 0 Q (614, L, .int y :: .int x :: st, g) ↔ am_E d 0 Q (am_cmp .eq x y 619 617, L, st, g) := am_E_ic (by decide +kernel : am_dc 0 614 = some (.if_icmp .eq (5))) rfl rfl
theorem x_0_617   : am_E d 0 Q (617, L, st, g) ↔ am_E d 0 Q (618, L, .int (0) :: st, g) := am_E_iconst (by decide +kernel : am_dc 0 617 = some (.iconst (0))) (by decide) rfl
theorem x_0_618  : am_E d 0 Q (618, L, [.int x], g) ↔ if am_ok (FieldType.boolean) (.int x) = true then Q (.inl (some (.int x))) g else False := am_E_ireturn (by decide +kernel : am_dc 0 618 = some (.ireturn)) (by decide +kernel)
theorem x_0_619   : am_E d 0 Q (619, L, st, g) ↔ am_K d 0 Q (am_ldI 621 L st g 6) := am_E_iload (by decide +kernel : am_dc 0 619 = some (.iload 6)) rfl
theorem x_0_621   : am_E d 0 Q (621, L, .int x :: st, g) ↔ am_E d 0 Q (am_cmp .ne x 0 636 624, L, st, g) := am_E_if (by decide +kernel : am_dc 0 621 = some (.ifCond .ne (15))) rfl rfl
theorem x_0_624   : am_E d 0 Q (624, L, st, g) ↔ am_K d 0 Q (am_ldA 625 L st g 3) := am_E_aload_n (by decide +kernel : am_dc 0 624 = some (.aload_n 3)) rfl rfl
theorem x_0_625   : am_E d 0 Q (625, L, st, g) ↔ am_E d 0 Q (626, L, .int (0) :: st, g) := am_E_iconst (by decide +kernel : am_dc 0 625 = some (.iconst (0))) (by decide) rfl
theorem x_0_626   : am_E d 0 Q (626, L, .int x :: .ref a :: st, g) ↔ am_kv d 0 Q 627 L st g (am_iat .laload g a x) := am_E_laload (by decide +kernel : am_dc 0 626 = some (.laload)) rfl
theorem x_0_627   : am_E d 0 Q (627, L, st, g) ↔ am_K d 0 Q (am_ldI 629 L st g 7) := am_E_iload (by decide +kernel : am_dc 0 627 = some (.iload 7)) rfl
theorem x_0_629   : am_E d 0 Q (629, L, .int x :: st, g) ↔ am_E d 0 Q (630, L, .long x.toInt64 :: st, g) := am_E_i2l (by decide +kernel : am_dc 0 629 = some (.i2l)) rfl
theorem x_0_630   : am_E d 0 Q (630, L, .long w :: .long u :: st, g) ↔ am_E d 0 Q (631, L, .int (lg_cmp u w) :: st, g) := am_E_lcmp (by decide +kernel : am_dc 0 630 = some (.lcmp)) rfl
theorem x_0_631   : am_E d 0 Q (631, L, .int x :: st, g) ↔ am_E d 0 Q (am_cmp .eq x 0 636 634, L, st, g) := am_E_if (by decide +kernel : am_dc 0 631 = some (.ifCond .eq (5))) rfl rfl
theorem x_0_634   : am_E d 0 Q (634, L, st, g) ↔ am_E d 0 Q (635, L, .int (0) :: st, g) := am_E_iconst (by decide +kernel : am_dc 0 634 = some (.iconst (0))) (by decide) rfl
theorem x_0_635  : am_E d 0 Q (635, L, [.int x], g) ↔ if am_ok (FieldType.boolean) (.int x) = true then Q (.inl (some (.int x))) g else False := am_E_ireturn (by decide +kernel : am_dc 0 635 = some (.ireturn)) (by decide +kernel)
theorem x_0_636   : am_E d 0 Q (636, L, st, g) ↔ am_E d 0 Q (1529, L, st, g) := am_E_gt (by decide +kernel : am_dc 0 636 = some (.goto (893))) rfl rfl
theorem x_0_639   : am_E d 0 Q (639, L, st, g) ↔ am_K d 0 Q (am_ldA 640 L st g 1) := am_E_aload_n (by decide +kernel : am_dc 0 639 = some (.aload_n 1)) rfl rfl
theorem x_0_640   : am_E d 0 Q (640, L, st, g) ↔ am_K d 0 Q (am_ldA 641 L st g 0) := am_E_aload_n (by decide +kernel : am_dc 0 640 = some (.aload_n 0)) rfl rfl
theorem x_0_641   : am_E d 0 Q (641, L, st, g) ↔ am_K d 0 Q (am_ldI 643 L st g 5) := am_E_iload (by decide +kernel : am_dc 0 641 = some (.iload 5)) rfl
theorem x_0_643   : am_E d 0 Q (643, L, st, g) ↔ am_E d 0 Q (644, L, .int (1) :: st, g) := am_E_iconst (by decide +kernel : am_dc 0 643 = some (.iconst (1))) (by decide) rfl
theorem x_0_644   : am_E d 0 Q (644, L, .int y :: .int x :: st, g) ↔ am_E d 0 Q (645, L, .int (x + y) :: st, g) := am_E_iadd (by decide +kernel : am_dc 0 644 = some (.iadd)) rfl
theorem x_0_645   : am_E d 0 Q (645, L, .int x :: .ref a :: st, g) ↔ am_kv d 0 Q 646 L st g (am_iat .iaload g a x) := am_E_iaload (by decide +kernel : am_dc 0 645 = some (.iaload)) rfl
theorem x_0_646   : am_E d 0 Q (646, L, st, g) ↔ am_K d 0 Q (am_ldA 647 L st g 0) := am_E_aload_n (by decide +kernel : am_dc 0 646 = some (.aload_n 0)) rfl rfl
theorem x_0_647   : am_E d 0 Q (647, L, st, g) ↔ am_K d 0 Q (am_ldI 649 L st g 5) := am_E_iload (by decide +kernel : am_dc 0 647 = some (.iload 5)) rfl
theorem x_0_649   : am_E d 0 Q (649, L, st, g) ↔ am_E d 0 Q (650, L, .int (2) :: st, g) := am_E_iconst (by decide +kernel : am_dc 0 649 = some (.iconst (2))) (by decide) rfl
theorem x_0_650   : am_E d 0 Q (650, L, .int y :: .int x :: st, g) ↔ am_E d 0 Q (651, L, .int (x + y) :: st, g) := am_E_iadd (by decide +kernel : am_dc 0 650 = some (.iadd)) rfl
theorem x_0_651   : am_E d 0 Q (651, L, .int x :: .ref a :: st, g) ↔ am_kv d 0 Q 652 L st g (am_iat .iaload g a x) := am_E_iaload (by decide +kernel : am_dc 0 651 = some (.iaload)) rfl
theorem x_0_652  : am_E d 0 Q (652, L, st, g) ↔ am_K d 0 Q (am_S 0 (.invokestatic 130) 652 L st g) := am_E_x (by decide +kernel : am_dc 0 652 = some (.invokestatic 130))
theorem x_0_655   : am_E d 0 Q (655, L, st, g) ↔ am_K d 0 Q (am_stI 657 L st g 6) := am_E_istore (by decide +kernel : am_dc 0 655 = some (.istore 6)) rfl
theorem x_0_657   : am_E d 0 Q (657, L, st, g) ↔ am_K d 0 Q (am_ldA 658 L st g 2) := am_E_aload_n (by decide +kernel : am_dc 0 657 = some (.aload_n 2)) rfl rfl
theorem x_0_658   : am_E d 0 Q (658, L, st, g) ↔ am_K d 0 Q (am_ldA 659 L st g 0) := am_E_aload_n (by decide +kernel : am_dc 0 658 = some (.aload_n 0)) rfl rfl
theorem x_0_659   : am_E d 0 Q (659, L, st, g) ↔ am_K d 0 Q (am_ldI 661 L st g 5) := am_E_iload (by decide +kernel : am_dc 0 659 = some (.iload 5)) rfl
theorem x_0_661   : am_E d 0 Q (661, L, st, g) ↔ am_E d 0 Q (662, L, .int (1) :: st, g) := am_E_iconst (by decide +kernel : am_dc 0 661 = some (.iconst (1))) (by decide) rfl
theorem x_0_662   : am_E d 0 Q (662, L, .int y :: .int x :: st, g) ↔ am_E d 0 Q (663, L, .int (x + y) :: st, g) := am_E_iadd (by decide +kernel : am_dc 0 662 = some (.iadd)) rfl
theorem x_0_663   : am_E d 0 Q (663, L, .int x :: .ref a :: st, g) ↔ am_kv d 0 Q 664 L st g (am_iat .iaload g a x) := am_E_iaload (by decide +kernel : am_dc 0 663 = some (.iaload)) rfl
theorem x_0_664   : am_E d 0 Q (664, L, st, g) ↔ am_K d 0 Q (am_ldA 665 L st g 0) := am_E_aload_n (by decide +kernel : am_dc 0 664 = some (.aload_n 0)) rfl rfl
theorem x_0_665   : am_E d 0 Q (665, L, st, g) ↔ am_K d 0 Q (am_ldI 667 L st g 5) := am_E_iload (by decide +kernel : am_dc 0 665 = some (.iload 5)) rfl
theorem x_0_667   : am_E d 0 Q (667, L, st, g) ↔ am_E d 0 Q (668, L, .int (2) :: st, g) := am_E_iconst (by decide +kernel : am_dc 0 667 = some (.iconst (2))) (by decide) rfl
theorem x_0_668   : am_E d 0 Q (668, L, .int y :: .int x :: st, g) ↔ am_E d 0 Q (669, L, .int (x + y) :: st, g) := am_E_iadd (by decide +kernel : am_dc 0 668 = some (.iadd)) rfl
theorem x_0_669   : am_E d 0 Q (669, L, .int x :: .ref a :: st, g) ↔ am_kv d 0 Q 670 L st g (am_iat .iaload g a x) := am_E_iaload (by decide +kernel : am_dc 0 669 = some (.iaload)) rfl
theorem x_0_670  : am_E d 0 Q (670, L, st, g) ↔ am_K d 0 Q (am_S 0 (.invokevirtual 133) 670 L st g) := am_E_x (by decide +kernel : am_dc 0 670 = some (.invokevirtual 133))
theorem x_0_673   : am_E d 0 Q (673, L, st, g) ↔ am_K d 0 Q (am_ldA 674 L st g 2) := am_E_aload_n (by decide +kernel : am_dc 0 673 = some (.aload_n 2)) rfl rfl
theorem x_0_674  : am_E d 0 Q (674, L, st, g) ↔ am_K d 0 Q (am_S 0 (.invokevirtual 100) 674 L st g) := am_E_x (by decide +kernel : am_dc 0 674 = some (.invokevirtual 100))
theorem x_0_677   : am_E d 0 Q (677, L, st, g) ↔ am_K d 0 Q (am_ldI 679 L st g 6) := am_E_iload (by decide +kernel : am_dc 0 677 = some (.iload 6)) rfl
theorem x_0_679   : am_E d 0 Q (679, L, .int y :: .int x :: st, g) ↔ am_E d 0 Q (am_cmp .eq x y 684 682, L, st, g) := am_E_ic (by decide +kernel : am_dc 0 679 = some (.if_icmp .eq (5))) rfl rfl
theorem x_0_682   : am_E d 0 Q (682, L, st, g) ↔ am_E d 0 Q (683, L, .int (0) :: st, g) := am_E_iconst (by decide +kernel : am_dc 0 682 = some (.iconst (0))) (by decide) rfl
theorem x_0_683  : am_E d 0 Q (683, L, [.int x], g) ↔ if am_ok (FieldType.boolean) (.int x) = true then Q (.inl (some (.int x))) g else False := am_E_ireturn (by decide +kernel : am_dc 0 683 = some (.ireturn)) (by decide +kernel)
theorem x_0_684   : am_E d 0 Q (684, L, st, g) ↔ am_E d 0 Q (1529, L, st, g) := am_E_gt (by decide +kernel : am_dc 0 684 = some (.goto (845))) rfl rfl
theorem x_0_687   : am_E d 0 Q (687, L, st, g) ↔ am_K d 0 Q (am_ldA 688 L st g 1) := am_E_aload_n (by decide +kernel : am_dc 0 687 = some (.aload_n 1)) rfl rfl
theorem x_0_688   : am_E d 0 Q (688, L, st, g) ↔ am_K d 0 Q (am_ldA 689 L st g 0) := am_E_aload_n (by decide +kernel : am_dc 0 688 = some (.aload_n 0)) rfl rfl
theorem x_0_689   : am_E d 0 Q (689, L, st, g) ↔ am_K d 0 Q (am_ldI 691 L st g 5) := am_E_iload (by decide +kernel : am_dc 0 689 = some (.iload 5)) rfl
theorem x_0_691   : am_E d 0 Q (691, L, st, g) ↔ am_E d 0 Q (692, L, .int (1) :: st, g) := am_E_iconst (by decide +kernel : am_dc 0 691 = some (.iconst (1))) (by decide) rfl
theorem x_0_692   : am_E d 0 Q (692, L, .int y :: .int x :: st, g) ↔ am_E d 0 Q (693, L, .int (x + y) :: st, g) := am_E_iadd (by decide +kernel : am_dc 0 692 = some (.iadd)) rfl
theorem x_0_693   : am_E d 0 Q (693, L, .int x :: .ref a :: st, g) ↔ am_kv d 0 Q 694 L st g (am_iat .iaload g a x) := am_E_iaload (by decide +kernel : am_dc 0 693 = some (.iaload)) rfl
theorem x_0_694   : am_E d 0 Q (694, L, st, g) ↔ am_K d 0 Q (am_ldA 695 L st g 3) := am_E_aload_n (by decide +kernel : am_dc 0 694 = some (.aload_n 3)) rfl rfl
theorem x_0_695  : am_E d 0 Q (695, L, st, g) ↔ am_K d 0 Q (am_S 0 (.invokestatic 134) 695 L st g) := am_E_x (by decide +kernel : am_dc 0 695 = some (.invokestatic 134))
theorem x_0_698   : am_E d 0 Q (698, L, st, g) ↔ am_K d 0 Q (am_stI 700 L st g 6) := am_E_istore (by decide +kernel : am_dc 0 698 = some (.istore 6)) rfl
theorem x_0_700   : am_E d 0 Q (700, L, st, g) ↔ am_K d 0 Q (am_ldA 701 L st g 2) := am_E_aload_n (by decide +kernel : am_dc 0 700 = some (.aload_n 2)) rfl rfl
theorem x_0_701   : am_E d 0 Q (701, L, st, g) ↔ am_K d 0 Q (am_ldA 702 L st g 0) := am_E_aload_n (by decide +kernel : am_dc 0 701 = some (.aload_n 0)) rfl rfl
theorem x_0_702   : am_E d 0 Q (702, L, st, g) ↔ am_K d 0 Q (am_ldI 704 L st g 5) := am_E_iload (by decide +kernel : am_dc 0 702 = some (.iload 5)) rfl
theorem x_0_704   : am_E d 0 Q (704, L, st, g) ↔ am_E d 0 Q (705, L, .int (1) :: st, g) := am_E_iconst (by decide +kernel : am_dc 0 704 = some (.iconst (1))) (by decide) rfl
theorem x_0_705   : am_E d 0 Q (705, L, .int y :: .int x :: st, g) ↔ am_E d 0 Q (706, L, .int (x + y) :: st, g) := am_E_iadd (by decide +kernel : am_dc 0 705 = some (.iadd)) rfl
theorem x_0_706   : am_E d 0 Q (706, L, .int x :: .ref a :: st, g) ↔ am_kv d 0 Q 707 L st g (am_iat .iaload g a x) := am_E_iaload (by decide +kernel : am_dc 0 706 = some (.iaload)) rfl
theorem x_0_707  : am_E d 0 Q (707, L, st, g) ↔ am_K d 0 Q (am_S 0 (.invokevirtual 136) 707 L st g) := am_E_x (by decide +kernel : am_dc 0 707 = some (.invokevirtual 136))
theorem x_0_710   : am_E d 0 Q (710, L, st, g) ↔ am_K d 0 Q (am_stI 712 L st g 7) := am_E_istore (by decide +kernel : am_dc 0 710 = some (.istore 7)) rfl
theorem x_0_712   : am_E d 0 Q (712, L, st, g) ↔ am_K d 0 Q (am_ldA 713 L st g 2) := am_E_aload_n (by decide +kernel : am_dc 0 712 = some (.aload_n 2)) rfl rfl
theorem x_0_713  : am_E d 0 Q (713, L, st, g) ↔ am_K d 0 Q (am_S 0 (.invokevirtual 100) 713 L st g) := am_E_x (by decide +kernel : am_dc 0 713 = some (.invokevirtual 100))
theorem x_0_716   : am_E d 0 Q (716, L, st, g) ↔ am_K d 0 Q (am_ldI 718 L st g 6) := am_E_iload (by decide +kernel : am_dc 0 716 = some (.iload 6)) rfl
theorem x_0_718   : am_E d 0 Q (718, L, .int y :: .int x :: st, g) ↔ am_E d 0 Q (am_cmp .eq x y 723 721, L, st, g) := am_E_ic (by decide +kernel : am_dc 0 718 = some (.if_icmp .eq (5))) rfl rfl
theorem x_0_721   : am_E d 0 Q (721, L, st, g) ↔ am_E d 0 Q (722, L, .int (0) :: st, g) := am_E_iconst (by decide +kernel : am_dc 0 721 = some (.iconst (0))) (by decide) rfl
theorem x_0_722  : am_E d 0 Q (722, L, [.int x], g) ↔ if am_ok (FieldType.boolean) (.int x) = true then Q (.inl (some (.int x))) g else False := am_E_ireturn (by decide +kernel : am_dc 0 722 = some (.ireturn)) (by decide +kernel)
theorem x_0_723   : am_E d 0 Q (723, L, st, g) ↔ am_K d 0 Q (am_ldI 725 L st g 6) := am_E_iload (by decide +kernel : am_dc 0 723 = some (.iload 6)) rfl
theorem x_0_725   : am_E d 0 Q (725, L, .int x :: st, g) ↔ am_E d 0 Q (am_cmp .ne x 0 747 728, L, st, g) := am_E_if (by decide +kernel : am_dc 0 725 = some (.ifCond .ne (22))) rfl rfl
theorem x_0_728   : am_E d 0 Q (728, L, st, g) ↔ am_K d 0 Q (am_ldA 729 L st g 3) := am_E_aload_n (by decide +kernel : am_dc 0 728 = some (.aload_n 3)) rfl rfl
theorem x_0_729   : am_E d 0 Q (729, L, st, g) ↔ am_E d 0 Q (730, L, .int (0) :: st, g) := am_E_iconst (by decide +kernel : am_dc 0 729 = some (.iconst (0))) (by decide) rfl
theorem x_0_730   : am_E d 0 Q (730, L, .int x :: .ref a :: st, g) ↔ am_kv d 0 Q 731 L st g (am_iat .laload g a x) := am_E_laload (by decide +kernel : am_dc 0 730 = some (.laload)) rfl
theorem x_0_731   : am_E d 0 Q (731, L, st, g) ↔ am_K d 0 Q (am_ldI 733 L st g 7) := am_E_iload (by decide +kernel : am_dc 0 731 = some (.iload 7)) rfl
theorem x_0_733   : am_E d 0 Q (733, L, .int x :: st, g) ↔ am_E d 0 Q (am_cmp .eq x 0 740 736, L, st, g) := am_E_if (by decide +kernel : am_dc 0 733 = some (.ifCond .eq (7))) rfl rfl
theorem x_0_736   : am_E d 0 Q (736, L, st, g) ↔ am_E d 0 Q (737, L, .long (1) :: st, g) := am_E_lconst (by decide +kernel : am_dc 0 736 = some (.lconst 1)) (by decide) rfl
theorem x_0_737   : am_E d 0 Q (737, L, st, g) ↔ am_E d 0 Q (741, L, st, g) := am_E_gt (by decide +kernel : am_dc 0 737 = some (.goto (4))) rfl rfl
theorem x_0_740   : am_E d 0 Q (740, L, st, g) ↔ am_E d 0 Q (741, L, .long (0) :: st, g) := am_E_lconst (by decide +kernel : am_dc 0 740 = some (.lconst 0)) (by decide) rfl
theorem x_0_741   : am_E d 0 Q (741, L, .long w :: .long u :: st, g) ↔ am_E d 0 Q (742, L, .int (lg_cmp u w) :: st, g) := am_E_lcmp (by decide +kernel : am_dc 0 741 = some (.lcmp)) rfl
theorem x_0_742   : am_E d 0 Q (742, L, .int x :: st, g) ↔ am_E d 0 Q (am_cmp .eq x 0 747 745, L, st, g) := am_E_if (by decide +kernel : am_dc 0 742 = some (.ifCond .eq (5))) rfl rfl
theorem x_0_745   : am_E d 0 Q (745, L, st, g) ↔ am_E d 0 Q (746, L, .int (0) :: st, g) := am_E_iconst (by decide +kernel : am_dc 0 745 = some (.iconst (0))) (by decide) rfl
theorem x_0_746  : am_E d 0 Q (746, L, [.int x], g) ↔ if am_ok (FieldType.boolean) (.int x) = true then Q (.inl (some (.int x))) g else False := am_E_ireturn (by decide +kernel : am_dc 0 746 = some (.ireturn)) (by decide +kernel)
theorem x_0_747   : am_E d 0 Q (747, L, st, g) ↔ am_E d 0 Q (1529, L, st, g) := am_E_gt (by decide +kernel : am_dc 0 747 = some (.goto (782))) rfl rfl
theorem x_0_750   : am_E d 0 Q (750, L, st, g) ↔ am_K d 0 Q (am_ldA 751 L st g 1) := am_E_aload_n (by decide +kernel : am_dc 0 750 = some (.aload_n 1)) rfl rfl
theorem x_0_751   : am_E d 0 Q (751, L, st, g) ↔ am_K d 0 Q (am_ldA 752 L st g 0) := am_E_aload_n (by decide +kernel : am_dc 0 751 = some (.aload_n 0)) rfl rfl
theorem x_0_752   : am_E d 0 Q (752, L, st, g) ↔ am_K d 0 Q (am_ldI 754 L st g 5) := am_E_iload (by decide +kernel : am_dc 0 752 = some (.iload 5)) rfl
theorem x_0_754   : am_E d 0 Q (754, L, st, g) ↔ am_E d 0 Q (755, L, .int (1) :: st, g) := am_E_iconst (by decide +kernel : am_dc 0 754 = some (.iconst (1))) (by decide) rfl
theorem x_0_755   : am_E d 0 Q (755, L, .int y :: .int x :: st, g) ↔ am_E d 0 Q (756, L, .int (x + y) :: st, g) := am_E_iadd (by decide +kernel : am_dc 0 755 = some (.iadd)) rfl
theorem x_0_756   : am_E d 0 Q (756, L, .int x :: .ref a :: st, g) ↔ am_kv d 0 Q 757 L st g (am_iat .iaload g a x) := am_E_iaload (by decide +kernel : am_dc 0 756 = some (.iaload)) rfl
theorem x_0_757   : am_E d 0 Q (757, L, st, g) ↔ am_K d 0 Q (am_ldA 758 L st g 3) := am_E_aload_n (by decide +kernel : am_dc 0 757 = some (.aload_n 3)) rfl rfl
theorem x_0_758  : am_E d 0 Q (758, L, st, g) ↔ am_K d 0 Q (am_S 0 (.invokestatic 137) 758 L st g) := am_E_x (by decide +kernel : am_dc 0 758 = some (.invokestatic 137))
theorem x_0_761   : am_E d 0 Q (761, L, st, g) ↔ am_K d 0 Q (am_stI 763 L st g 6) := am_E_istore (by decide +kernel : am_dc 0 761 = some (.istore 6)) rfl
theorem x_0_763   : am_E d 0 Q (763, L, st, g) ↔ am_K d 0 Q (am_ldA 764 L st g 2) := am_E_aload_n (by decide +kernel : am_dc 0 763 = some (.aload_n 2)) rfl rfl
theorem x_0_764   : am_E d 0 Q (764, L, st, g) ↔ am_K d 0 Q (am_ldA 765 L st g 0) := am_E_aload_n (by decide +kernel : am_dc 0 764 = some (.aload_n 0)) rfl rfl
theorem x_0_765   : am_E d 0 Q (765, L, st, g) ↔ am_K d 0 Q (am_ldI 767 L st g 5) := am_E_iload (by decide +kernel : am_dc 0 765 = some (.iload 5)) rfl
theorem x_0_767   : am_E d 0 Q (767, L, st, g) ↔ am_E d 0 Q (768, L, .int (1) :: st, g) := am_E_iconst (by decide +kernel : am_dc 0 767 = some (.iconst (1))) (by decide) rfl
theorem x_0_768   : am_E d 0 Q (768, L, .int y :: .int x :: st, g) ↔ am_E d 0 Q (769, L, .int (x + y) :: st, g) := am_E_iadd (by decide +kernel : am_dc 0 768 = some (.iadd)) rfl
theorem x_0_769   : am_E d 0 Q (769, L, .int x :: .ref a :: st, g) ↔ am_kv d 0 Q 770 L st g (am_iat .iaload g a x) := am_E_iaload (by decide +kernel : am_dc 0 769 = some (.iaload)) rfl
theorem x_0_770  : am_E d 0 Q (770, L, st, g) ↔ am_K d 0 Q (am_S 0 (.invokevirtual 139) 770 L st g) := am_E_x (by decide +kernel : am_dc 0 770 = some (.invokevirtual 139))
theorem x_0_773   : am_E d 0 Q (773, L, st, g) ↔ am_K d 0 Q (am_stI 775 L st g 7) := am_E_istore (by decide +kernel : am_dc 0 773 = some (.istore 7)) rfl
theorem x_0_775   : am_E d 0 Q (775, L, st, g) ↔ am_K d 0 Q (am_ldA 776 L st g 2) := am_E_aload_n (by decide +kernel : am_dc 0 775 = some (.aload_n 2)) rfl rfl
theorem x_0_776  : am_E d 0 Q (776, L, st, g) ↔ am_K d 0 Q (am_S 0 (.invokevirtual 100) 776 L st g) := am_E_x (by decide +kernel : am_dc 0 776 = some (.invokevirtual 100))
theorem x_0_779   : am_E d 0 Q (779, L, st, g) ↔ am_K d 0 Q (am_ldI 781 L st g 6) := am_E_iload (by decide +kernel : am_dc 0 779 = some (.iload 6)) rfl
theorem x_0_781   : am_E d 0 Q (781, L, .int y :: .int x :: st, g) ↔ am_E d 0 Q (am_cmp .eq x y 786 784, L, st, g) := am_E_ic (by decide +kernel : am_dc 0 781 = some (.if_icmp .eq (5))) rfl rfl
theorem x_0_784   : am_E d 0 Q (784, L, st, g) ↔ am_E d 0 Q (785, L, .int (0) :: st, g) := am_E_iconst (by decide +kernel : am_dc 0 784 = some (.iconst (0))) (by decide) rfl
theorem x_0_785  : am_E d 0 Q (785, L, [.int x], g) ↔ if am_ok (FieldType.boolean) (.int x) = true then Q (.inl (some (.int x))) g else False := am_E_ireturn (by decide +kernel : am_dc 0 785 = some (.ireturn)) (by decide +kernel)
theorem x_0_786   : am_E d 0 Q (786, L, st, g) ↔ am_K d 0 Q (am_ldI 788 L st g 6) := am_E_iload (by decide +kernel : am_dc 0 786 = some (.iload 6)) rfl
theorem x_0_788   : am_E d 0 Q (788, L, .int x :: st, g) ↔ am_E d 0 Q (am_cmp .ne x 0 803 791, L, st, g) := am_E_if (by decide +kernel : am_dc 0 788 = some (.ifCond .ne (15))) rfl rfl
theorem x_0_791   : am_E d 0 Q (791, L, st, g) ↔ am_K d 0 Q (am_ldA 792 L st g 3) := am_E_aload_n (by decide +kernel : am_dc 0 791 = some (.aload_n 3)) rfl rfl
theorem x_0_792   : am_E d 0 Q (792, L, st, g) ↔ am_E d 0 Q (793, L, .int (0) :: st, g) := am_E_iconst (by decide +kernel : am_dc 0 792 = some (.iconst (0))) (by decide) rfl
theorem x_0_793   : am_E d 0 Q (793, L, .int x :: .ref a :: st, g) ↔ am_kv d 0 Q 794 L st g (am_iat .laload g a x) := am_E_laload (by decide +kernel : am_dc 0 793 = some (.laload)) rfl
theorem x_0_794   : am_E d 0 Q (794, L, st, g) ↔ am_K d 0 Q (am_ldI 796 L st g 7) := am_E_iload (by decide +kernel : am_dc 0 794 = some (.iload 7)) rfl
theorem x_0_796   : am_E d 0 Q (796, L, .int x :: st, g) ↔ am_E d 0 Q (797, L, .long x.toInt64 :: st, g) := am_E_i2l (by decide +kernel : am_dc 0 796 = some (.i2l)) rfl
theorem x_0_797   : am_E d 0 Q (797, L, .long w :: .long u :: st, g) ↔ am_E d 0 Q (798, L, .int (lg_cmp u w) :: st, g) := am_E_lcmp (by decide +kernel : am_dc 0 797 = some (.lcmp)) rfl
theorem x_0_798   : am_E d 0 Q (798, L, .int x :: st, g) ↔ am_E d 0 Q (am_cmp .eq x 0 803 801, L, st, g) := am_E_if (by decide +kernel : am_dc 0 798 = some (.ifCond .eq (5))) rfl rfl
theorem x_0_801   : am_E d 0 Q (801, L, st, g) ↔ am_E d 0 Q (802, L, .int (0) :: st, g) := am_E_iconst (by decide +kernel : am_dc 0 801 = some (.iconst (0))) (by decide) rfl
theorem x_0_802  : am_E d 0 Q (802, L, [.int x], g) ↔ if am_ok (FieldType.boolean) (.int x) = true then Q (.inl (some (.int x))) g else False := am_E_ireturn (by decide +kernel : am_dc 0 802 = some (.ireturn)) (by decide +kernel)
theorem x_0_803   : am_E d 0 Q (803, L, st, g) ↔ am_E d 0 Q (1529, L, st, g) := am_E_gt (by decide +kernel : am_dc 0 803 = some (.goto (726))) rfl rfl
theorem x_0_806   : am_E d 0 Q (806, L, st, g) ↔ am_K d 0 Q (am_ldA 807 L st g 1) := am_E_aload_n (by decide +kernel : am_dc 0 806 = some (.aload_n 1)) rfl rfl
theorem x_0_807   : am_E d 0 Q (807, L, st, g) ↔ am_K d 0 Q (am_ldA 808 L st g 0) := am_E_aload_n (by decide +kernel : am_dc 0 807 = some (.aload_n 0)) rfl rfl
theorem x_0_808   : am_E d 0 Q (808, L, st, g) ↔ am_K d 0 Q (am_ldI 810 L st g 5) := am_E_iload (by decide +kernel : am_dc 0 808 = some (.iload 5)) rfl
theorem x_0_810   : am_E d 0 Q (810, L, st, g) ↔ am_E d 0 Q (811, L, .int (1) :: st, g) := am_E_iconst (by decide +kernel : am_dc 0 810 = some (.iconst (1))) (by decide) rfl
theorem x_0_811   : am_E d 0 Q (811, L, .int y :: .int x :: st, g) ↔ am_E d 0 Q (812, L, .int (x + y) :: st, g) := am_E_iadd (by decide +kernel : am_dc 0 811 = some (.iadd)) rfl
theorem x_0_812   : am_E d 0 Q (812, L, .int x :: .ref a :: st, g) ↔ am_kv d 0 Q 813 L st g (am_iat .iaload g a x) := am_E_iaload (by decide +kernel : am_dc 0 812 = some (.iaload)) rfl
theorem x_0_813   : am_E d 0 Q (813, L, st, g) ↔ am_K d 0 Q (am_ldA 814 L st g 3) := am_E_aload_n (by decide +kernel : am_dc 0 813 = some (.aload_n 3)) rfl rfl
theorem x_0_814  : am_E d 0 Q (814, L, st, g) ↔ am_K d 0 Q (am_S 0 (.invokestatic 140) 814 L st g) := am_E_x (by decide +kernel : am_dc 0 814 = some (.invokestatic 140))
theorem x_0_817   : am_E d 0 Q (817, L, st, g) ↔ am_K d 0 Q (am_stI 819 L st g 6) := am_E_istore (by decide +kernel : am_dc 0 817 = some (.istore 6)) rfl
theorem x_0_819   : am_E d 0 Q (819, L, st, g) ↔ am_K d 0 Q (am_ldA 820 L st g 2) := am_E_aload_n (by decide +kernel : am_dc 0 819 = some (.aload_n 2)) rfl rfl
theorem x_0_820   : am_E d 0 Q (820, L, st, g) ↔ am_K d 0 Q (am_ldA 821 L st g 0) := am_E_aload_n (by decide +kernel : am_dc 0 820 = some (.aload_n 0)) rfl rfl
theorem x_0_821   : am_E d 0 Q (821, L, st, g) ↔ am_K d 0 Q (am_ldI 823 L st g 5) := am_E_iload (by decide +kernel : am_dc 0 821 = some (.iload 5)) rfl
theorem x_0_823   : am_E d 0 Q (823, L, st, g) ↔ am_E d 0 Q (824, L, .int (1) :: st, g) := am_E_iconst (by decide +kernel : am_dc 0 823 = some (.iconst (1))) (by decide) rfl
theorem x_0_824   : am_E d 0 Q (824, L, .int y :: .int x :: st, g) ↔ am_E d 0 Q (825, L, .int (x + y) :: st, g) := am_E_iadd (by decide +kernel : am_dc 0 824 = some (.iadd)) rfl
theorem x_0_825   : am_E d 0 Q (825, L, .int x :: .ref a :: st, g) ↔ am_kv d 0 Q 826 L st g (am_iat .iaload g a x) := am_E_iaload (by decide +kernel : am_dc 0 825 = some (.iaload)) rfl
theorem x_0_826  : am_E d 0 Q (826, L, st, g) ↔ am_K d 0 Q (am_S 0 (.invokevirtual 142) 826 L st g) := am_E_x (by decide +kernel : am_dc 0 826 = some (.invokevirtual 142))
theorem x_0_829   : am_E d 0 Q (829, L, st, g) ↔ am_K d 0 Q (am_stI 831 L st g 7) := am_E_istore (by decide +kernel : am_dc 0 829 = some (.istore 7)) rfl
theorem x_0_831   : am_E d 0 Q (831, L, st, g) ↔ am_K d 0 Q (am_ldA 832 L st g 2) := am_E_aload_n (by decide +kernel : am_dc 0 831 = some (.aload_n 2)) rfl rfl
theorem x_0_832  : am_E d 0 Q (832, L, st, g) ↔ am_K d 0 Q (am_S 0 (.invokevirtual 100) 832 L st g) := am_E_x (by decide +kernel : am_dc 0 832 = some (.invokevirtual 100))
theorem x_0_835   : am_E d 0 Q (835, L, st, g) ↔ am_K d 0 Q (am_ldI 837 L st g 6) := am_E_iload (by decide +kernel : am_dc 0 835 = some (.iload 6)) rfl
theorem x_0_837   : am_E d 0 Q (837, L, .int y :: .int x :: st, g) ↔ am_E d 0 Q (am_cmp .eq x y 842 840, L, st, g) := am_E_ic (by decide +kernel : am_dc 0 837 = some (.if_icmp .eq (5))) rfl rfl
theorem x_0_840   : am_E d 0 Q (840, L, st, g) ↔ am_E d 0 Q (841, L, .int (0) :: st, g) := am_E_iconst (by decide +kernel : am_dc 0 840 = some (.iconst (0))) (by decide) rfl
theorem x_0_841  : am_E d 0 Q (841, L, [.int x], g) ↔ if am_ok (FieldType.boolean) (.int x) = true then Q (.inl (some (.int x))) g else False := am_E_ireturn (by decide +kernel : am_dc 0 841 = some (.ireturn)) (by decide +kernel)
theorem x_0_842   : am_E d 0 Q (842, L, st, g) ↔ am_K d 0 Q (am_ldI 844 L st g 6) := am_E_iload (by decide +kernel : am_dc 0 842 = some (.iload 6)) rfl
theorem x_0_844   : am_E d 0 Q (844, L, .int x :: st, g) ↔ am_E d 0 Q (am_cmp .ne x 0 859 847, L, st, g) := am_E_if (by decide +kernel : am_dc 0 844 = some (.ifCond .ne (15))) rfl rfl
theorem x_0_847   : am_E d 0 Q (847, L, st, g) ↔ am_K d 0 Q (am_ldA 848 L st g 3) := am_E_aload_n (by decide +kernel : am_dc 0 847 = some (.aload_n 3)) rfl rfl
theorem x_0_848   : am_E d 0 Q (848, L, st, g) ↔ am_E d 0 Q (849, L, .int (0) :: st, g) := am_E_iconst (by decide +kernel : am_dc 0 848 = some (.iconst (0))) (by decide) rfl
theorem x_0_849   : am_E d 0 Q (849, L, .int x :: .ref a :: st, g) ↔ am_kv d 0 Q 850 L st g (am_iat .laload g a x) := am_E_laload (by decide +kernel : am_dc 0 849 = some (.laload)) rfl
theorem x_0_850   : am_E d 0 Q (850, L, st, g) ↔ am_K d 0 Q (am_ldI 852 L st g 7) := am_E_iload (by decide +kernel : am_dc 0 850 = some (.iload 7)) rfl
theorem x_0_852   : am_E d 0 Q (852, L, .int x :: st, g) ↔ am_E d 0 Q (853, L, .long x.toInt64 :: st, g) := am_E_i2l (by decide +kernel : am_dc 0 852 = some (.i2l)) rfl
theorem x_0_853   : am_E d 0 Q (853, L, .long w :: .long u :: st, g) ↔ am_E d 0 Q (854, L, .int (lg_cmp u w) :: st, g) := am_E_lcmp (by decide +kernel : am_dc 0 853 = some (.lcmp)) rfl
theorem x_0_854   : am_E d 0 Q (854, L, .int x :: st, g) ↔ am_E d 0 Q (am_cmp .eq x 0 859 857, L, st, g) := am_E_if (by decide +kernel : am_dc 0 854 = some (.ifCond .eq (5))) rfl rfl
theorem x_0_857   : am_E d 0 Q (857, L, st, g) ↔ am_E d 0 Q (858, L, .int (0) :: st, g) := am_E_iconst (by decide +kernel : am_dc 0 857 = some (.iconst (0))) (by decide) rfl
theorem x_0_858  : am_E d 0 Q (858, L, [.int x], g) ↔ if am_ok (FieldType.boolean) (.int x) = true then Q (.inl (some (.int x))) g else False := am_E_ireturn (by decide +kernel : am_dc 0 858 = some (.ireturn)) (by decide +kernel)
theorem x_0_859   : am_E d 0 Q (859, L, st, g) ↔ am_E d 0 Q (1529, L, st, g) := am_E_gt (by decide +kernel : am_dc 0 859 = some (.goto (670))) rfl rfl
theorem x_0_862   : am_E d 0 Q (862, L, st, g) ↔ am_K d 0 Q (am_ldA 863 L st g 1) := am_E_aload_n (by decide +kernel : am_dc 0 862 = some (.aload_n 1)) rfl rfl
theorem x_0_863   : am_E d 0 Q (863, L, st, g) ↔ am_K d 0 Q (am_ldA 864 L st g 0) := am_E_aload_n (by decide +kernel : am_dc 0 863 = some (.aload_n 0)) rfl rfl
theorem x_0_864   : am_E d 0 Q (864, L, st, g) ↔ am_K d 0 Q (am_ldI 866 L st g 5) := am_E_iload (by decide +kernel : am_dc 0 864 = some (.iload 5)) rfl
theorem x_0_866   : am_E d 0 Q (866, L, st, g) ↔ am_E d 0 Q (867, L, .int (1) :: st, g) := am_E_iconst (by decide +kernel : am_dc 0 866 = some (.iconst (1))) (by decide) rfl
theorem x_0_867   : am_E d 0 Q (867, L, .int y :: .int x :: st, g) ↔ am_E d 0 Q (868, L, .int (x + y) :: st, g) := am_E_iadd (by decide +kernel : am_dc 0 867 = some (.iadd)) rfl
theorem x_0_868   : am_E d 0 Q (868, L, .int x :: .ref a :: st, g) ↔ am_kv d 0 Q 869 L st g (am_iat .iaload g a x) := am_E_iaload (by decide +kernel : am_dc 0 868 = some (.iaload)) rfl
theorem x_0_869   : am_E d 0 Q (869, L, st, g) ↔ am_K d 0 Q (am_ldA 870 L st g 0) := am_E_aload_n (by decide +kernel : am_dc 0 869 = some (.aload_n 0)) rfl rfl
theorem x_0_870   : am_E d 0 Q (870, L, st, g) ↔ am_K d 0 Q (am_ldI 872 L st g 5) := am_E_iload (by decide +kernel : am_dc 0 870 = some (.iload 5)) rfl
theorem x_0_872   : am_E d 0 Q (872, L, st, g) ↔ am_E d 0 Q (873, L, .int (2) :: st, g) := am_E_iconst (by decide +kernel : am_dc 0 872 = some (.iconst (2))) (by decide) rfl
theorem x_0_873   : am_E d 0 Q (873, L, .int y :: .int x :: st, g) ↔ am_E d 0 Q (874, L, .int (x + y) :: st, g) := am_E_iadd (by decide +kernel : am_dc 0 873 = some (.iadd)) rfl
theorem x_0_874   : am_E d 0 Q (874, L, .int x :: .ref a :: st, g) ↔ am_kv d 0 Q 875 L st g (am_iat .iaload g a x) := am_E_iaload (by decide +kernel : am_dc 0 874 = some (.iaload)) rfl
theorem x_0_875   : am_E d 0 Q (875, L, st, g) ↔ am_K d 0 Q (am_ldA 876 L st g 3) := am_E_aload_n (by decide +kernel : am_dc 0 875 = some (.aload_n 3)) rfl rfl
theorem x_0_876  : am_E d 0 Q (876, L, st, g) ↔ am_K d 0 Q (am_S 0 (.invokestatic 143) 876 L st g) := am_E_x (by decide +kernel : am_dc 0 876 = some (.invokestatic 143))
theorem x_0_879   : am_E d 0 Q (879, L, st, g) ↔ am_K d 0 Q (am_stI 881 L st g 6) := am_E_istore (by decide +kernel : am_dc 0 879 = some (.istore 6)) rfl
theorem x_0_881   : am_E d 0 Q (881, L, st, g) ↔ am_K d 0 Q (am_ldA 882 L st g 2) := am_E_aload_n (by decide +kernel : am_dc 0 881 = some (.aload_n 2)) rfl rfl
theorem x_0_882   : am_E d 0 Q (882, L, st, g) ↔ am_K d 0 Q (am_ldA 883 L st g 0) := am_E_aload_n (by decide +kernel : am_dc 0 882 = some (.aload_n 0)) rfl rfl
theorem x_0_883   : am_E d 0 Q (883, L, st, g) ↔ am_K d 0 Q (am_ldI 885 L st g 5) := am_E_iload (by decide +kernel : am_dc 0 883 = some (.iload 5)) rfl
theorem x_0_885   : am_E d 0 Q (885, L, st, g) ↔ am_E d 0 Q (886, L, .int (1) :: st, g) := am_E_iconst (by decide +kernel : am_dc 0 885 = some (.iconst (1))) (by decide) rfl
theorem x_0_886   : am_E d 0 Q (886, L, .int y :: .int x :: st, g) ↔ am_E d 0 Q (887, L, .int (x + y) :: st, g) := am_E_iadd (by decide +kernel : am_dc 0 886 = some (.iadd)) rfl
theorem x_0_887   : am_E d 0 Q (887, L, .int x :: .ref a :: st, g) ↔ am_kv d 0 Q 888 L st g (am_iat .iaload g a x) := am_E_iaload (by decide +kernel : am_dc 0 887 = some (.iaload)) rfl
theorem x_0_888   : am_E d 0 Q (888, L, st, g) ↔ am_K d 0 Q (am_ldA 889 L st g 0) := am_E_aload_n (by decide +kernel : am_dc 0 888 = some (.aload_n 0)) rfl rfl
theorem x_0_889   : am_E d 0 Q (889, L, st, g) ↔ am_K d 0 Q (am_ldI 891 L st g 5) := am_E_iload (by decide +kernel : am_dc 0 889 = some (.iload 5)) rfl
theorem x_0_891   : am_E d 0 Q (891, L, st, g) ↔ am_E d 0 Q (892, L, .int (2) :: st, g) := am_E_iconst (by decide +kernel : am_dc 0 891 = some (.iconst (2))) (by decide) rfl
theorem x_0_892   : am_E d 0 Q (892, L, .int y :: .int x :: st, g) ↔ am_E d 0 Q (893, L, .int (x + y) :: st, g) := am_E_iadd (by decide +kernel : am_dc 0 892 = some (.iadd)) rfl
theorem x_0_893   : am_E d 0 Q (893, L, .int x :: .ref a :: st, g) ↔ am_kv d 0 Q 894 L st g (am_iat .iaload g a x) := am_E_iaload (by decide +kernel : am_dc 0 893 = some (.iaload)) rfl
theorem x_0_894  : am_E d 0 Q (894, L, st, g) ↔ am_K d 0 Q (am_S 0 (.invokevirtual 145) 894 L st g) := am_E_x (by decide +kernel : am_dc 0 894 = some (.invokevirtual 145))
theorem x_0_897   : am_E d 0 Q (897, L, st, g) ↔ am_K d 0 Q (am_stI 899 L st g 7) := am_E_istore (by decide +kernel : am_dc 0 897 = some (.istore 7)) rfl
theorem x_0_899   : am_E d 0 Q (899, L, st, g) ↔ am_K d 0 Q (am_ldA 900 L st g 2) := am_E_aload_n (by decide +kernel : am_dc 0 899 = some (.aload_n 2)) rfl rfl
theorem x_0_900  : am_E d 0 Q (900, L, st, g) ↔ am_K d 0 Q (am_S 0 (.invokevirtual 100) 900 L st g) := am_E_x (by decide +kernel : am_dc 0 900 = some (.invokevirtual 100))
theorem x_0_903   : am_E d 0 Q (903, L, st, g) ↔ am_K d 0 Q (am_ldI 905 L st g 6) := am_E_iload (by decide +kernel : am_dc 0 903 = some (.iload 6)) rfl
theorem x_0_905   : am_E d 0 Q (905, L, .int y :: .int x :: st, g) ↔ am_E d 0 Q (am_cmp .eq x y 910 908, L, st, g) := am_E_ic (by decide +kernel : am_dc 0 905 = some (.if_icmp .eq (5))) rfl rfl
theorem x_0_908   : am_E d 0 Q (908, L, st, g) ↔ am_E d 0 Q (909, L, .int (0) :: st, g) := am_E_iconst (by decide +kernel : am_dc 0 908 = some (.iconst (0))) (by decide) rfl
theorem x_0_909  : am_E d 0 Q (909, L, [.int x], g) ↔ if am_ok (FieldType.boolean) (.int x) = true then Q (.inl (some (.int x))) g else False := am_E_ireturn (by decide +kernel : am_dc 0 909 = some (.ireturn)) (by decide +kernel)
theorem x_0_910   : am_E d 0 Q (910, L, st, g) ↔ am_K d 0 Q (am_ldI 912 L st g 6) := am_E_iload (by decide +kernel : am_dc 0 910 = some (.iload 6)) rfl
theorem x_0_912   : am_E d 0 Q (912, L, .int x :: st, g) ↔ am_E d 0 Q (am_cmp .ne x 0 927 915, L, st, g) := am_E_if (by decide +kernel : am_dc 0 912 = some (.ifCond .ne (15))) rfl rfl
theorem x_0_915   : am_E d 0 Q (915, L, st, g) ↔ am_K d 0 Q (am_ldA 916 L st g 3) := am_E_aload_n (by decide +kernel : am_dc 0 915 = some (.aload_n 3)) rfl rfl
theorem x_0_916   : am_E d 0 Q (916, L, st, g) ↔ am_E d 0 Q (917, L, .int (0) :: st, g) := am_E_iconst (by decide +kernel : am_dc 0 916 = some (.iconst (0))) (by decide) rfl
theorem x_0_917   : am_E d 0 Q (917, L, .int x :: .ref a :: st, g) ↔ am_kv d 0 Q 918 L st g (am_iat .laload g a x) := am_E_laload (by decide +kernel : am_dc 0 917 = some (.laload)) rfl
theorem x_0_918   : am_E d 0 Q (918, L, st, g) ↔ am_K d 0 Q (am_ldI 920 L st g 7) := am_E_iload (by decide +kernel : am_dc 0 918 = some (.iload 7)) rfl
theorem x_0_920   : am_E d 0 Q (920, L, .int x :: st, g) ↔ am_E d 0 Q (921, L, .long x.toInt64 :: st, g) := am_E_i2l (by decide +kernel : am_dc 0 920 = some (.i2l)) rfl
theorem x_0_921   : am_E d 0 Q (921, L, .long w :: .long u :: st, g) ↔ am_E d 0 Q (922, L, .int (lg_cmp u w) :: st, g) := am_E_lcmp (by decide +kernel : am_dc 0 921 = some (.lcmp)) rfl
theorem x_0_922   : am_E d 0 Q (922, L, .int x :: st, g) ↔ am_E d 0 Q (am_cmp .eq x 0 927 925, L, st, g) := am_E_if (by decide +kernel : am_dc 0 922 = some (.ifCond .eq (5))) rfl rfl
theorem x_0_925   : am_E d 0 Q (925, L, st, g) ↔ am_E d 0 Q (926, L, .int (0) :: st, g) := am_E_iconst (by decide +kernel : am_dc 0 925 = some (.iconst (0))) (by decide) rfl
theorem x_0_926  : am_E d 0 Q (926, L, [.int x], g) ↔ if am_ok (FieldType.boolean) (.int x) = true then Q (.inl (some (.int x))) g else False := am_E_ireturn (by decide +kernel : am_dc 0 926 = some (.ireturn)) (by decide +kernel)
theorem x_0_927   : am_E d 0 Q (927, L, st, g) ↔ am_E d 0 Q (1529, L, st, g) := am_E_gt (by decide +kernel : am_dc 0 927 = some (.goto (602))) rfl rfl
theorem x_0_930   : am_E d 0 Q (930, L, st, g) ↔ am_K d 0 Q (am_ldA 931 L st g 1) := am_E_aload_n (by decide +kernel : am_dc 0 930 = some (.aload_n 1)) rfl rfl
theorem x_0_931  : am_E d 0 Q (931, L, st, g) ↔ am_K d 0 Q (am_S 0 (.invokevirtual 146) 931 L st g) := am_E_x (by decide +kernel : am_dc 0 931 = some (.invokevirtual 146))
theorem x_0_934   : am_E d 0 Q (934, L, st, g) ↔ am_K d 0 Q (am_ldA 935 L st g 2) := am_E_aload_n (by decide +kernel : am_dc 0 934 = some (.aload_n 2)) rfl rfl
theorem x_0_935  : am_E d 0 Q (935, L, st, g) ↔ am_K d 0 Q (am_S 0 (.invokevirtual 149) 935 L st g) := am_E_x (by decide +kernel : am_dc 0 935 = some (.invokevirtual 149))
theorem x_0_938   : am_E d 0 Q (938, L, .int y :: .int x :: st, g) ↔ am_E d 0 Q (am_cmp .eq x y 1529 941, L, st, g) := am_E_ic (by decide +kernel : am_dc 0 938 = some (.if_icmp .eq (591))) rfl rfl
theorem x_0_941   : am_E d 0 Q (941, L, st, g) ↔ am_E d 0 Q (942, L, .int (0) :: st, g) := am_E_iconst (by decide +kernel : am_dc 0 941 = some (.iconst (0))) (by decide) rfl
theorem x_0_942  : am_E d 0 Q (942, L, [.int x], g) ↔ if am_ok (FieldType.boolean) (.int x) = true then Q (.inl (some (.int x))) g else False := am_E_ireturn (by decide +kernel : am_dc 0 942 = some (.ireturn)) (by decide +kernel)
theorem x_0_943   : am_E d 0 Q (943, L, st, g) ↔ am_K d 0 Q (am_ldA 944 L st g 1) := am_E_aload_n (by decide +kernel : am_dc 0 943 = some (.aload_n 1)) rfl rfl
theorem x_0_944   : am_E d 0 Q (944, L, st, g) ↔ am_K d 0 Q (am_ldA 945 L st g 0) := am_E_aload_n (by decide +kernel : am_dc 0 944 = some (.aload_n 0)) rfl rfl
theorem x_0_945   : am_E d 0 Q (945, L, st, g) ↔ am_K d 0 Q (am_ldI 947 L st g 5) := am_E_iload (by decide +kernel : am_dc 0 945 = some (.iload 5)) rfl
theorem x_0_947   : am_E d 0 Q (947, L, st, g) ↔ am_E d 0 Q (948, L, .int (1) :: st, g) := am_E_iconst (by decide +kernel : am_dc 0 947 = some (.iconst (1))) (by decide) rfl
theorem x_0_948   : am_E d 0 Q (948, L, .int y :: .int x :: st, g) ↔ am_E d 0 Q (949, L, .int (x + y) :: st, g) := am_E_iadd (by decide +kernel : am_dc 0 948 = some (.iadd)) rfl
theorem x_0_949   : am_E d 0 Q (949, L, .int x :: .ref a :: st, g) ↔ am_kv d 0 Q 950 L st g (am_iat .iaload g a x) := am_E_iaload (by decide +kernel : am_dc 0 949 = some (.iaload)) rfl
theorem x_0_950   : am_E d 0 Q (950, L, st, g) ↔ am_K d 0 Q (am_ldA 951 L st g 3) := am_E_aload_n (by decide +kernel : am_dc 0 950 = some (.aload_n 3)) rfl rfl
theorem x_0_951  : am_E d 0 Q (951, L, st, g) ↔ am_K d 0 Q (am_S 0 (.invokestatic 150) 951 L st g) := am_E_x (by decide +kernel : am_dc 0 951 = some (.invokestatic 150))
theorem x_0_954   : am_E d 0 Q (954, L, st, g) ↔ am_K d 0 Q (am_stI 956 L st g 6) := am_E_istore (by decide +kernel : am_dc 0 954 = some (.istore 6)) rfl
theorem x_0_956   : am_E d 0 Q (956, L, st, g) ↔ am_K d 0 Q (am_ldA 957 L st g 2) := am_E_aload_n (by decide +kernel : am_dc 0 956 = some (.aload_n 2)) rfl rfl
theorem x_0_957   : am_E d 0 Q (957, L, st, g) ↔ am_K d 0 Q (am_ldA 958 L st g 0) := am_E_aload_n (by decide +kernel : am_dc 0 957 = some (.aload_n 0)) rfl rfl
theorem x_0_958   : am_E d 0 Q (958, L, st, g) ↔ am_K d 0 Q (am_ldI 960 L st g 5) := am_E_iload (by decide +kernel : am_dc 0 958 = some (.iload 5)) rfl
theorem x_0_960   : am_E d 0 Q (960, L, st, g) ↔ am_E d 0 Q (961, L, .int (1) :: st, g) := am_E_iconst (by decide +kernel : am_dc 0 960 = some (.iconst (1))) (by decide) rfl
theorem x_0_961   : am_E d 0 Q (961, L, .int y :: .int x :: st, g) ↔ am_E d 0 Q (962, L, .int (x + y) :: st, g) := am_E_iadd (by decide +kernel : am_dc 0 961 = some (.iadd)) rfl
theorem x_0_962   : am_E d 0 Q (962, L, .int x :: .ref a :: st, g) ↔ am_kv d 0 Q 963 L st g (am_iat .iaload g a x) := am_E_iaload (by decide +kernel : am_dc 0 962 = some (.iaload)) rfl
theorem x_0_963  : am_E d 0 Q (963, L, st, g) ↔ am_K d 0 Q (am_S 0 (.invokevirtual 152) 963 L st g) := am_E_x (by decide +kernel : am_dc 0 963 = some (.invokevirtual 152))
theorem x_0_966   : am_E d 0 Q (966, L, st, g) ↔ am_K d 0 Q (am_stI 968 L st g 7) := am_E_istore (by decide +kernel : am_dc 0 966 = some (.istore 7)) rfl
theorem x_0_968   : am_E d 0 Q (968, L, st, g) ↔ am_K d 0 Q (am_ldA 969 L st g 2) := am_E_aload_n (by decide +kernel : am_dc 0 968 = some (.aload_n 2)) rfl rfl
theorem x_0_969  : am_E d 0 Q (969, L, st, g) ↔ am_K d 0 Q (am_S 0 (.invokevirtual 100) 969 L st g) := am_E_x (by decide +kernel : am_dc 0 969 = some (.invokevirtual 100))
theorem x_0_972   : am_E d 0 Q (972, L, st, g) ↔ am_K d 0 Q (am_ldI 974 L st g 6) := am_E_iload (by decide +kernel : am_dc 0 972 = some (.iload 6)) rfl
theorem x_0_974   : am_E d 0 Q (974, L, .int y :: .int x :: st, g) ↔ am_E d 0 Q (am_cmp .eq x y 979 977, L, st, g) := am_E_ic (by decide +kernel : am_dc 0 974 = some (.if_icmp .eq (5))) rfl rfl
theorem x_0_977   : am_E d 0 Q (977, L, st, g) ↔ am_E d 0 Q (978, L, .int (0) :: st, g) := am_E_iconst (by decide +kernel : am_dc 0 977 = some (.iconst (0))) (by decide) rfl
theorem x_0_978  : am_E d 0 Q (978, L, [.int x], g) ↔ if am_ok (FieldType.boolean) (.int x) = true then Q (.inl (some (.int x))) g else False := am_E_ireturn (by decide +kernel : am_dc 0 978 = some (.ireturn)) (by decide +kernel)
theorem x_0_979   : am_E d 0 Q (979, L, st, g) ↔ am_K d 0 Q (am_ldI 981 L st g 6) := am_E_iload (by decide +kernel : am_dc 0 979 = some (.iload 6)) rfl
theorem x_0_981   : am_E d 0 Q (981, L, .int x :: st, g) ↔ am_E d 0 Q (am_cmp .ne x 0 996 984, L, st, g) := am_E_if (by decide +kernel : am_dc 0 981 = some (.ifCond .ne (15))) rfl rfl
theorem x_0_984   : am_E d 0 Q (984, L, st, g) ↔ am_K d 0 Q (am_ldA 985 L st g 3) := am_E_aload_n (by decide +kernel : am_dc 0 984 = some (.aload_n 3)) rfl rfl
theorem x_0_985   : am_E d 0 Q (985, L, st, g) ↔ am_E d 0 Q (986, L, .int (0) :: st, g) := am_E_iconst (by decide +kernel : am_dc 0 985 = some (.iconst (0))) (by decide) rfl
theorem x_0_986   : am_E d 0 Q (986, L, .int x :: .ref a :: st, g) ↔ am_kv d 0 Q 987 L st g (am_iat .laload g a x) := am_E_laload (by decide +kernel : am_dc 0 986 = some (.laload)) rfl
theorem x_0_987   : am_E d 0 Q (987, L, st, g) ↔ am_K d 0 Q (am_ldI 989 L st g 7) := am_E_iload (by decide +kernel : am_dc 0 987 = some (.iload 7)) rfl
theorem x_0_989   : am_E d 0 Q (989, L, .int x :: st, g) ↔ am_E d 0 Q (990, L, .long x.toInt64 :: st, g) := am_E_i2l (by decide +kernel : am_dc 0 989 = some (.i2l)) rfl
theorem x_0_990   : am_E d 0 Q (990, L, .long w :: .long u :: st, g) ↔ am_E d 0 Q (991, L, .int (lg_cmp u w) :: st, g) := am_E_lcmp (by decide +kernel : am_dc 0 990 = some (.lcmp)) rfl
theorem x_0_991   : am_E d 0 Q (991, L, .int x :: st, g) ↔ am_E d 0 Q (am_cmp .eq x 0 996 994, L, st, g) := am_E_if (by decide +kernel : am_dc 0 991 = some (.ifCond .eq (5))) rfl rfl
theorem x_0_994   : am_E d 0 Q (994, L, st, g) ↔ am_E d 0 Q (995, L, .int (0) :: st, g) := am_E_iconst (by decide +kernel : am_dc 0 994 = some (.iconst (0))) (by decide) rfl
theorem x_0_995  : am_E d 0 Q (995, L, [.int x], g) ↔ if am_ok (FieldType.boolean) (.int x) = true then Q (.inl (some (.int x))) g else False := am_E_ireturn (by decide +kernel : am_dc 0 995 = some (.ireturn)) (by decide +kernel)
theorem x_0_996   : am_E d 0 Q (996, L, st, g) ↔ am_E d 0 Q (1529, L, st, g) := am_E_gt (by decide +kernel : am_dc 0 996 = some (.goto (533))) rfl rfl
theorem x_0_999   : am_E d 0 Q (999, L, st, g) ↔ am_K d 0 Q (am_ldA 1000 L st g 1) := am_E_aload_n (by decide +kernel : am_dc 0 999 = some (.aload_n 1)) rfl rfl
theorem x_0_1000   : am_E d 0 Q (1000, L, st, g) ↔ am_K d 0 Q (am_ldA 1001 L st g 3) := am_E_aload_n (by decide +kernel : am_dc 0 1000 = some (.aload_n 3)) rfl rfl
theorem x_0_1001  : am_E d 0 Q (1001, L, st, g) ↔ am_K d 0 Q (am_S 0 (.invokestatic 153) 1001 L st g) := am_E_x (by decide +kernel : am_dc 0 1001 = some (.invokestatic 153))
theorem x_0_1004   : am_E d 0 Q (1004, L, st, g) ↔ am_K d 0 Q (am_stI 1006 L st g 6) := am_E_istore (by decide +kernel : am_dc 0 1004 = some (.istore 6)) rfl
theorem x_0_1006   : am_E d 0 Q (1006, L, st, g) ↔ am_K d 0 Q (am_ldA 1007 L st g 2) := am_E_aload_n (by decide +kernel : am_dc 0 1006 = some (.aload_n 2)) rfl rfl
theorem x_0_1007  : am_E d 0 Q (1007, L, st, g) ↔ am_K d 0 Q (am_S 0 (.invokevirtual 155) 1007 L st g) := am_E_x (by decide +kernel : am_dc 0 1007 = some (.invokevirtual 155))
theorem x_0_1010   : am_E d 0 Q (1010, L, st, g) ↔ am_K d 0 Q (am_stI 1012 L st g 7) := am_E_istore (by decide +kernel : am_dc 0 1010 = some (.istore 7)) rfl
theorem x_0_1012   : am_E d 0 Q (1012, L, st, g) ↔ am_K d 0 Q (am_ldA 1013 L st g 2) := am_E_aload_n (by decide +kernel : am_dc 0 1012 = some (.aload_n 2)) rfl rfl
theorem x_0_1013  : am_E d 0 Q (1013, L, st, g) ↔ am_K d 0 Q (am_S 0 (.invokevirtual 100) 1013 L st g) := am_E_x (by decide +kernel : am_dc 0 1013 = some (.invokevirtual 100))
theorem x_0_1016   : am_E d 0 Q (1016, L, st, g) ↔ am_K d 0 Q (am_ldI 1018 L st g 6) := am_E_iload (by decide +kernel : am_dc 0 1016 = some (.iload 6)) rfl
theorem x_0_1018   : am_E d 0 Q (1018, L, .int y :: .int x :: st, g) ↔ am_E d 0 Q (am_cmp .eq x y 1023 1021, L, st, g) := am_E_ic (by decide +kernel : am_dc 0 1018 = some (.if_icmp .eq (5))) rfl rfl
theorem x_0_1021   : am_E d 0 Q (1021, L, st, g) ↔ am_E d 0 Q (1022, L, .int (0) :: st, g) := am_E_iconst (by decide +kernel : am_dc 0 1021 = some (.iconst (0))) (by decide) rfl
theorem x_0_1022  : am_E d 0 Q (1022, L, [.int x], g) ↔ if am_ok (FieldType.boolean) (.int x) = true then Q (.inl (some (.int x))) g else False := am_E_ireturn (by decide +kernel : am_dc 0 1022 = some (.ireturn)) (by decide +kernel)
theorem x_0_1023   : am_E d 0 Q (1023, L, st, g) ↔ am_K d 0 Q (am_ldI 1025 L st g 6) := am_E_iload (by decide +kernel : am_dc 0 1023 = some (.iload 6)) rfl
theorem x_0_1025   : am_E d 0 Q (1025, L, .int x :: st, g) ↔ am_E d 0 Q (am_cmp .ne x 0 1040 1028, L, st, g) := am_E_if (by decide +kernel : am_dc 0 1025 = some (.ifCond .ne (15))) rfl rfl
theorem x_0_1028   : am_E d 0 Q (1028, L, st, g) ↔ am_K d 0 Q (am_ldA 1029 L st g 3) := am_E_aload_n (by decide +kernel : am_dc 0 1028 = some (.aload_n 3)) rfl rfl
theorem x_0_1029   : am_E d 0 Q (1029, L, st, g) ↔ am_E d 0 Q (1030, L, .int (0) :: st, g) := am_E_iconst (by decide +kernel : am_dc 0 1029 = some (.iconst (0))) (by decide) rfl
theorem x_0_1030   : am_E d 0 Q (1030, L, .int x :: .ref a :: st, g) ↔ am_kv d 0 Q 1031 L st g (am_iat .laload g a x) := am_E_laload (by decide +kernel : am_dc 0 1030 = some (.laload)) rfl
theorem x_0_1031   : am_E d 0 Q (1031, L, st, g) ↔ am_K d 0 Q (am_ldI 1033 L st g 7) := am_E_iload (by decide +kernel : am_dc 0 1031 = some (.iload 7)) rfl
theorem x_0_1033   : am_E d 0 Q (1033, L, .int x :: st, g) ↔ am_E d 0 Q (1034, L, .long x.toInt64 :: st, g) := am_E_i2l (by decide +kernel : am_dc 0 1033 = some (.i2l)) rfl
theorem x_0_1034   : am_E d 0 Q (1034, L, .long w :: .long u :: st, g) ↔ am_E d 0 Q (1035, L, .int (lg_cmp u w) :: st, g) := am_E_lcmp (by decide +kernel : am_dc 0 1034 = some (.lcmp)) rfl
theorem x_0_1035   : am_E d 0 Q (1035, L, .int x :: st, g) ↔ am_E d 0 Q (am_cmp .eq x 0 1040 1038, L, st, g) := am_E_if (by decide +kernel : am_dc 0 1035 = some (.ifCond .eq (5))) rfl rfl
theorem x_0_1038   : am_E d 0 Q (1038, L, st, g) ↔ am_E d 0 Q (1039, L, .int (0) :: st, g) := am_E_iconst (by decide +kernel : am_dc 0 1038 = some (.iconst (0))) (by decide) rfl
theorem x_0_1039  : am_E d 0 Q (1039, L, [.int x], g) ↔ if am_ok (FieldType.boolean) (.int x) = true then Q (.inl (some (.int x))) g else False := am_E_ireturn (by decide +kernel : am_dc 0 1039 = some (.ireturn)) (by decide +kernel)
theorem x_0_1040   : am_E d 0 Q (1040, L, st, g) ↔ am_E d 0 Q (1529, L, st, g) := am_E_gt (by decide +kernel : am_dc 0 1040 = some (.goto (489))) rfl rfl
theorem x_0_1043   : am_E d 0 Q (1043, L, st, g) ↔ am_K d 0 Q (am_ldA 1044 L st g 1) := am_E_aload_n (by decide +kernel : am_dc 0 1043 = some (.aload_n 1)) rfl rfl
theorem x_0_1044   : am_E d 0 Q (1044, L, st, g) ↔ am_K d 0 Q (am_ldA 1045 L st g 3) := am_E_aload_n (by decide +kernel : am_dc 0 1044 = some (.aload_n 3)) rfl rfl
theorem x_0_1045  : am_E d 0 Q (1045, L, st, g) ↔ am_K d 0 Q (am_S 0 (.invokestatic 156) 1045 L st g) := am_E_x (by decide +kernel : am_dc 0 1045 = some (.invokestatic 156))
theorem x_0_1048   : am_E d 0 Q (1048, L, st, g) ↔ am_K d 0 Q (am_stI 1050 L st g 6) := am_E_istore (by decide +kernel : am_dc 0 1048 = some (.istore 6)) rfl
theorem x_0_1050   : am_E d 0 Q (1050, L, st, g) ↔ am_K d 0 Q (am_ldA 1051 L st g 2) := am_E_aload_n (by decide +kernel : am_dc 0 1050 = some (.aload_n 2)) rfl rfl
theorem x_0_1051  : am_E d 0 Q (1051, L, st, g) ↔ am_K d 0 Q (am_S 0 (.invokevirtual 158) 1051 L st g) := am_E_x (by decide +kernel : am_dc 0 1051 = some (.invokevirtual 158))
theorem x_0_1054   : am_E d 0 Q (1054, L, st, g) ↔ am_K d 0 Q (am_stI 1056 L st g 7) := am_E_istore (by decide +kernel : am_dc 0 1054 = some (.istore 7)) rfl
theorem x_0_1056   : am_E d 0 Q (1056, L, st, g) ↔ am_K d 0 Q (am_ldA 1057 L st g 2) := am_E_aload_n (by decide +kernel : am_dc 0 1056 = some (.aload_n 2)) rfl rfl
theorem x_0_1057  : am_E d 0 Q (1057, L, st, g) ↔ am_K d 0 Q (am_S 0 (.invokevirtual 100) 1057 L st g) := am_E_x (by decide +kernel : am_dc 0 1057 = some (.invokevirtual 100))
theorem x_0_1060   : am_E d 0 Q (1060, L, st, g) ↔ am_K d 0 Q (am_ldI 1062 L st g 6) := am_E_iload (by decide +kernel : am_dc 0 1060 = some (.iload 6)) rfl
theorem x_0_1062   : am_E d 0 Q (1062, L, .int y :: .int x :: st, g) ↔ am_E d 0 Q (am_cmp .eq x y 1067 1065, L, st, g) := am_E_ic (by decide +kernel : am_dc 0 1062 = some (.if_icmp .eq (5))) rfl rfl
theorem x_0_1065   : am_E d 0 Q (1065, L, st, g) ↔ am_E d 0 Q (1066, L, .int (0) :: st, g) := am_E_iconst (by decide +kernel : am_dc 0 1065 = some (.iconst (0))) (by decide) rfl
theorem x_0_1066  : am_E d 0 Q (1066, L, [.int x], g) ↔ if am_ok (FieldType.boolean) (.int x) = true then Q (.inl (some (.int x))) g else False := am_E_ireturn (by decide +kernel : am_dc 0 1066 = some (.ireturn)) (by decide +kernel)
theorem x_0_1067   : am_E d 0 Q (1067, L, st, g) ↔ am_K d 0 Q (am_ldI 1069 L st g 6) := am_E_iload (by decide +kernel : am_dc 0 1067 = some (.iload 6)) rfl
theorem x_0_1069   : am_E d 0 Q (1069, L, .int x :: st, g) ↔ am_E d 0 Q (am_cmp .ne x 0 1084 1072, L, st, g) := am_E_if (by decide +kernel : am_dc 0 1069 = some (.ifCond .ne (15))) rfl rfl
theorem x_0_1072   : am_E d 0 Q (1072, L, st, g) ↔ am_K d 0 Q (am_ldA 1073 L st g 3) := am_E_aload_n (by decide +kernel : am_dc 0 1072 = some (.aload_n 3)) rfl rfl
theorem x_0_1073   : am_E d 0 Q (1073, L, st, g) ↔ am_E d 0 Q (1074, L, .int (0) :: st, g) := am_E_iconst (by decide +kernel : am_dc 0 1073 = some (.iconst (0))) (by decide) rfl
theorem x_0_1074   : am_E d 0 Q (1074, L, .int x :: .ref a :: st, g) ↔ am_kv d 0 Q 1075 L st g (am_iat .laload g a x) := am_E_laload (by decide +kernel : am_dc 0 1074 = some (.laload)) rfl
theorem x_0_1075   : am_E d 0 Q (1075, L, st, g) ↔ am_K d 0 Q (am_ldI 1077 L st g 7) := am_E_iload (by decide +kernel : am_dc 0 1075 = some (.iload 7)) rfl
theorem x_0_1077   : am_E d 0 Q (1077, L, .int x :: st, g) ↔ am_E d 0 Q (1078, L, .long x.toInt64 :: st, g) := am_E_i2l (by decide +kernel : am_dc 0 1077 = some (.i2l)) rfl
theorem x_0_1078   : am_E d 0 Q (1078, L, .long w :: .long u :: st, g) ↔ am_E d 0 Q (1079, L, .int (lg_cmp u w) :: st, g) := am_E_lcmp (by decide +kernel : am_dc 0 1078 = some (.lcmp)) rfl
theorem x_0_1079   : am_E d 0 Q (1079, L, .int x :: st, g) ↔ am_E d 0 Q (am_cmp .eq x 0 1084 1082, L, st, g) := am_E_if (by decide +kernel : am_dc 0 1079 = some (.ifCond .eq (5))) rfl rfl
theorem x_0_1082   : am_E d 0 Q (1082, L, st, g) ↔ am_E d 0 Q (1083, L, .int (0) :: st, g) := am_E_iconst (by decide +kernel : am_dc 0 1082 = some (.iconst (0))) (by decide) rfl
theorem x_0_1083  : am_E d 0 Q (1083, L, [.int x], g) ↔ if am_ok (FieldType.boolean) (.int x) = true then Q (.inl (some (.int x))) g else False := am_E_ireturn (by decide +kernel : am_dc 0 1083 = some (.ireturn)) (by decide +kernel)
theorem x_0_1084   : am_E d 0 Q (1084, L, st, g) ↔ am_E d 0 Q (1529, L, st, g) := am_E_gt (by decide +kernel : am_dc 0 1084 = some (.goto (445))) rfl rfl
theorem x_0_1087   : am_E d 0 Q (1087, L, st, g) ↔ am_K d 0 Q (am_ldA 1088 L st g 1) := am_E_aload_n (by decide +kernel : am_dc 0 1087 = some (.aload_n 1)) rfl rfl
theorem x_0_1088   : am_E d 0 Q (1088, L, st, g) ↔ am_K d 0 Q (am_ldA 1089 L st g 0) := am_E_aload_n (by decide +kernel : am_dc 0 1088 = some (.aload_n 0)) rfl rfl
theorem x_0_1089   : am_E d 0 Q (1089, L, st, g) ↔ am_K d 0 Q (am_ldI 1091 L st g 5) := am_E_iload (by decide +kernel : am_dc 0 1089 = some (.iload 5)) rfl
theorem x_0_1091   : am_E d 0 Q (1091, L, st, g) ↔ am_E d 0 Q (1092, L, .int (1) :: st, g) := am_E_iconst (by decide +kernel : am_dc 0 1091 = some (.iconst (1))) (by decide) rfl
theorem x_0_1092   : am_E d 0 Q (1092, L, .int y :: .int x :: st, g) ↔ am_E d 0 Q (1093, L, .int (x + y) :: st, g) := am_E_iadd (by decide +kernel : am_dc 0 1092 = some (.iadd)) rfl
theorem x_0_1093   : am_E d 0 Q (1093, L, .int x :: .ref a :: st, g) ↔ am_kv d 0 Q 1094 L st g (am_iat .iaload g a x) := am_E_iaload (by decide +kernel : am_dc 0 1093 = some (.iaload)) rfl
theorem x_0_1094   : am_E d 0 Q (1094, L, .int x :: st, g) ↔ am_E d 0 Q (am_cmp .eq x 0 1101 1097, L, st, g) := am_E_if (by decide +kernel : am_dc 0 1094 = some (.ifCond .eq (7))) rfl rfl
theorem x_0_1097   : am_E d 0 Q (1097, L, st, g) ↔ am_E d 0 Q (1098, L, .int (1) :: st, g) := am_E_iconst (by decide +kernel : am_dc 0 1097 = some (.iconst (1))) (by decide) rfl
theorem x_0_1098   : am_E d 0 Q (1098, L, st, g) ↔ am_E d 0 Q (1102, L, st, g) := am_E_gt (by decide +kernel : am_dc 0 1098 = some (.goto (4))) rfl rfl
theorem x_0_1101   : am_E d 0 Q (1101, L, st, g) ↔ am_E d 0 Q (1102, L, .int (0) :: st, g) := am_E_iconst (by decide +kernel : am_dc 0 1101 = some (.iconst (0))) (by decide) rfl
theorem x_0_1102   : am_E d 0 Q (1102, L, st, g) ↔ am_K d 0 Q (am_ldA 1103 L st g 3) := am_E_aload_n (by decide +kernel : am_dc 0 1102 = some (.aload_n 3)) rfl rfl
theorem x_0_1103  : am_E d 0 Q (1103, L, st, g) ↔ am_K d 0 Q (am_S 0 (.invokestatic 159) 1103 L st g) := am_E_x (by decide +kernel : am_dc 0 1103 = some (.invokestatic 159))
theorem x_0_1106   : am_E d 0 Q (1106, L, st, g) ↔ am_K d 0 Q (am_stI 1108 L st g 6) := am_E_istore (by decide +kernel : am_dc 0 1106 = some (.istore 6)) rfl
theorem x_0_1108   : am_E d 0 Q (1108, L, st, g) ↔ am_K d 0 Q (am_ldA 1109 L st g 2) := am_E_aload_n (by decide +kernel : am_dc 0 1108 = some (.aload_n 2)) rfl rfl
theorem x_0_1109   : am_E d 0 Q (1109, L, st, g) ↔ am_K d 0 Q (am_ldA 1110 L st g 0) := am_E_aload_n (by decide +kernel : am_dc 0 1109 = some (.aload_n 0)) rfl rfl
theorem x_0_1110   : am_E d 0 Q (1110, L, st, g) ↔ am_K d 0 Q (am_ldI 1112 L st g 5) := am_E_iload (by decide +kernel : am_dc 0 1110 = some (.iload 5)) rfl
theorem x_0_1112   : am_E d 0 Q (1112, L, st, g) ↔ am_E d 0 Q (1113, L, .int (1) :: st, g) := am_E_iconst (by decide +kernel : am_dc 0 1112 = some (.iconst (1))) (by decide) rfl
theorem x_0_1113   : am_E d 0 Q (1113, L, .int y :: .int x :: st, g) ↔ am_E d 0 Q (1114, L, .int (x + y) :: st, g) := am_E_iadd (by decide +kernel : am_dc 0 1113 = some (.iadd)) rfl
theorem x_0_1114   : am_E d 0 Q (1114, L, .int x :: .ref a :: st, g) ↔ am_kv d 0 Q 1115 L st g (am_iat .iaload g a x) := am_E_iaload (by decide +kernel : am_dc 0 1114 = some (.iaload)) rfl
theorem x_0_1115   : am_E d 0 Q (1115, L, .int x :: st, g) ↔ am_E d 0 Q (am_cmp .eq x 0 1122 1118, L, st, g) := am_E_if (by decide +kernel : am_dc 0 1115 = some (.ifCond .eq (7))) rfl rfl
theorem x_0_1118   : am_E d 0 Q (1118, L, st, g) ↔ am_E d 0 Q (1119, L, .int (1) :: st, g) := am_E_iconst (by decide +kernel : am_dc 0 1118 = some (.iconst (1))) (by decide) rfl
theorem x_0_1119   : am_E d 0 Q (1119, L, st, g) ↔ am_E d 0 Q (1123, L, st, g) := am_E_gt (by decide +kernel : am_dc 0 1119 = some (.goto (4))) rfl rfl
theorem x_0_1122   : am_E d 0 Q (1122, L, st, g) ↔ am_E d 0 Q (1123, L, .int (0) :: st, g) := am_E_iconst (by decide +kernel : am_dc 0 1122 = some (.iconst (0))) (by decide) rfl
theorem x_0_1123  : am_E d 0 Q (1123, L, st, g) ↔ am_K d 0 Q (am_S 0 (.invokevirtual 162) 1123 L st g) := am_E_x (by decide +kernel : am_dc 0 1123 = some (.invokevirtual 162))
theorem x_0_1126   : am_E d 0 Q (1126, L, st, g) ↔ am_K d 0 Q (am_stI 1128 L st g 7) := am_E_istore (by decide +kernel : am_dc 0 1126 = some (.istore 7)) rfl
theorem x_0_1128   : am_E d 0 Q (1128, L, st, g) ↔ am_K d 0 Q (am_ldA 1129 L st g 2) := am_E_aload_n (by decide +kernel : am_dc 0 1128 = some (.aload_n 2)) rfl rfl
theorem x_0_1129  : am_E d 0 Q (1129, L, st, g) ↔ am_K d 0 Q (am_S 0 (.invokevirtual 100) 1129 L st g) := am_E_x (by decide +kernel : am_dc 0 1129 = some (.invokevirtual 100))
theorem x_0_1132   : am_E d 0 Q (1132, L, st, g) ↔ am_K d 0 Q (am_ldI 1134 L st g 6) := am_E_iload (by decide +kernel : am_dc 0 1132 = some (.iload 6)) rfl
theorem x_0_1134   : am_E d 0 Q (1134, L, .int y :: .int x :: st, g) ↔ am_E d 0 Q (am_cmp .eq x y 1139 1137, L, st, g) := am_E_ic (by decide +kernel : am_dc 0 1134 = some (.if_icmp .eq (5))) rfl rfl
theorem x_0_1137   : am_E d 0 Q (1137, L, st, g) ↔ am_E d 0 Q (1138, L, .int (0) :: st, g) := am_E_iconst (by decide +kernel : am_dc 0 1137 = some (.iconst (0))) (by decide) rfl
theorem x_0_1138  : am_E d 0 Q (1138, L, [.int x], g) ↔ if am_ok (FieldType.boolean) (.int x) = true then Q (.inl (some (.int x))) g else False := am_E_ireturn (by decide +kernel : am_dc 0 1138 = some (.ireturn)) (by decide +kernel)
theorem x_0_1139   : am_E d 0 Q (1139, L, st, g) ↔ am_K d 0 Q (am_ldI 1141 L st g 6) := am_E_iload (by decide +kernel : am_dc 0 1139 = some (.iload 6)) rfl
theorem x_0_1141   : am_E d 0 Q (1141, L, .int x :: st, g) ↔ am_E d 0 Q (am_cmp .ne x 0 1156 1144, L, st, g) := am_E_if (by decide +kernel : am_dc 0 1141 = some (.ifCond .ne (15))) rfl rfl
theorem x_0_1144   : am_E d 0 Q (1144, L, st, g) ↔ am_K d 0 Q (am_ldA 1145 L st g 3) := am_E_aload_n (by decide +kernel : am_dc 0 1144 = some (.aload_n 3)) rfl rfl
theorem x_0_1145   : am_E d 0 Q (1145, L, st, g) ↔ am_E d 0 Q (1146, L, .int (0) :: st, g) := am_E_iconst (by decide +kernel : am_dc 0 1145 = some (.iconst (0))) (by decide) rfl
theorem x_0_1146   : am_E d 0 Q (1146, L, .int x :: .ref a :: st, g) ↔ am_kv d 0 Q 1147 L st g (am_iat .laload g a x) := am_E_laload (by decide +kernel : am_dc 0 1146 = some (.laload)) rfl
theorem x_0_1147   : am_E d 0 Q (1147, L, st, g) ↔ am_K d 0 Q (am_ldI 1149 L st g 7) := am_E_iload (by decide +kernel : am_dc 0 1147 = some (.iload 7)) rfl
theorem x_0_1149   : am_E d 0 Q (1149, L, .int x :: st, g) ↔ am_E d 0 Q (1150, L, .long x.toInt64 :: st, g) := am_E_i2l (by decide +kernel : am_dc 0 1149 = some (.i2l)) rfl
theorem x_0_1150   : am_E d 0 Q (1150, L, .long w :: .long u :: st, g) ↔ am_E d 0 Q (1151, L, .int (lg_cmp u w) :: st, g) := am_E_lcmp (by decide +kernel : am_dc 0 1150 = some (.lcmp)) rfl
theorem x_0_1151   : am_E d 0 Q (1151, L, .int x :: st, g) ↔ am_E d 0 Q (am_cmp .eq x 0 1156 1154, L, st, g) := am_E_if (by decide +kernel : am_dc 0 1151 = some (.ifCond .eq (5))) rfl rfl
theorem x_0_1154   : am_E d 0 Q (1154, L, st, g) ↔ am_E d 0 Q (1155, L, .int (0) :: st, g) := am_E_iconst (by decide +kernel : am_dc 0 1154 = some (.iconst (0))) (by decide) rfl
theorem x_0_1155  : am_E d 0 Q (1155, L, [.int x], g) ↔ if am_ok (FieldType.boolean) (.int x) = true then Q (.inl (some (.int x))) g else False := am_E_ireturn (by decide +kernel : am_dc 0 1155 = some (.ireturn)) (by decide +kernel)
theorem x_0_1156   : am_E d 0 Q (1156, L, st, g) ↔ am_E d 0 Q (1529, L, st, g) := am_E_gt (by decide +kernel : am_dc 0 1156 = some (.goto (373))) rfl rfl
theorem x_0_1159   : am_E d 0 Q (1159, L, st, g) ↔ am_K d 0 Q (am_ldA 1160 L st g 1) := am_E_aload_n (by decide +kernel : am_dc 0 1159 = some (.aload_n 1)) rfl rfl
theorem x_0_1160   : am_E d 0 Q (1160, L, st, g) ↔ am_K d 0 Q (am_ldA 1161 L st g 0) := am_E_aload_n (by decide +kernel : am_dc 0 1160 = some (.aload_n 0)) rfl rfl
theorem x_0_1161   : am_E d 0 Q (1161, L, st, g) ↔ am_K d 0 Q (am_ldI 1163 L st g 5) := am_E_iload (by decide +kernel : am_dc 0 1161 = some (.iload 5)) rfl
theorem x_0_1163   : am_E d 0 Q (1163, L, st, g) ↔ am_E d 0 Q (1164, L, .int (1) :: st, g) := am_E_iconst (by decide +kernel : am_dc 0 1163 = some (.iconst (1))) (by decide) rfl
theorem x_0_1164   : am_E d 0 Q (1164, L, .int y :: .int x :: st, g) ↔ am_E d 0 Q (1165, L, .int (x + y) :: st, g) := am_E_iadd (by decide +kernel : am_dc 0 1164 = some (.iadd)) rfl
theorem x_0_1165   : am_E d 0 Q (1165, L, .int x :: .ref a :: st, g) ↔ am_kv d 0 Q 1166 L st g (am_iat .iaload g a x) := am_E_iaload (by decide +kernel : am_dc 0 1165 = some (.iaload)) rfl
theorem x_0_1166   : am_E d 0 Q (1166, L, st, g) ↔ am_K d 0 Q (am_ldA 1167 L st g 0) := am_E_aload_n (by decide +kernel : am_dc 0 1166 = some (.aload_n 0)) rfl rfl
theorem x_0_1167   : am_E d 0 Q (1167, L, st, g) ↔ am_K d 0 Q (am_ldI 1169 L st g 5) := am_E_iload (by decide +kernel : am_dc 0 1167 = some (.iload 5)) rfl
theorem x_0_1169   : am_E d 0 Q (1169, L, st, g) ↔ am_E d 0 Q (1170, L, .int (2) :: st, g) := am_E_iconst (by decide +kernel : am_dc 0 1169 = some (.iconst (2))) (by decide) rfl
theorem x_0_1170   : am_E d 0 Q (1170, L, .int y :: .int x :: st, g) ↔ am_E d 0 Q (1171, L, .int (x + y) :: st, g) := am_E_iadd (by decide +kernel : am_dc 0 1170 = some (.iadd)) rfl
theorem x_0_1171   : am_E d 0 Q (1171, L, .int x :: .ref a :: st, g) ↔ am_kv d 0 Q 1172 L st g (am_iat .iaload g a x) := am_E_iaload (by decide +kernel : am_dc 0 1171 = some (.iaload)) rfl
theorem x_0_1172   : am_E d 0 Q (1172, L, st, g) ↔ am_K d 0 Q (am_ldA 1173 L st g 3) := am_E_aload_n (by decide +kernel : am_dc 0 1172 = some (.aload_n 3)) rfl rfl
theorem x_0_1173  : am_E d 0 Q (1173, L, st, g) ↔ am_K d 0 Q (am_S 0 (.invokestatic 163) 1173 L st g) := am_E_x (by decide +kernel : am_dc 0 1173 = some (.invokestatic 163))
theorem x_0_1176   : am_E d 0 Q (1176, L, st, g) ↔ am_K d 0 Q (am_stI 1178 L st g 6) := am_E_istore (by decide +kernel : am_dc 0 1176 = some (.istore 6)) rfl
theorem x_0_1178   : am_E d 0 Q (1178, L, st, g) ↔ am_K d 0 Q (am_ldA 1179 L st g 2) := am_E_aload_n (by decide +kernel : am_dc 0 1178 = some (.aload_n 2)) rfl rfl
theorem x_0_1179   : am_E d 0 Q (1179, L, st, g) ↔ am_K d 0 Q (am_ldA 1180 L st g 0) := am_E_aload_n (by decide +kernel : am_dc 0 1179 = some (.aload_n 0)) rfl rfl
theorem x_0_1180   : am_E d 0 Q (1180, L, st, g) ↔ am_K d 0 Q (am_ldI 1182 L st g 5) := am_E_iload (by decide +kernel : am_dc 0 1180 = some (.iload 5)) rfl
theorem x_0_1182   : am_E d 0 Q (1182, L, st, g) ↔ am_E d 0 Q (1183, L, .int (1) :: st, g) := am_E_iconst (by decide +kernel : am_dc 0 1182 = some (.iconst (1))) (by decide) rfl
theorem x_0_1183   : am_E d 0 Q (1183, L, .int y :: .int x :: st, g) ↔ am_E d 0 Q (1184, L, .int (x + y) :: st, g) := am_E_iadd (by decide +kernel : am_dc 0 1183 = some (.iadd)) rfl
theorem x_0_1184   : am_E d 0 Q (1184, L, .int x :: .ref a :: st, g) ↔ am_kv d 0 Q 1185 L st g (am_iat .iaload g a x) := am_E_iaload (by decide +kernel : am_dc 0 1184 = some (.iaload)) rfl
theorem x_0_1185   : am_E d 0 Q (1185, L, st, g) ↔ am_K d 0 Q (am_ldA 1186 L st g 0) := am_E_aload_n (by decide +kernel : am_dc 0 1185 = some (.aload_n 0)) rfl rfl
theorem x_0_1186   : am_E d 0 Q (1186, L, st, g) ↔ am_K d 0 Q (am_ldI 1188 L st g 5) := am_E_iload (by decide +kernel : am_dc 0 1186 = some (.iload 5)) rfl
theorem x_0_1188   : am_E d 0 Q (1188, L, st, g) ↔ am_E d 0 Q (1189, L, .int (2) :: st, g) := am_E_iconst (by decide +kernel : am_dc 0 1188 = some (.iconst (2))) (by decide) rfl
theorem x_0_1189   : am_E d 0 Q (1189, L, .int y :: .int x :: st, g) ↔ am_E d 0 Q (1190, L, .int (x + y) :: st, g) := am_E_iadd (by decide +kernel : am_dc 0 1189 = some (.iadd)) rfl
theorem x_0_1190   : am_E d 0 Q (1190, L, .int x :: .ref a :: st, g) ↔ am_kv d 0 Q 1191 L st g (am_iat .iaload g a x) := am_E_iaload (by decide +kernel : am_dc 0 1190 = some (.iaload)) rfl
theorem x_0_1191  : am_E d 0 Q (1191, L, st, g) ↔ am_K d 0 Q (am_S 0 (.invokevirtual 165) 1191 L st g) := am_E_x (by decide +kernel : am_dc 0 1191 = some (.invokevirtual 165))
theorem x_0_1194   : am_E d 0 Q (1194, L, st, g) ↔ am_K d 0 Q (am_stI 1196 L st g 7) := am_E_istore (by decide +kernel : am_dc 0 1194 = some (.istore 7)) rfl
theorem x_0_1196   : am_E d 0 Q (1196, L, st, g) ↔ am_K d 0 Q (am_ldA 1197 L st g 2) := am_E_aload_n (by decide +kernel : am_dc 0 1196 = some (.aload_n 2)) rfl rfl
theorem x_0_1197  : am_E d 0 Q (1197, L, st, g) ↔ am_K d 0 Q (am_S 0 (.invokevirtual 100) 1197 L st g) := am_E_x (by decide +kernel : am_dc 0 1197 = some (.invokevirtual 100))
theorem x_0_1200   : am_E d 0 Q (1200, L, st, g) ↔ am_K d 0 Q (am_ldI 1202 L st g 6) := am_E_iload (by decide +kernel : am_dc 0 1200 = some (.iload 6)) rfl
theorem x_0_1202   : am_E d 0 Q (1202, L, .int y :: .int x :: st, g) ↔ am_E d 0 Q (am_cmp .eq x y 1207 1205, L, st, g) := am_E_ic (by decide +kernel : am_dc 0 1202 = some (.if_icmp .eq (5))) rfl rfl
theorem x_0_1205   : am_E d 0 Q (1205, L, st, g) ↔ am_E d 0 Q (1206, L, .int (0) :: st, g) := am_E_iconst (by decide +kernel : am_dc 0 1205 = some (.iconst (0))) (by decide) rfl
theorem x_0_1206  : am_E d 0 Q (1206, L, [.int x], g) ↔ if am_ok (FieldType.boolean) (.int x) = true then Q (.inl (some (.int x))) g else False := am_E_ireturn (by decide +kernel : am_dc 0 1206 = some (.ireturn)) (by decide +kernel)
theorem x_0_1207   : am_E d 0 Q (1207, L, st, g) ↔ am_K d 0 Q (am_ldI 1209 L st g 6) := am_E_iload (by decide +kernel : am_dc 0 1207 = some (.iload 6)) rfl
theorem x_0_1209   : am_E d 0 Q (1209, L, .int x :: st, g) ↔ am_E d 0 Q (am_cmp .ne x 0 1224 1212, L, st, g) := am_E_if (by decide +kernel : am_dc 0 1209 = some (.ifCond .ne (15))) rfl rfl
theorem x_0_1212   : am_E d 0 Q (1212, L, st, g) ↔ am_K d 0 Q (am_ldA 1213 L st g 3) := am_E_aload_n (by decide +kernel : am_dc 0 1212 = some (.aload_n 3)) rfl rfl
theorem x_0_1213   : am_E d 0 Q (1213, L, st, g) ↔ am_E d 0 Q (1214, L, .int (0) :: st, g) := am_E_iconst (by decide +kernel : am_dc 0 1213 = some (.iconst (0))) (by decide) rfl
theorem x_0_1214   : am_E d 0 Q (1214, L, .int x :: .ref a :: st, g) ↔ am_kv d 0 Q 1215 L st g (am_iat .laload g a x) := am_E_laload (by decide +kernel : am_dc 0 1214 = some (.laload)) rfl
theorem x_0_1215   : am_E d 0 Q (1215, L, st, g) ↔ am_K d 0 Q (am_ldI 1217 L st g 7) := am_E_iload (by decide +kernel : am_dc 0 1215 = some (.iload 7)) rfl
theorem x_0_1217   : am_E d 0 Q (1217, L, .int x :: st, g) ↔ am_E d 0 Q (1218, L, .long x.toInt64 :: st, g) := am_E_i2l (by decide +kernel : am_dc 0 1217 = some (.i2l)) rfl
theorem x_0_1218   : am_E d 0 Q (1218, L, .long w :: .long u :: st, g) ↔ am_E d 0 Q (1219, L, .int (lg_cmp u w) :: st, g) := am_E_lcmp (by decide +kernel : am_dc 0 1218 = some (.lcmp)) rfl
theorem x_0_1219   : am_E d 0 Q (1219, L, .int x :: st, g) ↔ am_E d 0 Q (am_cmp .eq x 0 1224 1222, L, st, g) := am_E_if (by decide +kernel : am_dc 0 1219 = some (.ifCond .eq (5))) rfl rfl
theorem x_0_1222   : am_E d 0 Q (1222, L, st, g) ↔ am_E d 0 Q (1223, L, .int (0) :: st, g) := am_E_iconst (by decide +kernel : am_dc 0 1222 = some (.iconst (0))) (by decide) rfl
theorem x_0_1223  : am_E d 0 Q (1223, L, [.int x], g) ↔ if am_ok (FieldType.boolean) (.int x) = true then Q (.inl (some (.int x))) g else False := am_E_ireturn (by decide +kernel : am_dc 0 1223 = some (.ireturn)) (by decide +kernel)
theorem x_0_1224   : am_E d 0 Q (1224, L, st, g) ↔ am_E d 0 Q (1529, L, st, g) := am_E_gt (by decide +kernel : am_dc 0 1224 = some (.goto (305))) rfl rfl
theorem x_0_1227   : am_E d 0 Q (1227, L, st, g) ↔ am_K d 0 Q (am_ldA 1228 L st g 1) := am_E_aload_n (by decide +kernel : am_dc 0 1227 = some (.aload_n 1)) rfl rfl
theorem x_0_1228   : am_E d 0 Q (1228, L, st, g) ↔ am_K d 0 Q (am_ldA 1229 L st g 3) := am_E_aload_n (by decide +kernel : am_dc 0 1228 = some (.aload_n 3)) rfl rfl
theorem x_0_1229  : am_E d 0 Q (1229, L, st, g) ↔ am_K d 0 Q (am_S 0 (.invokestatic 166) 1229 L st g) := am_E_x (by decide +kernel : am_dc 0 1229 = some (.invokestatic 166))
theorem x_0_1232   : am_E d 0 Q (1232, L, st, g) ↔ am_K d 0 Q (am_stI 1234 L st g 6) := am_E_istore (by decide +kernel : am_dc 0 1232 = some (.istore 6)) rfl
theorem x_0_1234   : am_E d 0 Q (1234, L, st, g) ↔ am_K d 0 Q (am_ldA 1235 L st g 2) := am_E_aload_n (by decide +kernel : am_dc 0 1234 = some (.aload_n 2)) rfl rfl
theorem x_0_1235  : am_E d 0 Q (1235, L, st, g) ↔ am_K d 0 Q (am_S 0 (.invokevirtual 168) 1235 L st g) := am_E_x (by decide +kernel : am_dc 0 1235 = some (.invokevirtual 168))
theorem x_0_1238   : am_E d 0 Q (1238, L, st, g) ↔ am_K d 0 Q (am_stI 1240 L st g 7) := am_E_istore (by decide +kernel : am_dc 0 1238 = some (.istore 7)) rfl
theorem x_0_1240   : am_E d 0 Q (1240, L, st, g) ↔ am_K d 0 Q (am_ldA 1241 L st g 2) := am_E_aload_n (by decide +kernel : am_dc 0 1240 = some (.aload_n 2)) rfl rfl
theorem x_0_1241  : am_E d 0 Q (1241, L, st, g) ↔ am_K d 0 Q (am_S 0 (.invokevirtual 100) 1241 L st g) := am_E_x (by decide +kernel : am_dc 0 1241 = some (.invokevirtual 100))
theorem x_0_1244   : am_E d 0 Q (1244, L, st, g) ↔ am_K d 0 Q (am_ldI 1246 L st g 6) := am_E_iload (by decide +kernel : am_dc 0 1244 = some (.iload 6)) rfl
theorem x_0_1246   : am_E d 0 Q (1246, L, .int y :: .int x :: st, g) ↔ am_E d 0 Q (am_cmp .eq x y 1251 1249, L, st, g) := am_E_ic (by decide +kernel : am_dc 0 1246 = some (.if_icmp .eq (5))) rfl rfl
theorem x_0_1249   : am_E d 0 Q (1249, L, st, g) ↔ am_E d 0 Q (1250, L, .int (0) :: st, g) := am_E_iconst (by decide +kernel : am_dc 0 1249 = some (.iconst (0))) (by decide) rfl
theorem x_0_1250  : am_E d 0 Q (1250, L, [.int x], g) ↔ if am_ok (FieldType.boolean) (.int x) = true then Q (.inl (some (.int x))) g else False := am_E_ireturn (by decide +kernel : am_dc 0 1250 = some (.ireturn)) (by decide +kernel)
theorem x_0_1251   : am_E d 0 Q (1251, L, st, g) ↔ am_K d 0 Q (am_ldI 1253 L st g 6) := am_E_iload (by decide +kernel : am_dc 0 1251 = some (.iload 6)) rfl
theorem x_0_1253   : am_E d 0 Q (1253, L, .int x :: st, g) ↔ am_E d 0 Q (am_cmp .ne x 0 1268 1256, L, st, g) := am_E_if (by decide +kernel : am_dc 0 1253 = some (.ifCond .ne (15))) rfl rfl
theorem x_0_1256   : am_E d 0 Q (1256, L, st, g) ↔ am_K d 0 Q (am_ldA 1257 L st g 3) := am_E_aload_n (by decide +kernel : am_dc 0 1256 = some (.aload_n 3)) rfl rfl
theorem x_0_1257   : am_E d 0 Q (1257, L, st, g) ↔ am_E d 0 Q (1258, L, .int (0) :: st, g) := am_E_iconst (by decide +kernel : am_dc 0 1257 = some (.iconst (0))) (by decide) rfl
theorem x_0_1258   : am_E d 0 Q (1258, L, .int x :: .ref a :: st, g) ↔ am_kv d 0 Q 1259 L st g (am_iat .laload g a x) := am_E_laload (by decide +kernel : am_dc 0 1258 = some (.laload)) rfl
theorem x_0_1259   : am_E d 0 Q (1259, L, st, g) ↔ am_K d 0 Q (am_ldI 1261 L st g 7) := am_E_iload (by decide +kernel : am_dc 0 1259 = some (.iload 7)) rfl
theorem x_0_1261   : am_E d 0 Q (1261, L, .int x :: st, g) ↔ am_E d 0 Q (1262, L, .long x.toInt64 :: st, g) := am_E_i2l (by decide +kernel : am_dc 0 1261 = some (.i2l)) rfl
theorem x_0_1262   : am_E d 0 Q (1262, L, .long w :: .long u :: st, g) ↔ am_E d 0 Q (1263, L, .int (lg_cmp u w) :: st, g) := am_E_lcmp (by decide +kernel : am_dc 0 1262 = some (.lcmp)) rfl
theorem x_0_1263   : am_E d 0 Q (1263, L, .int x :: st, g) ↔ am_E d 0 Q (am_cmp .eq x 0 1268 1266, L, st, g) := am_E_if (by decide +kernel : am_dc 0 1263 = some (.ifCond .eq (5))) rfl rfl
theorem x_0_1266   : am_E d 0 Q (1266, L, st, g) ↔ am_E d 0 Q (1267, L, .int (0) :: st, g) := am_E_iconst (by decide +kernel : am_dc 0 1266 = some (.iconst (0))) (by decide) rfl
theorem x_0_1267  : am_E d 0 Q (1267, L, [.int x], g) ↔ if am_ok (FieldType.boolean) (.int x) = true then Q (.inl (some (.int x))) g else False := am_E_ireturn (by decide +kernel : am_dc 0 1267 = some (.ireturn)) (by decide +kernel)
theorem x_0_1268   : am_E d 0 Q (1268, L, st, g) ↔ am_E d 0 Q (1529, L, st, g) := am_E_gt (by decide +kernel : am_dc 0 1268 = some (.goto (261))) rfl rfl
theorem x_0_1271   : am_E d 0 Q (1271, L, st, g) ↔ am_K d 0 Q (am_ldA 1272 L st g 1) := am_E_aload_n (by decide +kernel : am_dc 0 1271 = some (.aload_n 1)) rfl rfl
theorem x_0_1272   : am_E d 0 Q (1272, L, st, g) ↔ am_K d 0 Q (am_ldA 1273 L st g 3) := am_E_aload_n (by decide +kernel : am_dc 0 1272 = some (.aload_n 3)) rfl rfl
theorem x_0_1273  : am_E d 0 Q (1273, L, st, g) ↔ am_K d 0 Q (am_S 0 (.invokestatic 169) 1273 L st g) := am_E_x (by decide +kernel : am_dc 0 1273 = some (.invokestatic 169))
theorem x_0_1276   : am_E d 0 Q (1276, L, st, g) ↔ am_K d 0 Q (am_stI 1278 L st g 6) := am_E_istore (by decide +kernel : am_dc 0 1276 = some (.istore 6)) rfl
theorem x_0_1278   : am_E d 0 Q (1278, L, st, g) ↔ am_K d 0 Q (am_ldA 1279 L st g 2) := am_E_aload_n (by decide +kernel : am_dc 0 1278 = some (.aload_n 2)) rfl rfl
theorem x_0_1279  : am_E d 0 Q (1279, L, st, g) ↔ am_K d 0 Q (am_S 0 (.invokevirtual 171) 1279 L st g) := am_E_x (by decide +kernel : am_dc 0 1279 = some (.invokevirtual 171))
theorem x_0_1282   : am_E d 0 Q (1282, L, st, g) ↔ am_K d 0 Q (am_stI 1284 L st g 7) := am_E_istore (by decide +kernel : am_dc 0 1282 = some (.istore 7)) rfl
theorem x_0_1284   : am_E d 0 Q (1284, L, st, g) ↔ am_K d 0 Q (am_ldA 1285 L st g 2) := am_E_aload_n (by decide +kernel : am_dc 0 1284 = some (.aload_n 2)) rfl rfl
theorem x_0_1285  : am_E d 0 Q (1285, L, st, g) ↔ am_K d 0 Q (am_S 0 (.invokevirtual 100) 1285 L st g) := am_E_x (by decide +kernel : am_dc 0 1285 = some (.invokevirtual 100))
theorem x_0_1288   : am_E d 0 Q (1288, L, st, g) ↔ am_K d 0 Q (am_ldI 1290 L st g 6) := am_E_iload (by decide +kernel : am_dc 0 1288 = some (.iload 6)) rfl
theorem x_0_1290   : am_E d 0 Q (1290, L, .int y :: .int x :: st, g) ↔ am_E d 0 Q (am_cmp .eq x y 1295 1293, L, st, g) := am_E_ic (by decide +kernel : am_dc 0 1290 = some (.if_icmp .eq (5))) rfl rfl
theorem x_0_1293   : am_E d 0 Q (1293, L, st, g) ↔ am_E d 0 Q (1294, L, .int (0) :: st, g) := am_E_iconst (by decide +kernel : am_dc 0 1293 = some (.iconst (0))) (by decide) rfl
theorem x_0_1294  : am_E d 0 Q (1294, L, [.int x], g) ↔ if am_ok (FieldType.boolean) (.int x) = true then Q (.inl (some (.int x))) g else False := am_E_ireturn (by decide +kernel : am_dc 0 1294 = some (.ireturn)) (by decide +kernel)
theorem x_0_1295   : am_E d 0 Q (1295, L, st, g) ↔ am_K d 0 Q (am_ldI 1297 L st g 6) := am_E_iload (by decide +kernel : am_dc 0 1295 = some (.iload 6)) rfl
theorem x_0_1297   : am_E d 0 Q (1297, L, .int x :: st, g) ↔ am_E d 0 Q (am_cmp .ne x 0 1312 1300, L, st, g) := am_E_if (by decide +kernel : am_dc 0 1297 = some (.ifCond .ne (15))) rfl rfl
theorem x_0_1300   : am_E d 0 Q (1300, L, st, g) ↔ am_K d 0 Q (am_ldA 1301 L st g 3) := am_E_aload_n (by decide +kernel : am_dc 0 1300 = some (.aload_n 3)) rfl rfl
theorem x_0_1301   : am_E d 0 Q (1301, L, st, g) ↔ am_E d 0 Q (1302, L, .int (0) :: st, g) := am_E_iconst (by decide +kernel : am_dc 0 1301 = some (.iconst (0))) (by decide) rfl
theorem x_0_1302   : am_E d 0 Q (1302, L, .int x :: .ref a :: st, g) ↔ am_kv d 0 Q 1303 L st g (am_iat .laload g a x) := am_E_laload (by decide +kernel : am_dc 0 1302 = some (.laload)) rfl
theorem x_0_1303   : am_E d 0 Q (1303, L, st, g) ↔ am_K d 0 Q (am_ldI 1305 L st g 7) := am_E_iload (by decide +kernel : am_dc 0 1303 = some (.iload 7)) rfl
theorem x_0_1305   : am_E d 0 Q (1305, L, .int x :: st, g) ↔ am_E d 0 Q (1306, L, .long x.toInt64 :: st, g) := am_E_i2l (by decide +kernel : am_dc 0 1305 = some (.i2l)) rfl
theorem x_0_1306   : am_E d 0 Q (1306, L, .long w :: .long u :: st, g) ↔ am_E d 0 Q (1307, L, .int (lg_cmp u w) :: st, g) := am_E_lcmp (by decide +kernel : am_dc 0 1306 = some (.lcmp)) rfl
theorem x_0_1307   : am_E d 0 Q (1307, L, .int x :: st, g) ↔ am_E d 0 Q (am_cmp .eq x 0 1312 1310, L, st, g) := am_E_if (by decide +kernel : am_dc 0 1307 = some (.ifCond .eq (5))) rfl rfl
theorem x_0_1310   : am_E d 0 Q (1310, L, st, g) ↔ am_E d 0 Q (1311, L, .int (0) :: st, g) := am_E_iconst (by decide +kernel : am_dc 0 1310 = some (.iconst (0))) (by decide) rfl
theorem x_0_1311  : am_E d 0 Q (1311, L, [.int x], g) ↔ if am_ok (FieldType.boolean) (.int x) = true then Q (.inl (some (.int x))) g else False := am_E_ireturn (by decide +kernel : am_dc 0 1311 = some (.ireturn)) (by decide +kernel)
theorem x_0_1312   : am_E d 0 Q (1312, L, st, g) ↔ am_E d 0 Q (1529, L, st, g) := am_E_gt (by decide +kernel : am_dc 0 1312 = some (.goto (217))) rfl rfl
theorem x_0_1315   : am_E d 0 Q (1315, L, st, g) ↔ am_K d 0 Q (am_ldA 1316 L st g 1) := am_E_aload_n (by decide +kernel : am_dc 0 1315 = some (.aload_n 1)) rfl rfl
theorem x_0_1316   : am_E d 0 Q (1316, L, st, g) ↔ am_K d 0 Q (am_ldA 1317 L st g 0) := am_E_aload_n (by decide +kernel : am_dc 0 1316 = some (.aload_n 0)) rfl rfl
theorem x_0_1317   : am_E d 0 Q (1317, L, st, g) ↔ am_K d 0 Q (am_ldI 1319 L st g 5) := am_E_iload (by decide +kernel : am_dc 0 1317 = some (.iload 5)) rfl
theorem x_0_1319   : am_E d 0 Q (1319, L, st, g) ↔ am_E d 0 Q (1320, L, .int (1) :: st, g) := am_E_iconst (by decide +kernel : am_dc 0 1319 = some (.iconst (1))) (by decide) rfl
theorem x_0_1320   : am_E d 0 Q (1320, L, .int y :: .int x :: st, g) ↔ am_E d 0 Q (1321, L, .int (x + y) :: st, g) := am_E_iadd (by decide +kernel : am_dc 0 1320 = some (.iadd)) rfl
theorem x_0_1321   : am_E d 0 Q (1321, L, .int x :: .ref a :: st, g) ↔ am_kv d 0 Q 1322 L st g (am_iat .iaload g a x) := am_E_iaload (by decide +kernel : am_dc 0 1321 = some (.iaload)) rfl
theorem x_0_1322   : am_E d 0 Q (1322, L, st, g) ↔ am_K d 0 Q (am_ldA 1323 L st g 3) := am_E_aload_n (by decide +kernel : am_dc 0 1322 = some (.aload_n 3)) rfl rfl
theorem x_0_1323  : am_E d 0 Q (1323, L, st, g) ↔ am_K d 0 Q (am_S 0 (.invokestatic 172) 1323 L st g) := am_E_x (by decide +kernel : am_dc 0 1323 = some (.invokestatic 172))
theorem x_0_1326   : am_E d 0 Q (1326, L, st, g) ↔ am_K d 0 Q (am_stI 1328 L st g 6) := am_E_istore (by decide +kernel : am_dc 0 1326 = some (.istore 6)) rfl
theorem x_0_1328   : am_E d 0 Q (1328, L, st, g) ↔ am_K d 0 Q (am_ldA 1329 L st g 2) := am_E_aload_n (by decide +kernel : am_dc 0 1328 = some (.aload_n 2)) rfl rfl
theorem x_0_1329   : am_E d 0 Q (1329, L, st, g) ↔ am_K d 0 Q (am_ldA 1330 L st g 0) := am_E_aload_n (by decide +kernel : am_dc 0 1329 = some (.aload_n 0)) rfl rfl
theorem x_0_1330   : am_E d 0 Q (1330, L, st, g) ↔ am_K d 0 Q (am_ldI 1332 L st g 5) := am_E_iload (by decide +kernel : am_dc 0 1330 = some (.iload 5)) rfl
theorem x_0_1332   : am_E d 0 Q (1332, L, st, g) ↔ am_E d 0 Q (1333, L, .int (1) :: st, g) := am_E_iconst (by decide +kernel : am_dc 0 1332 = some (.iconst (1))) (by decide) rfl
theorem x_0_1333   : am_E d 0 Q (1333, L, .int y :: .int x :: st, g) ↔ am_E d 0 Q (1334, L, .int (x + y) :: st, g) := am_E_iadd (by decide +kernel : am_dc 0 1333 = some (.iadd)) rfl
theorem x_0_1334   : am_E d 0 Q (1334, L, .int x :: .ref a :: st, g) ↔ am_kv d 0 Q 1335 L st g (am_iat .iaload g a x) := am_E_iaload (by decide +kernel : am_dc 0 1334 = some (.iaload)) rfl
theorem x_0_1335  : am_E d 0 Q (1335, L, st, g) ↔ am_K d 0 Q (am_S 0 (.invokevirtual 174) 1335 L st g) := am_E_x (by decide +kernel : am_dc 0 1335 = some (.invokevirtual 174))
theorem x_0_1338   : am_E d 0 Q (1338, L, st, g) ↔ am_K d 0 Q (am_stI 1340 L st g 7) := am_E_istore (by decide +kernel : am_dc 0 1338 = some (.istore 7)) rfl
theorem x_0_1340   : am_E d 0 Q (1340, L, st, g) ↔ am_K d 0 Q (am_ldA 1341 L st g 2) := am_E_aload_n (by decide +kernel : am_dc 0 1340 = some (.aload_n 2)) rfl rfl
theorem x_0_1341  : am_E d 0 Q (1341, L, st, g) ↔ am_K d 0 Q (am_S 0 (.invokevirtual 100) 1341 L st g) := am_E_x (by decide +kernel : am_dc 0 1341 = some (.invokevirtual 100))
theorem x_0_1344   : am_E d 0 Q (1344, L, st, g) ↔ am_K d 0 Q (am_ldI 1346 L st g 6) := am_E_iload (by decide +kernel : am_dc 0 1344 = some (.iload 6)) rfl
theorem x_0_1346   : am_E d 0 Q (1346, L, .int y :: .int x :: st, g) ↔ am_E d 0 Q (am_cmp .eq x y 1351 1349, L, st, g) := am_E_ic (by decide +kernel : am_dc 0 1346 = some (.if_icmp .eq (5))) rfl rfl
theorem x_0_1349   : am_E d 0 Q (1349, L, st, g) ↔ am_E d 0 Q (1350, L, .int (0) :: st, g) := am_E_iconst (by decide +kernel : am_dc 0 1349 = some (.iconst (0))) (by decide) rfl
theorem x_0_1350  : am_E d 0 Q (1350, L, [.int x], g) ↔ if am_ok (FieldType.boolean) (.int x) = true then Q (.inl (some (.int x))) g else False := am_E_ireturn (by decide +kernel : am_dc 0 1350 = some (.ireturn)) (by decide +kernel)
theorem x_0_1351   : am_E d 0 Q (1351, L, st, g) ↔ am_K d 0 Q (am_ldI 1353 L st g 6) := am_E_iload (by decide +kernel : am_dc 0 1351 = some (.iload 6)) rfl
theorem x_0_1353   : am_E d 0 Q (1353, L, .int x :: st, g) ↔ am_E d 0 Q (am_cmp .ne x 0 1368 1356, L, st, g) := am_E_if (by decide +kernel : am_dc 0 1353 = some (.ifCond .ne (15))) rfl rfl
theorem x_0_1356   : am_E d 0 Q (1356, L, st, g) ↔ am_K d 0 Q (am_ldA 1357 L st g 3) := am_E_aload_n (by decide +kernel : am_dc 0 1356 = some (.aload_n 3)) rfl rfl
theorem x_0_1357   : am_E d 0 Q (1357, L, st, g) ↔ am_E d 0 Q (1358, L, .int (0) :: st, g) := am_E_iconst (by decide +kernel : am_dc 0 1357 = some (.iconst (0))) (by decide) rfl
theorem x_0_1358   : am_E d 0 Q (1358, L, .int x :: .ref a :: st, g) ↔ am_kv d 0 Q 1359 L st g (am_iat .laload g a x) := am_E_laload (by decide +kernel : am_dc 0 1358 = some (.laload)) rfl
theorem x_0_1359   : am_E d 0 Q (1359, L, st, g) ↔ am_K d 0 Q (am_ldI 1361 L st g 7) := am_E_iload (by decide +kernel : am_dc 0 1359 = some (.iload 7)) rfl
theorem x_0_1361   : am_E d 0 Q (1361, L, .int x :: st, g) ↔ am_E d 0 Q (1362, L, .long x.toInt64 :: st, g) := am_E_i2l (by decide +kernel : am_dc 0 1361 = some (.i2l)) rfl
theorem x_0_1362   : am_E d 0 Q (1362, L, .long w :: .long u :: st, g) ↔ am_E d 0 Q (1363, L, .int (lg_cmp u w) :: st, g) := am_E_lcmp (by decide +kernel : am_dc 0 1362 = some (.lcmp)) rfl
theorem x_0_1363   : am_E d 0 Q (1363, L, .int x :: st, g) ↔ am_E d 0 Q (am_cmp .eq x 0 1368 1366, L, st, g) := am_E_if (by decide +kernel : am_dc 0 1363 = some (.ifCond .eq (5))) rfl rfl
theorem x_0_1366   : am_E d 0 Q (1366, L, st, g) ↔ am_E d 0 Q (1367, L, .int (0) :: st, g) := am_E_iconst (by decide +kernel : am_dc 0 1366 = some (.iconst (0))) (by decide) rfl
theorem x_0_1367  : am_E d 0 Q (1367, L, [.int x], g) ↔ if am_ok (FieldType.boolean) (.int x) = true then Q (.inl (some (.int x))) g else False := am_E_ireturn (by decide +kernel : am_dc 0 1367 = some (.ireturn)) (by decide +kernel)
theorem x_0_1368   : am_E d 0 Q (1368, L, st, g) ↔ am_E d 0 Q (1529, L, st, g) := am_E_gt (by decide +kernel : am_dc 0 1368 = some (.goto (161))) rfl rfl
theorem x_0_1371   : am_E d 0 Q (1371, L, st, g) ↔ am_K d 0 Q (am_ldA 1372 L st g 1) := am_E_aload_n (by decide +kernel : am_dc 0 1371 = some (.aload_n 1)) rfl rfl
theorem x_0_1372   : am_E d 0 Q (1372, L, st, g) ↔ am_K d 0 Q (am_ldA 1373 L st g 0) := am_E_aload_n (by decide +kernel : am_dc 0 1372 = some (.aload_n 0)) rfl rfl
theorem x_0_1373   : am_E d 0 Q (1373, L, st, g) ↔ am_K d 0 Q (am_ldI 1375 L st g 5) := am_E_iload (by decide +kernel : am_dc 0 1373 = some (.iload 5)) rfl
theorem x_0_1375   : am_E d 0 Q (1375, L, st, g) ↔ am_E d 0 Q (1376, L, .int (1) :: st, g) := am_E_iconst (by decide +kernel : am_dc 0 1375 = some (.iconst (1))) (by decide) rfl
theorem x_0_1376   : am_E d 0 Q (1376, L, .int y :: .int x :: st, g) ↔ am_E d 0 Q (1377, L, .int (x + y) :: st, g) := am_E_iadd (by decide +kernel : am_dc 0 1376 = some (.iadd)) rfl
theorem x_0_1377   : am_E d 0 Q (1377, L, .int x :: .ref a :: st, g) ↔ am_kv d 0 Q 1378 L st g (am_iat .iaload g a x) := am_E_iaload (by decide +kernel : am_dc 0 1377 = some (.iaload)) rfl
theorem x_0_1378   : am_E d 0 Q (1378, L, st, g) ↔ am_K d 0 Q (am_ldA 1379 L st g 0) := am_E_aload_n (by decide +kernel : am_dc 0 1378 = some (.aload_n 0)) rfl rfl
theorem x_0_1379   : am_E d 0 Q (1379, L, st, g) ↔ am_K d 0 Q (am_ldI 1381 L st g 5) := am_E_iload (by decide +kernel : am_dc 0 1379 = some (.iload 5)) rfl
theorem x_0_1381   : am_E d 0 Q (1381, L, st, g) ↔ am_E d 0 Q (1382, L, .int (2) :: st, g) := am_E_iconst (by decide +kernel : am_dc 0 1381 = some (.iconst (2))) (by decide) rfl
theorem x_0_1382   : am_E d 0 Q (1382, L, .int y :: .int x :: st, g) ↔ am_E d 0 Q (1383, L, .int (x + y) :: st, g) := am_E_iadd (by decide +kernel : am_dc 0 1382 = some (.iadd)) rfl
theorem x_0_1383   : am_E d 0 Q (1383, L, .int x :: .ref a :: st, g) ↔ am_kv d 0 Q 1384 L st g (am_iat .iaload g a x) := am_E_iaload (by decide +kernel : am_dc 0 1383 = some (.iaload)) rfl
theorem x_0_1384   : am_E d 0 Q (1384, L, st, g) ↔ am_K d 0 Q (am_ldA 1385 L st g 0) := am_E_aload_n (by decide +kernel : am_dc 0 1384 = some (.aload_n 0)) rfl rfl
theorem x_0_1385   : am_E d 0 Q (1385, L, st, g) ↔ am_K d 0 Q (am_ldI 1387 L st g 5) := am_E_iload (by decide +kernel : am_dc 0 1385 = some (.iload 5)) rfl
theorem x_0_1387   : am_E d 0 Q (1387, L, st, g) ↔ am_E d 0 Q (1388, L, .int (3) :: st, g) := am_E_iconst (by decide +kernel : am_dc 0 1387 = some (.iconst (3))) (by decide) rfl
theorem x_0_1388   : am_E d 0 Q (1388, L, .int y :: .int x :: st, g) ↔ am_E d 0 Q (1389, L, .int (x + y) :: st, g) := am_E_iadd (by decide +kernel : am_dc 0 1388 = some (.iadd)) rfl
theorem x_0_1389   : am_E d 0 Q (1389, L, .int x :: .ref a :: st, g) ↔ am_kv d 0 Q 1390 L st g (am_iat .iaload g a x) := am_E_iaload (by decide +kernel : am_dc 0 1389 = some (.iaload)) rfl
theorem x_0_1390   : am_E d 0 Q (1390, L, st, g) ↔ am_K d 0 Q (am_ldA 1391 L st g 3) := am_E_aload_n (by decide +kernel : am_dc 0 1390 = some (.aload_n 3)) rfl rfl
theorem x_0_1391  : am_E d 0 Q (1391, L, st, g) ↔ am_K d 0 Q (am_S 0 (.invokestatic 175) 1391 L st g) := am_E_x (by decide +kernel : am_dc 0 1391 = some (.invokestatic 175))
theorem x_0_1394   : am_E d 0 Q (1394, L, st, g) ↔ am_K d 0 Q (am_stI 1396 L st g 6) := am_E_istore (by decide +kernel : am_dc 0 1394 = some (.istore 6)) rfl
theorem x_0_1396   : am_E d 0 Q (1396, L, st, g) ↔ am_K d 0 Q (am_ldA 1397 L st g 2) := am_E_aload_n (by decide +kernel : am_dc 0 1396 = some (.aload_n 2)) rfl rfl
theorem x_0_1397   : am_E d 0 Q (1397, L, st, g) ↔ am_K d 0 Q (am_ldA 1398 L st g 0) := am_E_aload_n (by decide +kernel : am_dc 0 1397 = some (.aload_n 0)) rfl rfl
theorem x_0_1398   : am_E d 0 Q (1398, L, st, g) ↔ am_K d 0 Q (am_ldI 1400 L st g 5) := am_E_iload (by decide +kernel : am_dc 0 1398 = some (.iload 5)) rfl
theorem x_0_1400   : am_E d 0 Q (1400, L, st, g) ↔ am_E d 0 Q (1401, L, .int (1) :: st, g) := am_E_iconst (by decide +kernel : am_dc 0 1400 = some (.iconst (1))) (by decide) rfl
theorem x_0_1401   : am_E d 0 Q (1401, L, .int y :: .int x :: st, g) ↔ am_E d 0 Q (1402, L, .int (x + y) :: st, g) := am_E_iadd (by decide +kernel : am_dc 0 1401 = some (.iadd)) rfl
theorem x_0_1402   : am_E d 0 Q (1402, L, .int x :: .ref a :: st, g) ↔ am_kv d 0 Q 1403 L st g (am_iat .iaload g a x) := am_E_iaload (by decide +kernel : am_dc 0 1402 = some (.iaload)) rfl
theorem x_0_1403   : am_E d 0 Q (1403, L, st, g) ↔ am_K d 0 Q (am_ldA 1404 L st g 0) := am_E_aload_n (by decide +kernel : am_dc 0 1403 = some (.aload_n 0)) rfl rfl
theorem x_0_1404   : am_E d 0 Q (1404, L, st, g) ↔ am_K d 0 Q (am_ldI 1406 L st g 5) := am_E_iload (by decide +kernel : am_dc 0 1404 = some (.iload 5)) rfl
theorem x_0_1406   : am_E d 0 Q (1406, L, st, g) ↔ am_E d 0 Q (1407, L, .int (2) :: st, g) := am_E_iconst (by decide +kernel : am_dc 0 1406 = some (.iconst (2))) (by decide) rfl
theorem x_0_1407   : am_E d 0 Q (1407, L, .int y :: .int x :: st, g) ↔ am_E d 0 Q (1408, L, .int (x + y) :: st, g) := am_E_iadd (by decide +kernel : am_dc 0 1407 = some (.iadd)) rfl
theorem x_0_1408   : am_E d 0 Q (1408, L, .int x :: .ref a :: st, g) ↔ am_kv d 0 Q 1409 L st g (am_iat .iaload g a x) := am_E_iaload (by decide +kernel : am_dc 0 1408 = some (.iaload)) rfl
theorem x_0_1409   : am_E d 0 Q (1409, L, st, g) ↔ am_K d 0 Q (am_ldA 1410 L st g 0) := am_E_aload_n (by decide +kernel : am_dc 0 1409 = some (.aload_n 0)) rfl rfl
theorem x_0_1410   : am_E d 0 Q (1410, L, st, g) ↔ am_K d 0 Q (am_ldI 1412 L st g 5) := am_E_iload (by decide +kernel : am_dc 0 1410 = some (.iload 5)) rfl
theorem x_0_1412   : am_E d 0 Q (1412, L, st, g) ↔ am_E d 0 Q (1413, L, .int (3) :: st, g) := am_E_iconst (by decide +kernel : am_dc 0 1412 = some (.iconst (3))) (by decide) rfl
theorem x_0_1413   : am_E d 0 Q (1413, L, .int y :: .int x :: st, g) ↔ am_E d 0 Q (1414, L, .int (x + y) :: st, g) := am_E_iadd (by decide +kernel : am_dc 0 1413 = some (.iadd)) rfl
theorem x_0_1414   : am_E d 0 Q (1414, L, .int x :: .ref a :: st, g) ↔ am_kv d 0 Q 1415 L st g (am_iat .iaload g a x) := am_E_iaload (by decide +kernel : am_dc 0 1414 = some (.iaload)) rfl
theorem x_0_1415  : am_E d 0 Q (1415, L, st, g) ↔ am_K d 0 Q (am_S 0 (.invokevirtual 177) 1415 L st g) := am_E_x (by decide +kernel : am_dc 0 1415 = some (.invokevirtual 177))
theorem x_0_1418   : am_E d 0 Q (1418, L, st, g) ↔ am_K d 0 Q (am_stI 1420 L st g 7) := am_E_istore (by decide +kernel : am_dc 0 1418 = some (.istore 7)) rfl
theorem x_0_1420   : am_E d 0 Q (1420, L, st, g) ↔ am_K d 0 Q (am_ldA 1421 L st g 2) := am_E_aload_n (by decide +kernel : am_dc 0 1420 = some (.aload_n 2)) rfl rfl
theorem x_0_1421  : am_E d 0 Q (1421, L, st, g) ↔ am_K d 0 Q (am_S 0 (.invokevirtual 100) 1421 L st g) := am_E_x (by decide +kernel : am_dc 0 1421 = some (.invokevirtual 100))
theorem x_0_1424   : am_E d 0 Q (1424, L, st, g) ↔ am_K d 0 Q (am_ldI 1426 L st g 6) := am_E_iload (by decide +kernel : am_dc 0 1424 = some (.iload 6)) rfl
theorem x_0_1426   : am_E d 0 Q (1426, L, .int y :: .int x :: st, g) ↔ am_E d 0 Q (am_cmp .eq x y 1431 1429, L, st, g) := am_E_ic (by decide +kernel : am_dc 0 1426 = some (.if_icmp .eq (5))) rfl rfl
theorem x_0_1429   : am_E d 0 Q (1429, L, st, g) ↔ am_E d 0 Q (1430, L, .int (0) :: st, g) := am_E_iconst (by decide +kernel : am_dc 0 1429 = some (.iconst (0))) (by decide) rfl
theorem x_0_1430  : am_E d 0 Q (1430, L, [.int x], g) ↔ if am_ok (FieldType.boolean) (.int x) = true then Q (.inl (some (.int x))) g else False := am_E_ireturn (by decide +kernel : am_dc 0 1430 = some (.ireturn)) (by decide +kernel)
theorem x_0_1431   : am_E d 0 Q (1431, L, st, g) ↔ am_K d 0 Q (am_ldI 1433 L st g 6) := am_E_iload (by decide +kernel : am_dc 0 1431 = some (.iload 6)) rfl
theorem x_0_1433   : am_E d 0 Q (1433, L, .int x :: st, g) ↔ am_E d 0 Q (am_cmp .ne x 0 1448 1436, L, st, g) := am_E_if (by decide +kernel : am_dc 0 1433 = some (.ifCond .ne (15))) rfl rfl
theorem x_0_1436   : am_E d 0 Q (1436, L, st, g) ↔ am_K d 0 Q (am_ldA 1437 L st g 3) := am_E_aload_n (by decide +kernel : am_dc 0 1436 = some (.aload_n 3)) rfl rfl
theorem x_0_1437   : am_E d 0 Q (1437, L, st, g) ↔ am_E d 0 Q (1438, L, .int (0) :: st, g) := am_E_iconst (by decide +kernel : am_dc 0 1437 = some (.iconst (0))) (by decide) rfl
theorem x_0_1438   : am_E d 0 Q (1438, L, .int x :: .ref a :: st, g) ↔ am_kv d 0 Q 1439 L st g (am_iat .laload g a x) := am_E_laload (by decide +kernel : am_dc 0 1438 = some (.laload)) rfl
theorem x_0_1439   : am_E d 0 Q (1439, L, st, g) ↔ am_K d 0 Q (am_ldI 1441 L st g 7) := am_E_iload (by decide +kernel : am_dc 0 1439 = some (.iload 7)) rfl
theorem x_0_1441   : am_E d 0 Q (1441, L, .int x :: st, g) ↔ am_E d 0 Q (1442, L, .long x.toInt64 :: st, g) := am_E_i2l (by decide +kernel : am_dc 0 1441 = some (.i2l)) rfl
theorem x_0_1442   : am_E d 0 Q (1442, L, .long w :: .long u :: st, g) ↔ am_E d 0 Q (1443, L, .int (lg_cmp u w) :: st, g) := am_E_lcmp (by decide +kernel : am_dc 0 1442 = some (.lcmp)) rfl
theorem x_0_1443   : am_E d 0 Q (1443, L, .int x :: st, g) ↔ am_E d 0 Q (am_cmp .eq x 0 1448 1446, L, st, g) := am_E_if (by decide +kernel : am_dc 0 1443 = some (.ifCond .eq (5))) rfl rfl
theorem x_0_1446   : am_E d 0 Q (1446, L, st, g) ↔ am_E d 0 Q (1447, L, .int (0) :: st, g) := am_E_iconst (by decide +kernel : am_dc 0 1446 = some (.iconst (0))) (by decide) rfl
theorem x_0_1447  : am_E d 0 Q (1447, L, [.int x], g) ↔ if am_ok (FieldType.boolean) (.int x) = true then Q (.inl (some (.int x))) g else False := am_E_ireturn (by decide +kernel : am_dc 0 1447 = some (.ireturn)) (by decide +kernel)
theorem x_0_1448   : am_E d 0 Q (1448, L, st, g) ↔ am_E d 0 Q (1529, L, st, g) := am_E_gt (by decide +kernel : am_dc 0 1448 = some (.goto (81))) rfl rfl
theorem x_0_1451   : am_E d 0 Q (1451, L, st, g) ↔ am_K d 0 Q (am_ldA 1452 L st g 1) := am_E_aload_n (by decide +kernel : am_dc 0 1451 = some (.aload_n 1)) rfl rfl
theorem x_0_1452   : am_E d 0 Q (1452, L, st, g) ↔ am_K d 0 Q (am_ldA 1453 L st g 0) := am_E_aload_n (by decide +kernel : am_dc 0 1452 = some (.aload_n 0)) rfl rfl
theorem x_0_1453   : am_E d 0 Q (1453, L, st, g) ↔ am_K d 0 Q (am_ldI 1455 L st g 5) := am_E_iload (by decide +kernel : am_dc 0 1453 = some (.iload 5)) rfl
theorem x_0_1455   : am_E d 0 Q (1455, L, st, g) ↔ am_E d 0 Q (1456, L, .int (1) :: st, g) := am_E_iconst (by decide +kernel : am_dc 0 1455 = some (.iconst (1))) (by decide) rfl
theorem x_0_1456   : am_E d 0 Q (1456, L, .int y :: .int x :: st, g) ↔ am_E d 0 Q (1457, L, .int (x + y) :: st, g) := am_E_iadd (by decide +kernel : am_dc 0 1456 = some (.iadd)) rfl
theorem x_0_1457   : am_E d 0 Q (1457, L, .int x :: .ref a :: st, g) ↔ am_kv d 0 Q 1458 L st g (am_iat .iaload g a x) := am_E_iaload (by decide +kernel : am_dc 0 1457 = some (.iaload)) rfl
theorem x_0_1458   : am_E d 0 Q (1458, L, st, g) ↔ am_K d 0 Q (am_ldA 1460 L st g 4) := am_E_aload (by decide +kernel : am_dc 0 1458 = some (.aload 4)) rfl
theorem x_0_1460  : am_E d 0 Q (1460, L, st, g) ↔ am_K d 0 Q (am_S 0 (.invokestatic 178) 1460 L st g) := am_E_x (by decide +kernel : am_dc 0 1460 = some (.invokestatic 178))
theorem x_0_1463   : am_E d 0 Q (1463, L, st, g) ↔ am_K d 0 Q (am_stI 1465 L st g 6) := am_E_istore (by decide +kernel : am_dc 0 1463 = some (.istore 6)) rfl
theorem x_0_1465   : am_E d 0 Q (1465, L, st, g) ↔ am_K d 0 Q (am_ldA 1466 L st g 2) := am_E_aload_n (by decide +kernel : am_dc 0 1465 = some (.aload_n 2)) rfl rfl
theorem x_0_1466   : am_E d 0 Q (1466, L, st, g) ↔ am_K d 0 Q (am_ldA 1467 L st g 0) := am_E_aload_n (by decide +kernel : am_dc 0 1466 = some (.aload_n 0)) rfl rfl
theorem x_0_1467   : am_E d 0 Q (1467, L, st, g) ↔ am_K d 0 Q (am_ldI 1469 L st g 5) := am_E_iload (by decide +kernel : am_dc 0 1467 = some (.iload 5)) rfl
theorem x_0_1469   : am_E d 0 Q (1469, L, st, g) ↔ am_E d 0 Q (1470, L, .int (1) :: st, g) := am_E_iconst (by decide +kernel : am_dc 0 1469 = some (.iconst (1))) (by decide) rfl
theorem x_0_1470   : am_E d 0 Q (1470, L, .int y :: .int x :: st, g) ↔ am_E d 0 Q (1471, L, .int (x + y) :: st, g) := am_E_iadd (by decide +kernel : am_dc 0 1470 = some (.iadd)) rfl
theorem x_0_1471   : am_E d 0 Q (1471, L, .int x :: .ref a :: st, g) ↔ am_kv d 0 Q 1472 L st g (am_iat .iaload g a x) := am_E_iaload (by decide +kernel : am_dc 0 1471 = some (.iaload)) rfl
theorem x_0_1472  : am_E d 0 Q (1472, L, st, g) ↔ am_K d 0 Q (am_S 0 (.invokevirtual 181) 1472 L st g) := am_E_x (by decide +kernel : am_dc 0 1472 = some (.invokevirtual 181))
theorem x_0_1475   : am_E d 0 Q (1475, L, st, g) ↔ am_K d 0 Q (am_stF 1477 L st g 7) := am_E_fstore (by decide +kernel : am_dc 0 1475 = some (.fstore 7)) rfl
theorem x_0_1477   : am_E d 0 Q (1477, L, st, g) ↔ am_K d 0 Q (am_ldA 1478 L st g 2) := am_E_aload_n (by decide +kernel : am_dc 0 1477 = some (.aload_n 2)) rfl rfl
theorem x_0_1478  : am_E d 0 Q (1478, L, st, g) ↔ am_K d 0 Q (am_S 0 (.invokevirtual 100) 1478 L st g) := am_E_x (by decide +kernel : am_dc 0 1478 = some (.invokevirtual 100))
theorem x_0_1481   : am_E d 0 Q (1481, L, st, g) ↔ am_K d 0 Q (am_ldI 1483 L st g 6) := am_E_iload (by decide +kernel : am_dc 0 1481 = some (.iload 6)) rfl
theorem x_0_1483   : am_E d 0 Q (1483, L, .int y :: .int x :: st, g) ↔ am_E d 0 Q (am_cmp .eq x y 1488 1486, L, st, g) := am_E_ic (by decide +kernel : am_dc 0 1483 = some (.if_icmp .eq (5))) rfl rfl
theorem x_0_1486   : am_E d 0 Q (1486, L, st, g) ↔ am_E d 0 Q (1487, L, .int (0) :: st, g) := am_E_iconst (by decide +kernel : am_dc 0 1486 = some (.iconst (0))) (by decide) rfl
theorem x_0_1487  : am_E d 0 Q (1487, L, [.int x], g) ↔ if am_ok (FieldType.boolean) (.int x) = true then Q (.inl (some (.int x))) g else False := am_E_ireturn (by decide +kernel : am_dc 0 1487 = some (.ireturn)) (by decide +kernel)
theorem x_0_1488   : am_E d 0 Q (1488, L, st, g) ↔ am_K d 0 Q (am_ldI 1490 L st g 6) := am_E_iload (by decide +kernel : am_dc 0 1488 = some (.iload 6)) rfl
theorem x_0_1490   : am_E d 0 Q (1490, L, .int x :: st, g) ↔ am_E d 0 Q (am_cmp .ne x 0 1526 1493, L, st, g) := am_E_if (by decide +kernel : am_dc 0 1490 = some (.ifCond .ne (36))) rfl rfl
theorem x_0_1493   : am_E d 0 Q (1493, L, st, g) ↔ am_K d 0 Q (am_ldA 1495 L st g 4) := am_E_aload (by decide +kernel : am_dc 0 1493 = some (.aload 4)) rfl
theorem x_0_1495   : am_E d 0 Q (1495, L, st, g) ↔ am_E d 0 Q (1496, L, .int (0) :: st, g) := am_E_iconst (by decide +kernel : am_dc 0 1495 = some (.iconst (0))) (by decide) rfl
theorem x_0_1496   : am_E d 0 Q (1496, L, .int x :: .ref a :: st, g) ↔ am_kv d 0 Q 1497 L st g (am_iat .daload g a x) := am_E_daload (by decide +kernel : am_dc 0 1496 = some (.daload)) rfl
theorem x_0_1497   : am_E d 0 Q (1497, L, st, g) ↔ am_K d 0 Q (am_ldF 1499 L st g 7) := am_E_fload (by decide +kernel : am_dc 0 1497 = some (.fload 7)) rfl
theorem x_0_1499  : am_E d 0 Q (1499, L, st, g) ↔ am_K d 0 Q (am_S 0 (.f2d) 1499 L st g) := am_E_x (by decide +kernel : am_dc 0 1499 = some (.f2d))
theorem x_0_1500  : am_E d 0 Q (1500, L, st, g) ↔ am_K d 0 Q (am_S 0 (.dcmp .l) 1500 L st g) := am_E_x (by decide +kernel : am_dc 0 1500 = some (.dcmp .l))
theorem x_0_1501   : am_E d 0 Q (1501, L, .int x :: st, g) ↔ am_E d 0 Q (am_cmp .eq x 0 1526 1504, L, st, g) := am_E_if (by decide +kernel : am_dc 0 1501 = some (.ifCond .eq (25))) rfl rfl
theorem x_0_1504   : am_E d 0 Q (1504, L, st, g) ↔ am_K d 0 Q (am_ldA 1506 L st g 4) := am_E_aload (by decide +kernel : am_dc 0 1504 = some (.aload 4)) rfl
theorem x_0_1506   : am_E d 0 Q (1506, L, st, g) ↔ am_E d 0 Q (1507, L, .int (0) :: st, g) := am_E_iconst (by decide +kernel : am_dc 0 1506 = some (.iconst (0))) (by decide) rfl
theorem x_0_1507   : am_E d 0 Q (1507, L, .int x :: .ref a :: st, g) ↔ am_kv d 0 Q 1508 L st g (am_iat .daload g a x) := am_E_daload (by decide +kernel : am_dc 0 1507 = some (.daload)) rfl
theorem x_0_1508   : am_E d 0 Q (1508, L, st, g) ↔ am_K d 0 Q (am_ldA 1510 L st g 4) := am_E_aload (by decide +kernel : am_dc 0 1508 = some (.aload 4)) rfl
theorem x_0_1510   : am_E d 0 Q (1510, L, st, g) ↔ am_E d 0 Q (1511, L, .int (0) :: st, g) := am_E_iconst (by decide +kernel : am_dc 0 1510 = some (.iconst (0))) (by decide) rfl
theorem x_0_1511   : am_E d 0 Q (1511, L, .int x :: .ref a :: st, g) ↔ am_kv d 0 Q 1512 L st g (am_iat .daload g a x) := am_E_daload (by decide +kernel : am_dc 0 1511 = some (.daload)) rfl
theorem x_0_1512  : am_E d 0 Q (1512, L, st, g) ↔ am_K d 0 Q (am_S 0 (.dcmp .l) 1512 L st g) := am_E_x (by decide +kernel : am_dc 0 1512 = some (.dcmp .l))
theorem x_0_1513   : am_E d 0 Q (1513, L, .int x :: st, g) ↔ am_E d 0 Q (am_cmp .eq x 0 1524 1516, L, st, g) := am_E_if (by decide +kernel : am_dc 0 1513 = some (.ifCond .eq (11))) rfl rfl
theorem x_0_1516   : am_E d 0 Q (1516, L, st, g) ↔ am_K d 0 Q (am_ldF 1518 L st g 7) := am_E_fload (by decide +kernel : am_dc 0 1516 = some (.fload 7)) rfl
theorem x_0_1518   : am_E d 0 Q (1518, L, st, g) ↔ am_K d 0 Q (am_ldF 1520 L st g 7) := am_E_fload (by decide +kernel : am_dc 0 1518 = some (.fload 7)) rfl
theorem x_0_1520  : am_E d 0 Q (1520, L, st, g) ↔ am_K d 0 Q (am_S 0 (.fcmp .l) 1520 L st g) := am_E_x (by decide +kernel : am_dc 0 1520 = some (.fcmp .l))
theorem x_0_1521   : am_E d 0 Q (1521, L, .int x :: st, g) ↔ am_E d 0 Q (am_cmp .ne x 0 1526 1524, L, st, g) := am_E_if (by decide +kernel : am_dc 0 1521 = some (.ifCond .ne (5))) rfl rfl
theorem x_0_1524   : am_E d 0 Q (1524, L, st, g) ↔ am_E d 0 Q (1525, L, .int (0) :: st, g) := am_E_iconst (by decide +kernel : am_dc 0 1524 = some (.iconst (0))) (by decide) rfl
theorem x_0_1525  : am_E d 0 Q (1525, L, [.int x], g) ↔ if am_ok (FieldType.boolean) (.int x) = true then Q (.inl (some (.int x))) g else False := am_E_ireturn (by decide +kernel : am_dc 0 1525 = some (.ireturn)) (by decide +kernel)
theorem x_0_1526   : am_E d 0 Q (1526, L, st, g) ↔ am_E d 0 Q (1529, L, st, g) := am_E_gt (by decide +kernel : am_dc 0 1526 = some (.goto (3))) rfl rfl
theorem x_0_1529   (hk : L.getD 5 none = some (.int x)) (hl : 5 < L.length) : am_E d 0 Q (1529, L, st, g) ↔ am_E d 0 Q (1532, am_s1 L 5 (.int (x + (4))), st, g) := am_E_iinc (by decide +kernel : am_dc 0 1529 = some (.iinc 5 (4))) (by decide) rfl hk hl
theorem x_0_1532   : am_E d 0 Q (1532, L, st, g) ↔ am_E d 0 Q (28, L, st, g) := am_E_gt (by decide +kernel : am_dc 0 1532 = some (.goto (-1504))) rfl rfl
theorem x_0_1535   : am_E d 0 Q (1535, L, st, g) ↔ am_E d 0 Q (1536, L, .int (1) :: st, g) := am_E_iconst (by decide +kernel : am_dc 0 1535 = some (.iconst (1))) (by decide) rfl
theorem x_0_1536  : am_E d 0 Q (1536, L, [.int x], g) ↔ if am_ok (FieldType.boolean) (.int x) = true then Q (.inl (some (.int x))) g else False := am_E_ireturn (by decide +kernel : am_dc 0 1536 = some (.ireturn)) (by decide +kernel)
theorem w_0_8 : am_nw 0 8 = some 0 := by decide +kernel
theorem v_0_90 : am_iv 0 90 = some (2, 23, 1) := by decide +kernel
theorem w_0_91 : am_nw 0 91 = some 11 := by decide +kernel
theorem v_0_93 : am_iv 0 93 = some (2, 156, 1) := by decide +kernel
theorem v_0_94 : am_iv 0 94 = some (0, 11, 5) := by decide +kernel
theorem v_0_99 : am_iv 0 99 = some (1, 205, 4) := by decide +kernel
theorem v_0_100 : am_iv 0 100 = some (1, 236, 1) := by decide +kernel
theorem v_0_103 : am_iv 0 103 = some (0, 12, 5) := by decide +kernel
theorem v_0_105 : am_iv 0 105 = some (1, 206, 4) := by decide +kernel
theorem v_0_106 : am_iv 0 106 = some (0, 4, 4) := by decide +kernel
theorem v_0_109 : am_iv 0 109 = some (1, 169, 3) := by decide +kernel
theorem v_0_110 : am_iv 0 110 = some (0, 2, 4) := by decide +kernel
theorem v_0_112 : am_iv 0 112 = some (1, 160, 3) := by decide +kernel
theorem v_0_113 : am_iv 0 113 = some (0, 13, 4) := by decide +kernel
theorem v_0_116 : am_iv 0 116 = some (1, 214, 4) := by decide +kernel
theorem v_0_117 : am_iv 0 117 = some (1, 47, 2) := by decide +kernel
theorem v_0_121 : am_iv 0 121 = some (1, 237, 2) := by decide +kernel
theorem v_0_122 : am_iv 0 122 = some (0, 16, 2) := by decide +kernel
theorem v_0_125 : am_iv 0 125 = some (1, 225, 1) := by decide +kernel
theorem v_0_126 : am_iv 0 126 = some (0, 6, 3) := by decide +kernel
theorem v_0_129 : am_iv 0 129 = some (1, 171, 2) := by decide +kernel
theorem v_0_130 : am_iv 0 130 = some (0, 14, 3) := by decide +kernel
theorem v_0_133 : am_iv 0 133 = some (1, 218, 3) := by decide +kernel
theorem v_0_134 : am_iv 0 134 = some (0, 7, 3) := by decide +kernel
theorem v_0_136 : am_iv 0 136 = some (1, 176, 2) := by decide +kernel
theorem v_0_137 : am_iv 0 137 = some (0, 19, 3) := by decide +kernel
theorem v_0_139 : am_iv 0 139 = some (1, 231, 2) := by decide +kernel
theorem v_0_140 : am_iv 0 140 = some (0, 21, 3) := by decide +kernel
theorem v_0_142 : am_iv 0 142 = some (1, 240, 2) := by decide +kernel
theorem v_0_143 : am_iv 0 143 = some (0, 17, 4) := by decide +kernel
theorem v_0_145 : am_iv 0 145 = some (1, 227, 3) := by decide +kernel
theorem v_0_146 : am_iv 0 146 = some (1, 46, 1) := by decide +kernel
theorem v_0_149 : am_iv 0 149 = some (1, 232, 1) := by decide +kernel
theorem v_0_150 : am_iv 0 150 = some (0, 9, 3) := by decide +kernel
theorem v_0_152 : am_iv 0 152 = some (1, 184, 2) := by decide +kernel
theorem v_0_153 : am_iv 0 153 = some (0, 22, 2) := by decide +kernel
theorem v_0_155 : am_iv 0 155 = some (1, 242, 1) := by decide +kernel
theorem v_0_156 : am_iv 0 156 = some (0, 10, 2) := by decide +kernel
theorem v_0_158 : am_iv 0 158 = some (1, 199, 1) := by decide +kernel
theorem v_0_159 : am_iv 0 159 = some (0, 5, 3) := by decide +kernel
theorem v_0_162 : am_iv 0 162 = some (1, 170, 2) := by decide +kernel
theorem v_0_163 : am_iv 0 163 = some (0, 18, 4) := by decide +kernel
theorem v_0_165 : am_iv 0 165 = some (1, 229, 3) := by decide +kernel
theorem v_0_166 : am_iv 0 166 = some (0, 20, 2) := by decide +kernel
theorem v_0_168 : am_iv 0 168 = some (1, 239, 1) := by decide +kernel
theorem v_0_169 : am_iv 0 169 = some (0, 15, 2) := by decide +kernel
theorem v_0_171 : am_iv 0 171 = some (1, 221, 1) := by decide +kernel
theorem v_0_172 : am_iv 0 172 = some (0, 3, 3) := by decide +kernel
theorem v_0_174 : am_iv 0 174 = some (1, 166, 2) := by decide +kernel
theorem v_0_175 : am_iv 0 175 = some (0, 1, 5) := by decide +kernel
theorem v_0_177 : am_iv 0 177 = some (1, 157, 4) := by decide +kernel
theorem v_0_178 : am_iv 0 178 = some (0, 8, 3) := by decide +kernel
theorem v_0_181 : am_iv 0 181 = some (1, 178, 2) := by decide +kernel
theorem t_0 : am_t 0 = some (FieldType.boolean) := by decide +kernel
theorem h_0 : am_h 0 = [] := by decide +kernel
theorem m_0 : am_m 0 = 8 := by decide +kernel
theorem x_1_0   : am_E d 1 Q (0, L, st, g) ↔ am_K d 1 Q (am_ldA 2 L st g 4) := am_E_aload (by decide +kernel : am_dc 1 0 = some (.aload 4)) rfl
theorem x_1_2   : am_E d 1 Q (2, L, st, g) ↔ am_E d 1 Q (3, L, .int (0) :: st, g) := am_E_iconst (by decide +kernel : am_dc 1 2 = some (.iconst (0))) (by decide) rfl
theorem x_1_3   : am_E d 1 Q (3, L, st, g) ↔ am_K d 1 Q (am_ldA 4 L st g 0) := am_E_aload_n (by decide +kernel : am_dc 1 3 = some (.aload_n 0)) rfl rfl
theorem x_1_4   : am_E d 1 Q (4, L, st, g) ↔ am_K d 1 Q (am_ldI 5 L st g 1) := am_E_iload_n (by decide +kernel : am_dc 1 4 = some (.iload_n 1)) rfl rfl
theorem x_1_5   : am_E d 1 Q (5, L, st, g) ↔ am_K d 1 Q (am_ldI 6 L st g 2) := am_E_iload_n (by decide +kernel : am_dc 1 5 = some (.iload_n 2)) rfl rfl
theorem x_1_6   : am_E d 1 Q (6, L, st, g) ↔ am_K d 1 Q (am_ldI 7 L st g 3) := am_E_iload_n (by decide +kernel : am_dc 1 6 = some (.iload_n 3)) rfl rfl
theorem x_1_7  : am_E d 1 Q (7, L, st, g) ↔ am_K d 1 Q (am_S 1 (.invokevirtual 83) 7 L st g) := am_E_x (by decide +kernel : am_dc 1 7 = some (.invokevirtual 83))
theorem x_1_10   : am_E d 1 Q (10, L, .int x :: st, g) ↔ am_E d 1 Q (11, L, .long x.toInt64 :: st, g) := am_E_i2l (by decide +kernel : am_dc 1 10 = some (.i2l)) rfl
theorem x_1_11   : am_E d 1 Q (11, L, v :: .int x :: .ref a :: st, g) ↔ am_kg d 1 Q 12 L st (am_sat .lastore g a x v) := am_E_lastore (by decide +kernel : am_dc 1 11 = some (.lastore)) rfl
theorem x_1_12   : am_E d 1 Q (12, L, st, g) ↔ am_E d 1 Q (23, L, st, g) := am_E_gt (by decide +kernel : am_dc 1 12 = some (.goto (11))) rfl rfl
theorem x_1_15   : am_E d 1 Q (15, L, st, g) ↔ am_K d 1 Q (am_stA 17 L st g 5) := am_E_astore (by decide +kernel : am_dc 1 15 = some (.astore 5)) rfl
theorem x_1_17   : am_E d 1 Q (17, L, st, g) ↔ am_E d 1 Q (18, L, .int (1) :: st, g) := am_E_iconst (by decide +kernel : am_dc 1 17 = some (.iconst (1))) (by decide) rfl
theorem x_1_18  : am_E d 1 Q (18, L, [.int x], g) ↔ if am_ok (FieldType.int) (.int x) = true then Q (.inl (some (.int x))) g else False := am_E_ireturn (by decide +kernel : am_dc 1 18 = some (.ireturn)) (by decide +kernel)
theorem x_1_19   : am_E d 1 Q (19, L, st, g) ↔ am_K d 1 Q (am_stA 21 L st g 5) := am_E_astore (by decide +kernel : am_dc 1 19 = some (.astore 5)) rfl
theorem x_1_21   : am_E d 1 Q (21, L, st, g) ↔ am_E d 1 Q (22, L, .int (2) :: st, g) := am_E_iconst (by decide +kernel : am_dc 1 21 = some (.iconst (2))) (by decide) rfl
theorem x_1_22  : am_E d 1 Q (22, L, [.int x], g) ↔ if am_ok (FieldType.int) (.int x) = true then Q (.inl (some (.int x))) g else False := am_E_ireturn (by decide +kernel : am_dc 1 22 = some (.ireturn)) (by decide +kernel)
theorem x_1_23   : am_E d 1 Q (23, L, st, g) ↔ am_E d 1 Q (24, L, .int (0) :: st, g) := am_E_iconst (by decide +kernel : am_dc 1 23 = some (.iconst (0))) (by decide) rfl
theorem x_1_24  : am_E d 1 Q (24, L, [.int x], g) ↔ if am_ok (FieldType.int) (.int x) = true then Q (.inl (some (.int x))) g else False := am_E_ireturn (by decide +kernel : am_dc 1 24 = some (.ireturn)) (by decide +kernel)
theorem v_1_83 : am_iv 1 83 = some (1, 24, 4) := by decide +kernel
theorem t_1 : am_t 1 = some (FieldType.int) := by decide +kernel
theorem h_1 : am_h 1 = [(0, 12, 15, 13, 0), (0, 12, 19, 15, 1)] := by decide +kernel
theorem m_1 : am_m 1 = 6 := by decide +kernel
theorem x_2_0   : am_E d 2 Q (0, L, st, g) ↔ am_K d 2 Q (am_ldA 1 L st g 3) := am_E_aload_n (by decide +kernel : am_dc 2 0 = some (.aload_n 3)) rfl rfl
theorem x_2_1   : am_E d 2 Q (1, L, st, g) ↔ am_E d 2 Q (2, L, .int (0) :: st, g) := am_E_iconst (by decide +kernel : am_dc 2 1 = some (.iconst (0))) (by decide) rfl
theorem x_2_2   : am_E d 2 Q (2, L, st, g) ↔ am_K d 2 Q (am_ldA 3 L st g 0) := am_E_aload_n (by decide +kernel : am_dc 2 2 = some (.aload_n 0)) rfl rfl
theorem x_2_3   : am_E d 2 Q (3, L, st, g) ↔ am_K d 2 Q (am_ldI 4 L st g 1) := am_E_iload_n (by decide +kernel : am_dc 2 3 = some (.iload_n 1)) rfl rfl
theorem x_2_4   : am_E d 2 Q (4, L, st, g) ↔ am_K d 2 Q (am_ldI 5 L st g 2) := am_E_iload_n (by decide +kernel : am_dc 2 4 = some (.iload_n 2)) rfl rfl
theorem x_2_5  : am_E d 2 Q (5, L, st, g) ↔ am_K d 2 Q (am_S 2 (.invokevirtual 26) 5 L st g) := am_E_x (by decide +kernel : am_dc 2 5 = some (.invokevirtual 26))
theorem x_2_8   : am_E d 2 Q (8, L, .int x :: st, g) ↔ am_E d 2 Q (9, L, .long x.toInt64 :: st, g) := am_E_i2l (by decide +kernel : am_dc 2 8 = some (.i2l)) rfl
theorem x_2_9   : am_E d 2 Q (9, L, v :: .int x :: .ref a :: st, g) ↔ am_kg d 2 Q 10 L st (am_sat .lastore g a x v) := am_E_lastore (by decide +kernel : am_dc 2 9 = some (.lastore)) rfl
theorem x_2_10   : am_E d 2 Q (10, L, st, g) ↔ am_E d 2 Q (21, L, st, g) := am_E_gt (by decide +kernel : am_dc 2 10 = some (.goto (11))) rfl rfl
theorem x_2_13   : am_E d 2 Q (13, L, st, g) ↔ am_K d 2 Q (am_stA 15 L st g 4) := am_E_astore (by decide +kernel : am_dc 2 13 = some (.astore 4)) rfl
theorem x_2_15   : am_E d 2 Q (15, L, st, g) ↔ am_E d 2 Q (16, L, .int (1) :: st, g) := am_E_iconst (by decide +kernel : am_dc 2 15 = some (.iconst (1))) (by decide) rfl
theorem x_2_16  : am_E d 2 Q (16, L, [.int x], g) ↔ if am_ok (FieldType.int) (.int x) = true then Q (.inl (some (.int x))) g else False := am_E_ireturn (by decide +kernel : am_dc 2 16 = some (.ireturn)) (by decide +kernel)
theorem x_2_17   : am_E d 2 Q (17, L, st, g) ↔ am_K d 2 Q (am_stA 19 L st g 4) := am_E_astore (by decide +kernel : am_dc 2 17 = some (.astore 4)) rfl
theorem x_2_19   : am_E d 2 Q (19, L, st, g) ↔ am_E d 2 Q (20, L, .int (2) :: st, g) := am_E_iconst (by decide +kernel : am_dc 2 19 = some (.iconst (2))) (by decide) rfl
theorem x_2_20  : am_E d 2 Q (20, L, [.int x], g) ↔ if am_ok (FieldType.int) (.int x) = true then Q (.inl (some (.int x))) g else False := am_E_ireturn (by decide +kernel : am_dc 2 20 = some (.ireturn)) (by decide +kernel)
theorem x_2_21   : am_E d 2 Q (21, L, st, g) ↔ am_E d 2 Q (22, L, .int (0) :: st, g) := am_E_iconst (by decide +kernel : am_dc 2 21 = some (.iconst (0))) (by decide) rfl
theorem x_2_22  : am_E d 2 Q (22, L, [.int x], g) ↔ if am_ok (FieldType.int) (.int x) = true then Q (.inl (some (.int x))) g else False := am_E_ireturn (by decide +kernel : am_dc 2 22 = some (.ireturn)) (by decide +kernel)
theorem v_2_26 : am_iv 2 26 = some (1, 25, 3) := by decide +kernel
theorem t_2 : am_t 2 = some (FieldType.int) := by decide +kernel
theorem h_2 : am_h 2 = [(0, 10, 13, 13, 0), (0, 10, 17, 15, 1)] := by decide +kernel
theorem m_2 : am_m 2 = 5 := by decide +kernel
theorem x_3_0   : am_E d 3 Q (0, L, st, g) ↔ am_K d 3 Q (am_ldA 1 L st g 2) := am_E_aload_n (by decide +kernel : am_dc 3 0 = some (.aload_n 2)) rfl rfl
theorem x_3_1   : am_E d 3 Q (1, L, st, g) ↔ am_E d 3 Q (2, L, .int (0) :: st, g) := am_E_iconst (by decide +kernel : am_dc 3 1 = some (.iconst (0))) (by decide) rfl
theorem x_3_2   : am_E d 3 Q (2, L, st, g) ↔ am_K d 3 Q (am_ldA 3 L st g 0) := am_E_aload_n (by decide +kernel : am_dc 3 2 = some (.aload_n 0)) rfl rfl
theorem x_3_3   : am_E d 3 Q (3, L, st, g) ↔ am_K d 3 Q (am_ldI 4 L st g 1) := am_E_iload_n (by decide +kernel : am_dc 3 3 = some (.iload_n 1)) rfl rfl
theorem x_3_4  : am_E d 3 Q (4, L, st, g) ↔ am_K d 3 Q (am_S 3 (.invokevirtual 80) 4 L st g) := am_E_x (by decide +kernel : am_dc 3 4 = some (.invokevirtual 80))
theorem x_3_7   : am_E d 3 Q (7, L, .int x :: st, g) ↔ am_E d 3 Q (8, L, .long x.toInt64 :: st, g) := am_E_i2l (by decide +kernel : am_dc 3 7 = some (.i2l)) rfl
theorem x_3_8   : am_E d 3 Q (8, L, v :: .int x :: .ref a :: st, g) ↔ am_kg d 3 Q 9 L st (am_sat .lastore g a x v) := am_E_lastore (by decide +kernel : am_dc 3 8 = some (.lastore)) rfl
theorem x_3_9   : am_E d 3 Q (9, L, st, g) ↔ am_E d 3 Q (15, L, st, g) := am_E_gt (by decide +kernel : am_dc 3 9 = some (.goto (6))) rfl rfl
theorem x_3_12   : am_E d 3 Q (12, L, st, g) ↔ am_K d 3 Q (am_stA 13 L st g 3) := am_E_astore_n (by decide +kernel : am_dc 3 12 = some (.astore_n 3)) rfl rfl
theorem x_3_13   : am_E d 3 Q (13, L, st, g) ↔ am_E d 3 Q (14, L, .int (1) :: st, g) := am_E_iconst (by decide +kernel : am_dc 3 13 = some (.iconst (1))) (by decide) rfl
theorem x_3_14  : am_E d 3 Q (14, L, [.int x], g) ↔ if am_ok (FieldType.int) (.int x) = true then Q (.inl (some (.int x))) g else False := am_E_ireturn (by decide +kernel : am_dc 3 14 = some (.ireturn)) (by decide +kernel)
theorem x_3_15   : am_E d 3 Q (15, L, st, g) ↔ am_E d 3 Q (16, L, .int (0) :: st, g) := am_E_iconst (by decide +kernel : am_dc 3 15 = some (.iconst (0))) (by decide) rfl
theorem x_3_16  : am_E d 3 Q (16, L, [.int x], g) ↔ if am_ok (FieldType.int) (.int x) = true then Q (.inl (some (.int x))) g else False := am_E_ireturn (by decide +kernel : am_dc 3 16 = some (.ireturn)) (by decide +kernel)
theorem v_3_80 : am_iv 3 80 = some (1, 27, 2) := by decide +kernel
theorem t_3 : am_t 3 = some (FieldType.int) := by decide +kernel
theorem h_3 : am_h 3 = [(0, 9, 12, 15, 1)] := by decide +kernel
theorem m_3 : am_m 3 = 4 := by decide +kernel
theorem x_4_0   : am_E d 4 Q (0, L, st, g) ↔ am_K d 4 Q (am_ldA 1 L st g 3) := am_E_aload_n (by decide +kernel : am_dc 4 0 = some (.aload_n 3)) rfl rfl
theorem x_4_1   : am_E d 4 Q (1, L, st, g) ↔ am_E d 4 Q (2, L, .int (0) :: st, g) := am_E_iconst (by decide +kernel : am_dc 4 1 = some (.iconst (0))) (by decide) rfl
theorem x_4_2   : am_E d 4 Q (2, L, st, g) ↔ am_K d 4 Q (am_ldA 3 L st g 0) := am_E_aload_n (by decide +kernel : am_dc 4 2 = some (.aload_n 0)) rfl rfl
theorem x_4_3   : am_E d 4 Q (3, L, st, g) ↔ am_K d 4 Q (am_ldI 4 L st g 1) := am_E_iload_n (by decide +kernel : am_dc 4 3 = some (.iload_n 1)) rfl rfl
theorem x_4_4   : am_E d 4 Q (4, L, st, g) ↔ am_K d 4 Q (am_ldI 5 L st g 2) := am_E_iload_n (by decide +kernel : am_dc 4 4 = some (.iload_n 2)) rfl rfl
theorem x_4_5  : am_E d 4 Q (5, L, st, g) ↔ am_K d 4 Q (am_S 4 (.invokevirtual 22) 5 L st g) := am_E_x (by decide +kernel : am_dc 4 5 = some (.invokevirtual 22))
theorem x_4_8   : am_E d 4 Q (8, L, .int x :: st, g) ↔ am_E d 4 Q (9, L, .long x.toInt64 :: st, g) := am_E_i2l (by decide +kernel : am_dc 4 8 = some (.i2l)) rfl
theorem x_4_9   : am_E d 4 Q (9, L, v :: .int x :: .ref a :: st, g) ↔ am_kg d 4 Q 10 L st (am_sat .lastore g a x v) := am_E_lastore (by decide +kernel : am_dc 4 9 = some (.lastore)) rfl
theorem x_4_10   : am_E d 4 Q (10, L, st, g) ↔ am_E d 4 Q (21, L, st, g) := am_E_gt (by decide +kernel : am_dc 4 10 = some (.goto (11))) rfl rfl
theorem x_4_13   : am_E d 4 Q (13, L, st, g) ↔ am_K d 4 Q (am_stA 15 L st g 4) := am_E_astore (by decide +kernel : am_dc 4 13 = some (.astore 4)) rfl
theorem x_4_15   : am_E d 4 Q (15, L, st, g) ↔ am_E d 4 Q (16, L, .int (1) :: st, g) := am_E_iconst (by decide +kernel : am_dc 4 15 = some (.iconst (1))) (by decide) rfl
theorem x_4_16  : am_E d 4 Q (16, L, [.int x], g) ↔ if am_ok (FieldType.int) (.int x) = true then Q (.inl (some (.int x))) g else False := am_E_ireturn (by decide +kernel : am_dc 4 16 = some (.ireturn)) (by decide +kernel)
theorem x_4_17   : am_E d 4 Q (17, L, st, g) ↔ am_K d 4 Q (am_stA 19 L st g 4) := am_E_astore (by decide +kernel : am_dc 4 17 = some (.astore 4)) rfl
theorem x_4_19   : am_E d 4 Q (19, L, st, g) ↔ am_E d 4 Q (20, L, .int (2) :: st, g) := am_E_iconst (by decide +kernel : am_dc 4 19 = some (.iconst (2))) (by decide) rfl
theorem x_4_20  : am_E d 4 Q (20, L, [.int x], g) ↔ if am_ok (FieldType.int) (.int x) = true then Q (.inl (some (.int x))) g else False := am_E_ireturn (by decide +kernel : am_dc 4 20 = some (.ireturn)) (by decide +kernel)
theorem x_4_21   : am_E d 4 Q (21, L, st, g) ↔ am_E d 4 Q (22, L, .int (0) :: st, g) := am_E_iconst (by decide +kernel : am_dc 4 21 = some (.iconst (0))) (by decide) rfl
theorem x_4_22  : am_E d 4 Q (22, L, [.int x], g) ↔ if am_ok (FieldType.int) (.int x) = true then Q (.inl (some (.int x))) g else False := am_E_ireturn (by decide +kernel : am_dc 4 22 = some (.ireturn)) (by decide +kernel)
theorem v_4_22 : am_iv 4 22 = some (1, 30, 3) := by decide +kernel
theorem t_4 : am_t 4 = some (FieldType.int) := by decide +kernel
theorem h_4 : am_h 4 = [(0, 10, 13, 13, 0), (0, 10, 17, 17, 2)] := by decide +kernel
theorem m_4 : am_m 4 = 5 := by decide +kernel
theorem x_5_0   : am_E d 5 Q (0, L, st, g) ↔ am_K d 5 Q (am_ldA 1 L st g 2) := am_E_aload_n (by decide +kernel : am_dc 5 0 = some (.aload_n 2)) rfl rfl
theorem x_5_1   : am_E d 5 Q (1, L, st, g) ↔ am_E d 5 Q (2, L, .int (0) :: st, g) := am_E_iconst (by decide +kernel : am_dc 5 1 = some (.iconst (0))) (by decide) rfl
theorem x_5_2   : am_E d 5 Q (2, L, st, g) ↔ am_K d 5 Q (am_ldA 3 L st g 0) := am_E_aload_n (by decide +kernel : am_dc 5 2 = some (.aload_n 0)) rfl rfl
theorem x_5_3   : am_E d 5 Q (3, L, st, g) ↔ am_K d 5 Q (am_ldI 4 L st g 1) := am_E_iload_n (by decide +kernel : am_dc 5 3 = some (.iload_n 1)) rfl rfl
theorem x_5_4  : am_E d 5 Q (4, L, st, g) ↔ am_K d 5 Q (am_S 5 (.invokevirtual 67) 4 L st g) := am_E_x (by decide +kernel : am_dc 5 4 = some (.invokevirtual 67))
theorem x_5_7   : am_E d 5 Q (7, L, .int x :: st, g) ↔ am_E d 5 Q (8, L, .long x.toInt64 :: st, g) := am_E_i2l (by decide +kernel : am_dc 5 7 = some (.i2l)) rfl
theorem x_5_8   : am_E d 5 Q (8, L, v :: .int x :: .ref a :: st, g) ↔ am_kg d 5 Q 9 L st (am_sat .lastore g a x v) := am_E_lastore (by decide +kernel : am_dc 5 8 = some (.lastore)) rfl
theorem x_5_9   : am_E d 5 Q (9, L, st, g) ↔ am_E d 5 Q (15, L, st, g) := am_E_gt (by decide +kernel : am_dc 5 9 = some (.goto (6))) rfl rfl
theorem x_5_12   : am_E d 5 Q (12, L, st, g) ↔ am_K d 5 Q (am_stA 13 L st g 3) := am_E_astore_n (by decide +kernel : am_dc 5 12 = some (.astore_n 3)) rfl rfl
theorem x_5_13   : am_E d 5 Q (13, L, st, g) ↔ am_E d 5 Q (14, L, .int (1) :: st, g) := am_E_iconst (by decide +kernel : am_dc 5 13 = some (.iconst (1))) (by decide) rfl
theorem x_5_14  : am_E d 5 Q (14, L, [.int x], g) ↔ if am_ok (FieldType.int) (.int x) = true then Q (.inl (some (.int x))) g else False := am_E_ireturn (by decide +kernel : am_dc 5 14 = some (.ireturn)) (by decide +kernel)
theorem x_5_15   : am_E d 5 Q (15, L, st, g) ↔ am_E d 5 Q (16, L, .int (0) :: st, g) := am_E_iconst (by decide +kernel : am_dc 5 15 = some (.iconst (0))) (by decide) rfl
theorem x_5_16  : am_E d 5 Q (16, L, [.int x], g) ↔ if am_ok (FieldType.int) (.int x) = true then Q (.inl (some (.int x))) g else False := am_E_ireturn (by decide +kernel : am_dc 5 16 = some (.ireturn)) (by decide +kernel)
theorem v_5_67 : am_iv 5 67 = some (1, 31, 2) := by decide +kernel
theorem t_5 : am_t 5 = some (FieldType.int) := by decide +kernel
theorem h_5 : am_h 5 = [(0, 9, 12, 17, 2)] := by decide +kernel
theorem m_5 : am_m 5 = 4 := by decide +kernel
theorem x_6_0   : am_E d 6 Q (0, L, st, g) ↔ am_K d 6 Q (am_ldA 1 L st g 2) := am_E_aload_n (by decide +kernel : am_dc 6 0 = some (.aload_n 2)) rfl rfl
theorem x_6_1   : am_E d 6 Q (1, L, st, g) ↔ am_E d 6 Q (2, L, .int (0) :: st, g) := am_E_iconst (by decide +kernel : am_dc 6 1 = some (.iconst (0))) (by decide) rfl
theorem x_6_2   : am_E d 6 Q (2, L, st, g) ↔ am_K d 6 Q (am_ldA 3 L st g 0) := am_E_aload_n (by decide +kernel : am_dc 6 2 = some (.aload_n 0)) rfl rfl
theorem x_6_3   : am_E d 6 Q (3, L, st, g) ↔ am_K d 6 Q (am_ldI 4 L st g 1) := am_E_iload_n (by decide +kernel : am_dc 6 3 = some (.iload_n 1)) rfl rfl
theorem x_6_4  : am_E d 6 Q (4, L, st, g) ↔ am_K d 6 Q (am_S 6 (.invokevirtual 37) 4 L st g) := am_E_x (by decide +kernel : am_dc 6 4 = some (.invokevirtual 37))
theorem x_6_7   : am_E d 6 Q (7, L, .int x :: st, g) ↔ am_E d 6 Q (8, L, .long x.toInt64 :: st, g) := am_E_i2l (by decide +kernel : am_dc 6 7 = some (.i2l)) rfl
theorem x_6_8   : am_E d 6 Q (8, L, v :: .int x :: .ref a :: st, g) ↔ am_kg d 6 Q 9 L st (am_sat .lastore g a x v) := am_E_lastore (by decide +kernel : am_dc 6 8 = some (.lastore)) rfl
theorem x_6_9   : am_E d 6 Q (9, L, st, g) ↔ am_E d 6 Q (15, L, st, g) := am_E_gt (by decide +kernel : am_dc 6 9 = some (.goto (6))) rfl rfl
theorem x_6_12   : am_E d 6 Q (12, L, st, g) ↔ am_K d 6 Q (am_stA 13 L st g 3) := am_E_astore_n (by decide +kernel : am_dc 6 12 = some (.astore_n 3)) rfl rfl
theorem x_6_13   : am_E d 6 Q (13, L, st, g) ↔ am_E d 6 Q (14, L, .int (1) :: st, g) := am_E_iconst (by decide +kernel : am_dc 6 13 = some (.iconst (1))) (by decide) rfl
theorem x_6_14  : am_E d 6 Q (14, L, [.int x], g) ↔ if am_ok (FieldType.int) (.int x) = true then Q (.inl (some (.int x))) g else False := am_E_ireturn (by decide +kernel : am_dc 6 14 = some (.ireturn)) (by decide +kernel)
theorem x_6_15   : am_E d 6 Q (15, L, st, g) ↔ am_E d 6 Q (16, L, .int (0) :: st, g) := am_E_iconst (by decide +kernel : am_dc 6 15 = some (.iconst (0))) (by decide) rfl
theorem x_6_16  : am_E d 6 Q (16, L, [.int x], g) ↔ if am_ok (FieldType.int) (.int x) = true then Q (.inl (some (.int x))) g else False := am_E_ireturn (by decide +kernel : am_dc 6 16 = some (.ireturn)) (by decide +kernel)
theorem v_6_37 : am_iv 6 37 = some (1, 32, 2) := by decide +kernel
theorem t_6 : am_t 6 = some (FieldType.int) := by decide +kernel
theorem h_6 : am_h 6 = [(0, 9, 12, 13, 0)] := by decide +kernel
theorem m_6 : am_m 6 = 4 := by decide +kernel
theorem x_7_0   : am_E d 7 Q (0, L, st, g) ↔ am_K d 7 Q (am_ldA 1 L st g 2) := am_E_aload_n (by decide +kernel : am_dc 7 0 = some (.aload_n 2)) rfl rfl
theorem x_7_1   : am_E d 7 Q (1, L, st, g) ↔ am_E d 7 Q (2, L, .int (0) :: st, g) := am_E_iconst (by decide +kernel : am_dc 7 1 = some (.iconst (0))) (by decide) rfl
theorem x_7_2   : am_E d 7 Q (2, L, st, g) ↔ am_K d 7 Q (am_ldA 3 L st g 0) := am_E_aload_n (by decide +kernel : am_dc 7 2 = some (.aload_n 0)) rfl rfl
theorem x_7_3   : am_E d 7 Q (3, L, st, g) ↔ am_K d 7 Q (am_ldI 4 L st g 1) := am_E_iload_n (by decide +kernel : am_dc 7 3 = some (.iload_n 1)) rfl rfl
theorem x_7_4  : am_E d 7 Q (4, L, st, g) ↔ am_K d 7 Q (am_S 7 (.invokevirtual 45) 4 L st g) := am_E_x (by decide +kernel : am_dc 7 4 = some (.invokevirtual 45))
theorem x_7_7   : am_E d 7 Q (7, L, .int x :: st, g) ↔ am_E d 7 Q (am_cmp .eq x 0 14 10, L, st, g) := am_E_if (by decide +kernel : am_dc 7 7 = some (.ifCond .eq (7))) rfl rfl
theorem x_7_10   : am_E d 7 Q (10, L, st, g) ↔ am_E d 7 Q (11, L, .long (1) :: st, g) := am_E_lconst (by decide +kernel : am_dc 7 10 = some (.lconst 1)) (by decide) rfl
theorem x_7_11   : am_E d 7 Q (11, L, st, g) ↔ am_E d 7 Q (15, L, st, g) := am_E_gt (by decide +kernel : am_dc 7 11 = some (.goto (4))) rfl rfl
theorem x_7_14   : am_E d 7 Q (14, L, st, g) ↔ am_E d 7 Q (15, L, .long (0) :: st, g) := am_E_lconst (by decide +kernel : am_dc 7 14 = some (.lconst 0)) (by decide) rfl
theorem x_7_15   : am_E d 7 Q (15, L, v :: .int x :: .ref a :: st, g) ↔ am_kg d 7 Q 16 L st (am_sat .lastore g a x v) := am_E_lastore (by decide +kernel : am_dc 7 15 = some (.lastore)) rfl
theorem x_7_16   : am_E d 7 Q (16, L, st, g) ↔ am_E d 7 Q (22, L, st, g) := am_E_gt (by decide +kernel : am_dc 7 16 = some (.goto (6))) rfl rfl
theorem x_7_19   : am_E d 7 Q (19, L, st, g) ↔ am_K d 7 Q (am_stA 20 L st g 3) := am_E_astore_n (by decide +kernel : am_dc 7 19 = some (.astore_n 3)) rfl rfl
theorem x_7_20   : am_E d 7 Q (20, L, st, g) ↔ am_E d 7 Q (21, L, .int (1) :: st, g) := am_E_iconst (by decide +kernel : am_dc 7 20 = some (.iconst (1))) (by decide) rfl
theorem x_7_21  : am_E d 7 Q (21, L, [.int x], g) ↔ if am_ok (FieldType.int) (.int x) = true then Q (.inl (some (.int x))) g else False := am_E_ireturn (by decide +kernel : am_dc 7 21 = some (.ireturn)) (by decide +kernel)
theorem x_7_22   : am_E d 7 Q (22, L, st, g) ↔ am_E d 7 Q (23, L, .int (0) :: st, g) := am_E_iconst (by decide +kernel : am_dc 7 22 = some (.iconst (0))) (by decide) rfl
theorem x_7_23  : am_E d 7 Q (23, L, [.int x], g) ↔ if am_ok (FieldType.int) (.int x) = true then Q (.inl (some (.int x))) g else False := am_E_ireturn (by decide +kernel : am_dc 7 23 = some (.ireturn)) (by decide +kernel)
theorem v_7_45 : am_iv 7 45 = some (1, 33, 2) := by decide +kernel
theorem t_7 : am_t 7 = some (FieldType.int) := by decide +kernel
theorem h_7 : am_h 7 = [(0, 16, 19, 13, 0)] := by decide +kernel
theorem m_7 : am_m 7 = 4 := by decide +kernel
theorem x_8_0   : am_E d 8 Q (0, L, st, g) ↔ am_K d 8 Q (am_ldA 1 L st g 2) := am_E_aload_n (by decide +kernel : am_dc 8 0 = some (.aload_n 2)) rfl rfl
theorem x_8_1   : am_E d 8 Q (1, L, st, g) ↔ am_E d 8 Q (2, L, .int (0) :: st, g) := am_E_iconst (by decide +kernel : am_dc 8 1 = some (.iconst (0))) (by decide) rfl
theorem x_8_2   : am_E d 8 Q (2, L, st, g) ↔ am_K d 8 Q (am_ldA 3 L st g 0) := am_E_aload_n (by decide +kernel : am_dc 8 2 = some (.aload_n 0)) rfl rfl
theorem x_8_3   : am_E d 8 Q (3, L, st, g) ↔ am_K d 8 Q (am_ldI 4 L st g 1) := am_E_iload_n (by decide +kernel : am_dc 8 3 = some (.iload_n 1)) rfl rfl
theorem x_8_4  : am_E d 8 Q (4, L, st, g) ↔ am_K d 8 Q (am_S 8 (.invokevirtual 86) 4 L st g) := am_E_x (by decide +kernel : am_dc 8 4 = some (.invokevirtual 86))
theorem x_8_7  : am_E d 8 Q (7, L, st, g) ↔ am_K d 8 Q (am_S 8 (.f2d) 7 L st g) := am_E_x (by decide +kernel : am_dc 8 7 = some (.f2d))
theorem x_8_8   : am_E d 8 Q (8, L, v :: .int x :: .ref a :: st, g) ↔ am_kg d 8 Q 9 L st (am_sat .dastore g a x v) := am_E_dastore (by decide +kernel : am_dc 8 8 = some (.dastore)) rfl
theorem x_8_9   : am_E d 8 Q (9, L, st, g) ↔ am_E d 8 Q (15, L, st, g) := am_E_gt (by decide +kernel : am_dc 8 9 = some (.goto (6))) rfl rfl
theorem x_8_12   : am_E d 8 Q (12, L, st, g) ↔ am_K d 8 Q (am_stA 13 L st g 3) := am_E_astore_n (by decide +kernel : am_dc 8 12 = some (.astore_n 3)) rfl rfl
theorem x_8_13   : am_E d 8 Q (13, L, st, g) ↔ am_E d 8 Q (14, L, .int (1) :: st, g) := am_E_iconst (by decide +kernel : am_dc 8 13 = some (.iconst (1))) (by decide) rfl
theorem x_8_14  : am_E d 8 Q (14, L, [.int x], g) ↔ if am_ok (FieldType.int) (.int x) = true then Q (.inl (some (.int x))) g else False := am_E_ireturn (by decide +kernel : am_dc 8 14 = some (.ireturn)) (by decide +kernel)
theorem x_8_15   : am_E d 8 Q (15, L, st, g) ↔ am_E d 8 Q (16, L, .int (0) :: st, g) := am_E_iconst (by decide +kernel : am_dc 8 15 = some (.iconst (0))) (by decide) rfl
theorem x_8_16  : am_E d 8 Q (16, L, [.int x], g) ↔ if am_ok (FieldType.int) (.int x) = true then Q (.inl (some (.int x))) g else False := am_E_ireturn (by decide +kernel : am_dc 8 16 = some (.ireturn)) (by decide +kernel)
theorem v_8_86 : am_iv 8 86 = some (1, 34, 2) := by decide +kernel
theorem t_8 : am_t 8 = some (FieldType.int) := by decide +kernel
theorem h_8 : am_h 8 = [(0, 9, 12, 13, 0)] := by decide +kernel
theorem m_8 : am_m 8 = 4 := by decide +kernel
theorem x_9_0   : am_E d 9 Q (0, L, st, g) ↔ am_K d 9 Q (am_ldA 1 L st g 2) := am_E_aload_n (by decide +kernel : am_dc 9 0 = some (.aload_n 2)) rfl rfl
theorem x_9_1   : am_E d 9 Q (1, L, st, g) ↔ am_E d 9 Q (2, L, .int (0) :: st, g) := am_E_iconst (by decide +kernel : am_dc 9 1 = some (.iconst (0))) (by decide) rfl
theorem x_9_2   : am_E d 9 Q (2, L, st, g) ↔ am_K d 9 Q (am_ldA 3 L st g 0) := am_E_aload_n (by decide +kernel : am_dc 9 2 = some (.aload_n 0)) rfl rfl
theorem x_9_3   : am_E d 9 Q (3, L, st, g) ↔ am_K d 9 Q (am_ldI 4 L st g 1) := am_E_iload_n (by decide +kernel : am_dc 9 3 = some (.iload_n 1)) rfl rfl
theorem x_9_4  : am_E d 9 Q (4, L, st, g) ↔ am_K d 9 Q (am_S 9 (.invokevirtual 58) 4 L st g) := am_E_x (by decide +kernel : am_dc 9 4 = some (.invokevirtual 58))
theorem x_9_7   : am_E d 9 Q (7, L, .int x :: st, g) ↔ am_E d 9 Q (8, L, .long x.toInt64 :: st, g) := am_E_i2l (by decide +kernel : am_dc 9 7 = some (.i2l)) rfl
theorem x_9_8   : am_E d 9 Q (8, L, v :: .int x :: .ref a :: st, g) ↔ am_kg d 9 Q 9 L st (am_sat .lastore g a x v) := am_E_lastore (by decide +kernel : am_dc 9 8 = some (.lastore)) rfl
theorem x_9_9   : am_E d 9 Q (9, L, st, g) ↔ am_E d 9 Q (15, L, st, g) := am_E_gt (by decide +kernel : am_dc 9 9 = some (.goto (6))) rfl rfl
theorem x_9_12   : am_E d 9 Q (12, L, st, g) ↔ am_K d 9 Q (am_stA 13 L st g 3) := am_E_astore_n (by decide +kernel : am_dc 9 12 = some (.astore_n 3)) rfl rfl
theorem x_9_13   : am_E d 9 Q (13, L, st, g) ↔ am_E d 9 Q (14, L, .int (1) :: st, g) := am_E_iconst (by decide +kernel : am_dc 9 13 = some (.iconst (1))) (by decide) rfl
theorem x_9_14  : am_E d 9 Q (14, L, [.int x], g) ↔ if am_ok (FieldType.int) (.int x) = true then Q (.inl (some (.int x))) g else False := am_E_ireturn (by decide +kernel : am_dc 9 14 = some (.ireturn)) (by decide +kernel)
theorem x_9_15   : am_E d 9 Q (15, L, st, g) ↔ am_E d 9 Q (16, L, .int (0) :: st, g) := am_E_iconst (by decide +kernel : am_dc 9 15 = some (.iconst (0))) (by decide) rfl
theorem x_9_16  : am_E d 9 Q (16, L, [.int x], g) ↔ if am_ok (FieldType.int) (.int x) = true then Q (.inl (some (.int x))) g else False := am_E_ireturn (by decide +kernel : am_dc 9 16 = some (.ireturn)) (by decide +kernel)
theorem v_9_58 : am_iv 9 58 = some (1, 35, 2) := by decide +kernel
theorem t_9 : am_t 9 = some (FieldType.int) := by decide +kernel
theorem h_9 : am_h 9 = [(0, 9, 12, 15, 1)] := by decide +kernel
theorem m_9 : am_m 9 = 4 := by decide +kernel
theorem x_10_0   : am_E d 10 Q (0, L, st, g) ↔ am_K d 10 Q (am_ldA 1 L st g 1) := am_E_aload_n (by decide +kernel : am_dc 10 0 = some (.aload_n 1)) rfl rfl
theorem x_10_1   : am_E d 10 Q (1, L, st, g) ↔ am_E d 10 Q (2, L, .int (0) :: st, g) := am_E_iconst (by decide +kernel : am_dc 10 1 = some (.iconst (0))) (by decide) rfl
theorem x_10_2   : am_E d 10 Q (2, L, st, g) ↔ am_K d 10 Q (am_ldA 3 L st g 0) := am_E_aload_n (by decide +kernel : am_dc 10 2 = some (.aload_n 0)) rfl rfl
theorem x_10_3  : am_E d 10 Q (3, L, st, g) ↔ am_K d 10 Q (am_S 10 (.invokevirtual 64) 3 L st g) := am_E_x (by decide +kernel : am_dc 10 3 = some (.invokevirtual 64))
theorem x_10_6   : am_E d 10 Q (6, L, .int x :: st, g) ↔ am_E d 10 Q (7, L, .long x.toInt64 :: st, g) := am_E_i2l (by decide +kernel : am_dc 10 6 = some (.i2l)) rfl
theorem x_10_7   : am_E d 10 Q (7, L, v :: .int x :: .ref a :: st, g) ↔ am_kg d 10 Q 8 L st (am_sat .lastore g a x v) := am_E_lastore (by decide +kernel : am_dc 10 7 = some (.lastore)) rfl
theorem x_10_8   : am_E d 10 Q (8, L, st, g) ↔ am_E d 10 Q (14, L, st, g) := am_E_gt (by decide +kernel : am_dc 10 8 = some (.goto (6))) rfl rfl
theorem x_10_11   : am_E d 10 Q (11, L, st, g) ↔ am_K d 10 Q (am_stA 12 L st g 2) := am_E_astore_n (by decide +kernel : am_dc 10 11 = some (.astore_n 2)) rfl rfl
theorem x_10_12   : am_E d 10 Q (12, L, st, g) ↔ am_E d 10 Q (13, L, .int (1) :: st, g) := am_E_iconst (by decide +kernel : am_dc 10 12 = some (.iconst (1))) (by decide) rfl
theorem x_10_13  : am_E d 10 Q (13, L, [.int x], g) ↔ if am_ok (FieldType.int) (.int x) = true then Q (.inl (some (.int x))) g else False := am_E_ireturn (by decide +kernel : am_dc 10 13 = some (.ireturn)) (by decide +kernel)
theorem x_10_14   : am_E d 10 Q (14, L, st, g) ↔ am_E d 10 Q (15, L, .int (0) :: st, g) := am_E_iconst (by decide +kernel : am_dc 10 14 = some (.iconst (0))) (by decide) rfl
theorem x_10_15  : am_E d 10 Q (15, L, [.int x], g) ↔ if am_ok (FieldType.int) (.int x) = true then Q (.inl (some (.int x))) g else False := am_E_ireturn (by decide +kernel : am_dc 10 15 = some (.ireturn)) (by decide +kernel)
theorem v_10_64 : am_iv 10 64 = some (1, 36, 1) := by decide +kernel
theorem t_10 : am_t 10 = some (FieldType.int) := by decide +kernel
theorem h_10 : am_h 10 = [(0, 8, 11, 17, 2)] := by decide +kernel
theorem m_10 : am_m 10 = 3 := by decide +kernel
theorem x_11_0   : am_E d 11 Q (0, L, st, g) ↔ am_K d 11 Q (am_ldA 2 L st g 4) := am_E_aload (by decide +kernel : am_dc 11 0 = some (.aload 4)) rfl
theorem x_11_2   : am_E d 11 Q (2, L, st, g) ↔ am_E d 11 Q (3, L, .int (0) :: st, g) := am_E_iconst (by decide +kernel : am_dc 11 2 = some (.iconst (0))) (by decide) rfl
theorem x_11_3   : am_E d 11 Q (3, L, st, g) ↔ am_K d 11 Q (am_ldA 4 L st g 0) := am_E_aload_n (by decide +kernel : am_dc 11 3 = some (.aload_n 0)) rfl rfl
theorem x_11_4   : am_E d 11 Q (4, L, st, g) ↔ am_K d 11 Q (am_ldI 5 L st g 1) := am_E_iload_n (by decide +kernel : am_dc 11 4 = some (.iload_n 1)) rfl rfl
theorem x_11_5   : am_E d 11 Q (5, L, st, g) ↔ am_K d 11 Q (am_ldI 6 L st g 2) := am_E_iload_n (by decide +kernel : am_dc 11 5 = some (.iload_n 2)) rfl rfl
theorem x_11_6   : am_E d 11 Q (6, L, st, g) ↔ am_K d 11 Q (am_ldI 7 L st g 3) := am_E_iload_n (by decide +kernel : am_dc 11 6 = some (.iload_n 3)) rfl rfl
theorem x_11_7  : am_E d 11 Q (7, L, st, g) ↔ am_K d 11 Q (am_S 11 (.invokevirtual 7) 7 L st g) := am_E_x (by decide +kernel : am_dc 11 7 = some (.invokevirtual 7))
theorem x_11_10   : am_E d 11 Q (10, L, .int x :: st, g) ↔ am_E d 11 Q (11, L, .long x.toInt64 :: st, g) := am_E_i2l (by decide +kernel : am_dc 11 10 = some (.i2l)) rfl
theorem x_11_11   : am_E d 11 Q (11, L, v :: .int x :: .ref a :: st, g) ↔ am_kg d 11 Q 12 L st (am_sat .lastore g a x v) := am_E_lastore (by decide +kernel : am_dc 11 11 = some (.lastore)) rfl
theorem x_11_12   : am_E d 11 Q (12, L, st, g) ↔ am_E d 11 Q (27, L, st, g) := am_E_gt (by decide +kernel : am_dc 11 12 = some (.goto (15))) rfl rfl
theorem x_11_15   : am_E d 11 Q (15, L, st, g) ↔ am_K d 11 Q (am_stA 17 L st g 5) := am_E_astore (by decide +kernel : am_dc 11 15 = some (.astore 5)) rfl
theorem x_11_17   : am_E d 11 Q (17, L, st, g) ↔ am_E d 11 Q (18, L, .int (1) :: st, g) := am_E_iconst (by decide +kernel : am_dc 11 17 = some (.iconst (1))) (by decide) rfl
theorem x_11_18  : am_E d 11 Q (18, L, [.int x], g) ↔ if am_ok (FieldType.int) (.int x) = true then Q (.inl (some (.int x))) g else False := am_E_ireturn (by decide +kernel : am_dc 11 18 = some (.ireturn)) (by decide +kernel)
theorem x_11_19   : am_E d 11 Q (19, L, st, g) ↔ am_K d 11 Q (am_stA 21 L st g 5) := am_E_astore (by decide +kernel : am_dc 11 19 = some (.astore 5)) rfl
theorem x_11_21   : am_E d 11 Q (21, L, st, g) ↔ am_E d 11 Q (22, L, .int (2) :: st, g) := am_E_iconst (by decide +kernel : am_dc 11 21 = some (.iconst (2))) (by decide) rfl
theorem x_11_22  : am_E d 11 Q (22, L, [.int x], g) ↔ if am_ok (FieldType.int) (.int x) = true then Q (.inl (some (.int x))) g else False := am_E_ireturn (by decide +kernel : am_dc 11 22 = some (.ireturn)) (by decide +kernel)
theorem x_11_23   : am_E d 11 Q (23, L, st, g) ↔ am_K d 11 Q (am_stA 25 L st g 5) := am_E_astore (by decide +kernel : am_dc 11 23 = some (.astore 5)) rfl
theorem x_11_25   : am_E d 11 Q (25, L, st, g) ↔ am_E d 11 Q (26, L, .int (3) :: st, g) := am_E_iconst (by decide +kernel : am_dc 11 25 = some (.iconst (3))) (by decide) rfl
theorem x_11_26  : am_E d 11 Q (26, L, [.int x], g) ↔ if am_ok (FieldType.int) (.int x) = true then Q (.inl (some (.int x))) g else False := am_E_ireturn (by decide +kernel : am_dc 11 26 = some (.ireturn)) (by decide +kernel)
theorem x_11_27   : am_E d 11 Q (27, L, st, g) ↔ am_E d 11 Q (28, L, .int (0) :: st, g) := am_E_iconst (by decide +kernel : am_dc 11 27 = some (.iconst (0))) (by decide) rfl
theorem x_11_28  : am_E d 11 Q (28, L, [.int x], g) ↔ if am_ok (FieldType.int) (.int x) = true then Q (.inl (some (.int x))) g else False := am_E_ireturn (by decide +kernel : am_dc 11 28 = some (.ireturn)) (by decide +kernel)
theorem v_11_7 : am_iv 11 7 = some (1, 37, 4) := by decide +kernel
theorem t_11 : am_t 11 = some (FieldType.int) := by decide +kernel
theorem h_11 : am_h 11 = [(0, 12, 15, 13, 0), (0, 12, 19, 15, 1), (0, 12, 23, 17, 2)] := by decide +kernel
theorem m_11 : am_m 11 = 6 := by decide +kernel
theorem x_12_0   : am_E d 12 Q (0, L, st, g) ↔ am_K d 12 Q (am_ldA 2 L st g 4) := am_E_aload (by decide +kernel : am_dc 12 0 = some (.aload 4)) rfl
theorem x_12_2   : am_E d 12 Q (2, L, st, g) ↔ am_E d 12 Q (3, L, .int (0) :: st, g) := am_E_iconst (by decide +kernel : am_dc 12 2 = some (.iconst (0))) (by decide) rfl
theorem x_12_3   : am_E d 12 Q (3, L, st, g) ↔ am_K d 12 Q (am_ldA 4 L st g 0) := am_E_aload_n (by decide +kernel : am_dc 12 3 = some (.aload_n 0)) rfl rfl
theorem x_12_4   : am_E d 12 Q (4, L, st, g) ↔ am_K d 12 Q (am_ldI 5 L st g 1) := am_E_iload_n (by decide +kernel : am_dc 12 4 = some (.iload_n 1)) rfl rfl
theorem x_12_5   : am_E d 12 Q (5, L, st, g) ↔ am_K d 12 Q (am_ldI 6 L st g 2) := am_E_iload_n (by decide +kernel : am_dc 12 5 = some (.iload_n 2)) rfl rfl
theorem x_12_6   : am_E d 12 Q (6, L, st, g) ↔ am_K d 12 Q (am_ldI 7 L st g 3) := am_E_iload_n (by decide +kernel : am_dc 12 6 = some (.iload_n 3)) rfl rfl
theorem x_12_7  : am_E d 12 Q (7, L, st, g) ↔ am_K d 12 Q (am_S 12 (.invokevirtual 19) 7 L st g) := am_E_x (by decide +kernel : am_dc 12 7 = some (.invokevirtual 19))
theorem x_12_10   : am_E d 12 Q (10, L, .int x :: st, g) ↔ am_E d 12 Q (11, L, .long x.toInt64 :: st, g) := am_E_i2l (by decide +kernel : am_dc 12 10 = some (.i2l)) rfl
theorem x_12_11   : am_E d 12 Q (11, L, v :: .int x :: .ref a :: st, g) ↔ am_kg d 12 Q 12 L st (am_sat .lastore g a x v) := am_E_lastore (by decide +kernel : am_dc 12 11 = some (.lastore)) rfl
theorem x_12_12   : am_E d 12 Q (12, L, st, g) ↔ am_E d 12 Q (23, L, st, g) := am_E_gt (by decide +kernel : am_dc 12 12 = some (.goto (11))) rfl rfl
theorem x_12_15   : am_E d 12 Q (15, L, st, g) ↔ am_K d 12 Q (am_stA 17 L st g 5) := am_E_astore (by decide +kernel : am_dc 12 15 = some (.astore 5)) rfl
theorem x_12_17   : am_E d 12 Q (17, L, st, g) ↔ am_E d 12 Q (18, L, .int (1) :: st, g) := am_E_iconst (by decide +kernel : am_dc 12 17 = some (.iconst (1))) (by decide) rfl
theorem x_12_18  : am_E d 12 Q (18, L, [.int x], g) ↔ if am_ok (FieldType.int) (.int x) = true then Q (.inl (some (.int x))) g else False := am_E_ireturn (by decide +kernel : am_dc 12 18 = some (.ireturn)) (by decide +kernel)
theorem x_12_19   : am_E d 12 Q (19, L, st, g) ↔ am_K d 12 Q (am_stA 21 L st g 5) := am_E_astore (by decide +kernel : am_dc 12 19 = some (.astore 5)) rfl
theorem x_12_21   : am_E d 12 Q (21, L, st, g) ↔ am_E d 12 Q (22, L, .int (2) :: st, g) := am_E_iconst (by decide +kernel : am_dc 12 21 = some (.iconst (2))) (by decide) rfl
theorem x_12_22  : am_E d 12 Q (22, L, [.int x], g) ↔ if am_ok (FieldType.int) (.int x) = true then Q (.inl (some (.int x))) g else False := am_E_ireturn (by decide +kernel : am_dc 12 22 = some (.ireturn)) (by decide +kernel)
theorem x_12_23   : am_E d 12 Q (23, L, st, g) ↔ am_E d 12 Q (24, L, .int (0) :: st, g) := am_E_iconst (by decide +kernel : am_dc 12 23 = some (.iconst (0))) (by decide) rfl
theorem x_12_24  : am_E d 12 Q (24, L, [.int x], g) ↔ if am_ok (FieldType.int) (.int x) = true then Q (.inl (some (.int x))) g else False := am_E_ireturn (by decide +kernel : am_dc 12 24 = some (.ireturn)) (by decide +kernel)
theorem v_12_19 : am_iv 12 19 = some (1, 38, 4) := by decide +kernel
theorem t_12 : am_t 12 = some (FieldType.int) := by decide +kernel
theorem h_12 : am_h 12 = [(0, 12, 15, 13, 0), (0, 12, 19, 15, 1)] := by decide +kernel
theorem m_12 : am_m 12 = 6 := by decide +kernel
theorem x_13_0   : am_E d 13 Q (0, L, st, g) ↔ am_K d 13 Q (am_ldA 1 L st g 0) := am_E_aload_n (by decide +kernel : am_dc 13 0 = some (.aload_n 0)) rfl rfl
theorem x_13_1   : am_E d 13 Q (1, L, st, g) ↔ am_K d 13 Q (am_ldI 2 L st g 1) := am_E_iload_n (by decide +kernel : am_dc 13 1 = some (.iload_n 1)) rfl rfl
theorem x_13_2   : am_E d 13 Q (2, L, st, g) ↔ am_K d 13 Q (am_ldI 3 L st g 2) := am_E_iload_n (by decide +kernel : am_dc 13 2 = some (.iload_n 2)) rfl rfl
theorem x_13_3   : am_E d 13 Q (3, L, st, g) ↔ am_K d 13 Q (am_ldI 4 L st g 3) := am_E_iload_n (by decide +kernel : am_dc 13 3 = some (.iload_n 3)) rfl rfl
theorem x_13_4  : am_E d 13 Q (4, L, st, g) ↔ am_K d 13 Q (am_S 13 (.invokevirtual 29) 4 L st g) := am_E_x (by decide +kernel : am_dc 13 4 = some (.invokevirtual 29))
theorem x_13_7   : am_E d 13 Q (7, L, st, g) ↔ am_E d 13 Q (18, L, st, g) := am_E_gt (by decide +kernel : am_dc 13 7 = some (.goto (11))) rfl rfl
theorem x_13_10   : am_E d 13 Q (10, L, st, g) ↔ am_K d 13 Q (am_stA 12 L st g 4) := am_E_astore (by decide +kernel : am_dc 13 10 = some (.astore 4)) rfl
theorem x_13_12   : am_E d 13 Q (12, L, st, g) ↔ am_E d 13 Q (13, L, .int (1) :: st, g) := am_E_iconst (by decide +kernel : am_dc 13 12 = some (.iconst (1))) (by decide) rfl
theorem x_13_13  : am_E d 13 Q (13, L, [.int x], g) ↔ if am_ok (FieldType.int) (.int x) = true then Q (.inl (some (.int x))) g else False := am_E_ireturn (by decide +kernel : am_dc 13 13 = some (.ireturn)) (by decide +kernel)
theorem x_13_14   : am_E d 13 Q (14, L, st, g) ↔ am_K d 13 Q (am_stA 16 L st g 4) := am_E_astore (by decide +kernel : am_dc 13 14 = some (.astore 4)) rfl
theorem x_13_16   : am_E d 13 Q (16, L, st, g) ↔ am_E d 13 Q (17, L, .int (2) :: st, g) := am_E_iconst (by decide +kernel : am_dc 13 16 = some (.iconst (2))) (by decide) rfl
theorem x_13_17  : am_E d 13 Q (17, L, [.int x], g) ↔ if am_ok (FieldType.int) (.int x) = true then Q (.inl (some (.int x))) g else False := am_E_ireturn (by decide +kernel : am_dc 13 17 = some (.ireturn)) (by decide +kernel)
theorem x_13_18   : am_E d 13 Q (18, L, st, g) ↔ am_E d 13 Q (19, L, .int (0) :: st, g) := am_E_iconst (by decide +kernel : am_dc 13 18 = some (.iconst (0))) (by decide) rfl
theorem x_13_19  : am_E d 13 Q (19, L, [.int x], g) ↔ if am_ok (FieldType.int) (.int x) = true then Q (.inl (some (.int x))) g else False := am_E_ireturn (by decide +kernel : am_dc 13 19 = some (.ireturn)) (by decide +kernel)
theorem v_13_29 : am_iv 13 29 = some (1, 39, 4) := by decide +kernel
theorem t_13 : am_t 13 = some (FieldType.int) := by decide +kernel
theorem h_13 : am_h 13 = [(0, 7, 10, 13, 0), (0, 7, 14, 15, 1)] := by decide +kernel
theorem m_13 : am_m 13 = 5 := by decide +kernel
theorem x_14_0   : am_E d 14 Q (0, L, st, g) ↔ am_K d 14 Q (am_ldA 1 L st g 0) := am_E_aload_n (by decide +kernel : am_dc 14 0 = some (.aload_n 0)) rfl rfl
theorem x_14_1   : am_E d 14 Q (1, L, st, g) ↔ am_K d 14 Q (am_ldI 2 L st g 1) := am_E_iload_n (by decide +kernel : am_dc 14 1 = some (.iload_n 1)) rfl rfl
theorem x_14_2   : am_E d 14 Q (2, L, st, g) ↔ am_K d 14 Q (am_ldI 3 L st g 2) := am_E_iload_n (by decide +kernel : am_dc 14 2 = some (.iload_n 2)) rfl rfl
theorem x_14_3  : am_E d 14 Q (3, L, st, g) ↔ am_K d 14 Q (am_S 14 (.invokevirtual 41) 3 L st g) := am_E_x (by decide +kernel : am_dc 14 3 = some (.invokevirtual 41))
theorem x_14_6   : am_E d 14 Q (6, L, st, g) ↔ am_E d 14 Q (18, L, st, g) := am_E_gt (by decide +kernel : am_dc 14 6 = some (.goto (12))) rfl rfl
theorem x_14_9   : am_E d 14 Q (9, L, st, g) ↔ am_K d 14 Q (am_stA 10 L st g 3) := am_E_astore_n (by decide +kernel : am_dc 14 9 = some (.astore_n 3)) rfl rfl
theorem x_14_10   : am_E d 14 Q (10, L, st, g) ↔ am_E d 14 Q (11, L, .int (1) :: st, g) := am_E_iconst (by decide +kernel : am_dc 14 10 = some (.iconst (1))) (by decide) rfl
theorem x_14_11  : am_E d 14 Q (11, L, [.int x], g) ↔ if am_ok (FieldType.int) (.int x) = true then Q (.inl (some (.int x))) g else False := am_E_ireturn (by decide +kernel : am_dc 14 11 = some (.ireturn)) (by decide +kernel)
theorem x_14_12   : am_E d 14 Q (12, L, st, g) ↔ am_K d 14 Q (am_stA 13 L st g 3) := am_E_astore_n (by decide +kernel : am_dc 14 12 = some (.astore_n 3)) rfl rfl
theorem x_14_13   : am_E d 14 Q (13, L, st, g) ↔ am_E d 14 Q (14, L, .int (2) :: st, g) := am_E_iconst (by decide +kernel : am_dc 14 13 = some (.iconst (2))) (by decide) rfl
theorem x_14_14  : am_E d 14 Q (14, L, [.int x], g) ↔ if am_ok (FieldType.int) (.int x) = true then Q (.inl (some (.int x))) g else False := am_E_ireturn (by decide +kernel : am_dc 14 14 = some (.ireturn)) (by decide +kernel)
theorem x_14_15   : am_E d 14 Q (15, L, st, g) ↔ am_K d 14 Q (am_stA 16 L st g 3) := am_E_astore_n (by decide +kernel : am_dc 14 15 = some (.astore_n 3)) rfl rfl
theorem x_14_16   : am_E d 14 Q (16, L, st, g) ↔ am_E d 14 Q (17, L, .int (3) :: st, g) := am_E_iconst (by decide +kernel : am_dc 14 16 = some (.iconst (3))) (by decide) rfl
theorem x_14_17  : am_E d 14 Q (17, L, [.int x], g) ↔ if am_ok (FieldType.int) (.int x) = true then Q (.inl (some (.int x))) g else False := am_E_ireturn (by decide +kernel : am_dc 14 17 = some (.ireturn)) (by decide +kernel)
theorem x_14_18   : am_E d 14 Q (18, L, st, g) ↔ am_E d 14 Q (19, L, .int (0) :: st, g) := am_E_iconst (by decide +kernel : am_dc 14 18 = some (.iconst (0))) (by decide) rfl
theorem x_14_19  : am_E d 14 Q (19, L, [.int x], g) ↔ if am_ok (FieldType.int) (.int x) = true then Q (.inl (some (.int x))) g else False := am_E_ireturn (by decide +kernel : am_dc 14 19 = some (.ireturn)) (by decide +kernel)
theorem v_14_41 : am_iv 14 41 = some (1, 40, 3) := by decide +kernel
theorem t_14 : am_t 14 = some (FieldType.int) := by decide +kernel
theorem h_14 : am_h 14 = [(0, 6, 9, 13, 0), (0, 6, 12, 15, 1), (0, 6, 15, 17, 2)] := by decide +kernel
theorem m_14 : am_m 14 = 4 := by decide +kernel
theorem x_15_0   : am_E d 15 Q (0, L, st, g) ↔ am_K d 15 Q (am_ldA 1 L st g 1) := am_E_aload_n (by decide +kernel : am_dc 15 0 = some (.aload_n 1)) rfl rfl
theorem x_15_1   : am_E d 15 Q (1, L, st, g) ↔ am_E d 15 Q (2, L, .int (0) :: st, g) := am_E_iconst (by decide +kernel : am_dc 15 1 = some (.iconst (0))) (by decide) rfl
theorem x_15_2   : am_E d 15 Q (2, L, st, g) ↔ am_K d 15 Q (am_ldA 3 L st g 0) := am_E_aload_n (by decide +kernel : am_dc 15 2 = some (.aload_n 0)) rfl rfl
theorem x_15_3  : am_E d 15 Q (3, L, st, g) ↔ am_K d 15 Q (am_S 15 (.invokevirtual 77) 3 L st g) := am_E_x (by decide +kernel : am_dc 15 3 = some (.invokevirtual 77))
theorem x_15_6   : am_E d 15 Q (6, L, .int x :: st, g) ↔ am_E d 15 Q (7, L, .long x.toInt64 :: st, g) := am_E_i2l (by decide +kernel : am_dc 15 6 = some (.i2l)) rfl
theorem x_15_7   : am_E d 15 Q (7, L, v :: .int x :: .ref a :: st, g) ↔ am_kg d 15 Q 8 L st (am_sat .lastore g a x v) := am_E_lastore (by decide +kernel : am_dc 15 7 = some (.lastore)) rfl
theorem x_15_8   : am_E d 15 Q (8, L, st, g) ↔ am_E d 15 Q (14, L, st, g) := am_E_gt (by decide +kernel : am_dc 15 8 = some (.goto (6))) rfl rfl
theorem x_15_11   : am_E d 15 Q (11, L, st, g) ↔ am_K d 15 Q (am_stA 12 L st g 2) := am_E_astore_n (by decide +kernel : am_dc 15 11 = some (.astore_n 2)) rfl rfl
theorem x_15_12   : am_E d 15 Q (12, L, st, g) ↔ am_E d 15 Q (13, L, .int (1) :: st, g) := am_E_iconst (by decide +kernel : am_dc 15 12 = some (.iconst (1))) (by decide) rfl
theorem x_15_13  : am_E d 15 Q (13, L, [.int x], g) ↔ if am_ok (FieldType.int) (.int x) = true then Q (.inl (some (.int x))) g else False := am_E_ireturn (by decide +kernel : am_dc 15 13 = some (.ireturn)) (by decide +kernel)
theorem x_15_14   : am_E d 15 Q (14, L, st, g) ↔ am_E d 15 Q (15, L, .int (0) :: st, g) := am_E_iconst (by decide +kernel : am_dc 15 14 = some (.iconst (0))) (by decide) rfl
theorem x_15_15  : am_E d 15 Q (15, L, [.int x], g) ↔ if am_ok (FieldType.int) (.int x) = true then Q (.inl (some (.int x))) g else False := am_E_ireturn (by decide +kernel : am_dc 15 15 = some (.ireturn)) (by decide +kernel)
theorem v_15_77 : am_iv 15 77 = some (1, 41, 1) := by decide +kernel
theorem t_15 : am_t 15 = some (FieldType.int) := by decide +kernel
theorem h_15 : am_h 15 = [(0, 8, 11, 17, 2)] := by decide +kernel
theorem m_15 : am_m 15 = 3 := by decide +kernel
theorem x_16_0   : am_E d 16 Q (0, L, st, g) ↔ am_K d 16 Q (am_ldA 1 L st g 1) := am_E_aload_n (by decide +kernel : am_dc 16 0 = some (.aload_n 1)) rfl rfl
theorem x_16_1   : am_E d 16 Q (1, L, st, g) ↔ am_E d 16 Q (2, L, .int (0) :: st, g) := am_E_iconst (by decide +kernel : am_dc 16 1 = some (.iconst (0))) (by decide) rfl
theorem x_16_2   : am_E d 16 Q (2, L, st, g) ↔ am_K d 16 Q (am_ldA 3 L st g 0) := am_E_aload_n (by decide +kernel : am_dc 16 2 = some (.aload_n 0)) rfl rfl
theorem x_16_3  : am_E d 16 Q (3, L, st, g) ↔ am_K d 16 Q (am_S 16 (.invokevirtual 33) 3 L st g) := am_E_x (by decide +kernel : am_dc 16 3 = some (.invokevirtual 33))
theorem x_16_6   : am_E d 16 Q (6, L, .int x :: st, g) ↔ am_E d 16 Q (7, L, .long x.toInt64 :: st, g) := am_E_i2l (by decide +kernel : am_dc 16 6 = some (.i2l)) rfl
theorem x_16_7   : am_E d 16 Q (7, L, v :: .int x :: .ref a :: st, g) ↔ am_kg d 16 Q 8 L st (am_sat .lastore g a x v) := am_E_lastore (by decide +kernel : am_dc 16 7 = some (.lastore)) rfl
theorem x_16_8   : am_E d 16 Q (8, L, st, g) ↔ am_E d 16 Q (14, L, st, g) := am_E_gt (by decide +kernel : am_dc 16 8 = some (.goto (6))) rfl rfl
theorem x_16_11   : am_E d 16 Q (11, L, st, g) ↔ am_K d 16 Q (am_stA 12 L st g 2) := am_E_astore_n (by decide +kernel : am_dc 16 11 = some (.astore_n 2)) rfl rfl
theorem x_16_12   : am_E d 16 Q (12, L, st, g) ↔ am_E d 16 Q (13, L, .int (1) :: st, g) := am_E_iconst (by decide +kernel : am_dc 16 12 = some (.iconst (1))) (by decide) rfl
theorem x_16_13  : am_E d 16 Q (13, L, [.int x], g) ↔ if am_ok (FieldType.int) (.int x) = true then Q (.inl (some (.int x))) g else False := am_E_ireturn (by decide +kernel : am_dc 16 13 = some (.ireturn)) (by decide +kernel)
theorem x_16_14   : am_E d 16 Q (14, L, st, g) ↔ am_E d 16 Q (15, L, .int (0) :: st, g) := am_E_iconst (by decide +kernel : am_dc 16 14 = some (.iconst (0))) (by decide) rfl
theorem x_16_15  : am_E d 16 Q (15, L, [.int x], g) ↔ if am_ok (FieldType.int) (.int x) = true then Q (.inl (some (.int x))) g else False := am_E_ireturn (by decide +kernel : am_dc 16 15 = some (.ireturn)) (by decide +kernel)
theorem v_16_33 : am_iv 16 33 = some (1, 42, 1) := by decide +kernel
theorem t_16 : am_t 16 = some (FieldType.int) := by decide +kernel
theorem h_16 : am_h 16 = [(0, 8, 11, 17, 2)] := by decide +kernel
theorem m_16 : am_m 16 = 3 := by decide +kernel
theorem x_17_0   : am_E d 17 Q (0, L, st, g) ↔ am_K d 17 Q (am_ldA 1 L st g 3) := am_E_aload_n (by decide +kernel : am_dc 17 0 = some (.aload_n 3)) rfl rfl
theorem x_17_1   : am_E d 17 Q (1, L, st, g) ↔ am_E d 17 Q (2, L, .int (0) :: st, g) := am_E_iconst (by decide +kernel : am_dc 17 1 = some (.iconst (0))) (by decide) rfl
theorem x_17_2   : am_E d 17 Q (2, L, st, g) ↔ am_K d 17 Q (am_ldA 3 L st g 0) := am_E_aload_n (by decide +kernel : am_dc 17 2 = some (.aload_n 0)) rfl rfl
theorem x_17_3   : am_E d 17 Q (3, L, st, g) ↔ am_K d 17 Q (am_ldI 4 L st g 1) := am_E_iload_n (by decide +kernel : am_dc 17 3 = some (.iload_n 1)) rfl rfl
theorem x_17_4   : am_E d 17 Q (4, L, st, g) ↔ am_K d 17 Q (am_ldI 5 L st g 2) := am_E_iload_n (by decide +kernel : am_dc 17 4 = some (.iload_n 2)) rfl rfl
theorem x_17_5  : am_E d 17 Q (5, L, st, g) ↔ am_K d 17 Q (am_S 17 (.invokevirtual 55) 5 L st g) := am_E_x (by decide +kernel : am_dc 17 5 = some (.invokevirtual 55))
theorem x_17_8   : am_E d 17 Q (8, L, .int x :: st, g) ↔ am_E d 17 Q (9, L, .long x.toInt64 :: st, g) := am_E_i2l (by decide +kernel : am_dc 17 8 = some (.i2l)) rfl
theorem x_17_9   : am_E d 17 Q (9, L, v :: .int x :: .ref a :: st, g) ↔ am_kg d 17 Q 10 L st (am_sat .lastore g a x v) := am_E_lastore (by decide +kernel : am_dc 17 9 = some (.lastore)) rfl
theorem x_17_10   : am_E d 17 Q (10, L, st, g) ↔ am_E d 17 Q (21, L, st, g) := am_E_gt (by decide +kernel : am_dc 17 10 = some (.goto (11))) rfl rfl
theorem x_17_13   : am_E d 17 Q (13, L, st, g) ↔ am_K d 17 Q (am_stA 15 L st g 4) := am_E_astore (by decide +kernel : am_dc 17 13 = some (.astore 4)) rfl
theorem x_17_15   : am_E d 17 Q (15, L, st, g) ↔ am_E d 17 Q (16, L, .int (1) :: st, g) := am_E_iconst (by decide +kernel : am_dc 17 15 = some (.iconst (1))) (by decide) rfl
theorem x_17_16  : am_E d 17 Q (16, L, [.int x], g) ↔ if am_ok (FieldType.int) (.int x) = true then Q (.inl (some (.int x))) g else False := am_E_ireturn (by decide +kernel : am_dc 17 16 = some (.ireturn)) (by decide +kernel)
theorem x_17_17   : am_E d 17 Q (17, L, st, g) ↔ am_K d 17 Q (am_stA 19 L st g 4) := am_E_astore (by decide +kernel : am_dc 17 17 = some (.astore 4)) rfl
theorem x_17_19   : am_E d 17 Q (19, L, st, g) ↔ am_E d 17 Q (20, L, .int (2) :: st, g) := am_E_iconst (by decide +kernel : am_dc 17 19 = some (.iconst (2))) (by decide) rfl
theorem x_17_20  : am_E d 17 Q (20, L, [.int x], g) ↔ if am_ok (FieldType.int) (.int x) = true then Q (.inl (some (.int x))) g else False := am_E_ireturn (by decide +kernel : am_dc 17 20 = some (.ireturn)) (by decide +kernel)
theorem x_17_21   : am_E d 17 Q (21, L, st, g) ↔ am_E d 17 Q (22, L, .int (0) :: st, g) := am_E_iconst (by decide +kernel : am_dc 17 21 = some (.iconst (0))) (by decide) rfl
theorem x_17_22  : am_E d 17 Q (22, L, [.int x], g) ↔ if am_ok (FieldType.int) (.int x) = true then Q (.inl (some (.int x))) g else False := am_E_ireturn (by decide +kernel : am_dc 17 22 = some (.ireturn)) (by decide +kernel)
theorem v_17_55 : am_iv 17 55 = some (1, 43, 3) := by decide +kernel
theorem t_17 : am_t 17 = some (FieldType.int) := by decide +kernel
theorem h_17 : am_h 17 = [(0, 10, 13, 13, 0), (0, 10, 17, 17, 2)] := by decide +kernel
theorem m_17 : am_m 17 = 5 := by decide +kernel
theorem x_18_0   : am_E d 18 Q (0, L, st, g) ↔ am_K d 18 Q (am_ldA 1 L st g 3) := am_E_aload_n (by decide +kernel : am_dc 18 0 = some (.aload_n 3)) rfl rfl
theorem x_18_1   : am_E d 18 Q (1, L, st, g) ↔ am_E d 18 Q (2, L, .int (0) :: st, g) := am_E_iconst (by decide +kernel : am_dc 18 1 = some (.iconst (0))) (by decide) rfl
theorem x_18_2   : am_E d 18 Q (2, L, st, g) ↔ am_K d 18 Q (am_ldA 3 L st g 0) := am_E_aload_n (by decide +kernel : am_dc 18 2 = some (.aload_n 0)) rfl rfl
theorem x_18_3   : am_E d 18 Q (3, L, st, g) ↔ am_K d 18 Q (am_ldI 4 L st g 1) := am_E_iload_n (by decide +kernel : am_dc 18 3 = some (.iload_n 1)) rfl rfl
theorem x_18_4   : am_E d 18 Q (4, L, st, g) ↔ am_K d 18 Q (am_ldI 5 L st g 2) := am_E_iload_n (by decide +kernel : am_dc 18 4 = some (.iload_n 2)) rfl rfl
theorem x_18_5  : am_E d 18 Q (5, L, st, g) ↔ am_K d 18 Q (am_S 18 (.invokevirtual 71) 5 L st g) := am_E_x (by decide +kernel : am_dc 18 5 = some (.invokevirtual 71))
theorem x_18_8   : am_E d 18 Q (8, L, .int x :: st, g) ↔ am_E d 18 Q (9, L, .long x.toInt64 :: st, g) := am_E_i2l (by decide +kernel : am_dc 18 8 = some (.i2l)) rfl
theorem x_18_9   : am_E d 18 Q (9, L, v :: .int x :: .ref a :: st, g) ↔ am_kg d 18 Q 10 L st (am_sat .lastore g a x v) := am_E_lastore (by decide +kernel : am_dc 18 9 = some (.lastore)) rfl
theorem x_18_10   : am_E d 18 Q (10, L, st, g) ↔ am_E d 18 Q (25, L, st, g) := am_E_gt (by decide +kernel : am_dc 18 10 = some (.goto (15))) rfl rfl
theorem x_18_13   : am_E d 18 Q (13, L, st, g) ↔ am_K d 18 Q (am_stA 15 L st g 4) := am_E_astore (by decide +kernel : am_dc 18 13 = some (.astore 4)) rfl
theorem x_18_15   : am_E d 18 Q (15, L, st, g) ↔ am_E d 18 Q (16, L, .int (1) :: st, g) := am_E_iconst (by decide +kernel : am_dc 18 15 = some (.iconst (1))) (by decide) rfl
theorem x_18_16  : am_E d 18 Q (16, L, [.int x], g) ↔ if am_ok (FieldType.int) (.int x) = true then Q (.inl (some (.int x))) g else False := am_E_ireturn (by decide +kernel : am_dc 18 16 = some (.ireturn)) (by decide +kernel)
theorem x_18_17   : am_E d 18 Q (17, L, st, g) ↔ am_K d 18 Q (am_stA 19 L st g 4) := am_E_astore (by decide +kernel : am_dc 18 17 = some (.astore 4)) rfl
theorem x_18_19   : am_E d 18 Q (19, L, st, g) ↔ am_E d 18 Q (20, L, .int (2) :: st, g) := am_E_iconst (by decide +kernel : am_dc 18 19 = some (.iconst (2))) (by decide) rfl
theorem x_18_20  : am_E d 18 Q (20, L, [.int x], g) ↔ if am_ok (FieldType.int) (.int x) = true then Q (.inl (some (.int x))) g else False := am_E_ireturn (by decide +kernel : am_dc 18 20 = some (.ireturn)) (by decide +kernel)
theorem x_18_21   : am_E d 18 Q (21, L, st, g) ↔ am_K d 18 Q (am_stA 23 L st g 4) := am_E_astore (by decide +kernel : am_dc 18 21 = some (.astore 4)) rfl
theorem x_18_23   : am_E d 18 Q (23, L, st, g) ↔ am_E d 18 Q (24, L, .int (3) :: st, g) := am_E_iconst (by decide +kernel : am_dc 18 23 = some (.iconst (3))) (by decide) rfl
theorem x_18_24  : am_E d 18 Q (24, L, [.int x], g) ↔ if am_ok (FieldType.int) (.int x) = true then Q (.inl (some (.int x))) g else False := am_E_ireturn (by decide +kernel : am_dc 18 24 = some (.ireturn)) (by decide +kernel)
theorem x_18_25   : am_E d 18 Q (25, L, st, g) ↔ am_E d 18 Q (26, L, .int (0) :: st, g) := am_E_iconst (by decide +kernel : am_dc 18 25 = some (.iconst (0))) (by decide) rfl
theorem x_18_26  : am_E d 18 Q (26, L, [.int x], g) ↔ if am_ok (FieldType.int) (.int x) = true then Q (.inl (some (.int x))) g else False := am_E_ireturn (by decide +kernel : am_dc 18 26 = some (.ireturn)) (by decide +kernel)
theorem v_18_71 : am_iv 18 71 = some (1, 44, 3) := by decide +kernel
theorem t_18 : am_t 18 = some (FieldType.int) := by decide +kernel
theorem h_18 : am_h 18 = [(0, 10, 13, 13, 0), (0, 10, 17, 15, 1), (0, 10, 21, 17, 2)] := by decide +kernel
theorem m_18 : am_m 18 = 5 := by decide +kernel
theorem x_19_0   : am_E d 19 Q (0, L, st, g) ↔ am_K d 19 Q (am_ldA 1 L st g 2) := am_E_aload_n (by decide +kernel : am_dc 19 0 = some (.aload_n 2)) rfl rfl
theorem x_19_1   : am_E d 19 Q (1, L, st, g) ↔ am_E d 19 Q (2, L, .int (0) :: st, g) := am_E_iconst (by decide +kernel : am_dc 19 1 = some (.iconst (0))) (by decide) rfl
theorem x_19_2   : am_E d 19 Q (2, L, st, g) ↔ am_K d 19 Q (am_ldA 3 L st g 0) := am_E_aload_n (by decide +kernel : am_dc 19 2 = some (.aload_n 0)) rfl rfl
theorem x_19_3   : am_E d 19 Q (3, L, st, g) ↔ am_K d 19 Q (am_ldI 4 L st g 1) := am_E_iload_n (by decide +kernel : am_dc 19 3 = some (.iload_n 1)) rfl rfl
theorem x_19_4  : am_E d 19 Q (4, L, st, g) ↔ am_K d 19 Q (am_S 19 (.invokevirtual 49) 4 L st g) := am_E_x (by decide +kernel : am_dc 19 4 = some (.invokevirtual 49))
theorem x_19_7   : am_E d 19 Q (7, L, .int x :: st, g) ↔ am_E d 19 Q (8, L, .long x.toInt64 :: st, g) := am_E_i2l (by decide +kernel : am_dc 19 7 = some (.i2l)) rfl
theorem x_19_8   : am_E d 19 Q (8, L, v :: .int x :: .ref a :: st, g) ↔ am_kg d 19 Q 9 L st (am_sat .lastore g a x v) := am_E_lastore (by decide +kernel : am_dc 19 8 = some (.lastore)) rfl
theorem x_19_9   : am_E d 19 Q (9, L, st, g) ↔ am_E d 19 Q (18, L, st, g) := am_E_gt (by decide +kernel : am_dc 19 9 = some (.goto (9))) rfl rfl
theorem x_19_12   : am_E d 19 Q (12, L, st, g) ↔ am_K d 19 Q (am_stA 13 L st g 3) := am_E_astore_n (by decide +kernel : am_dc 19 12 = some (.astore_n 3)) rfl rfl
theorem x_19_13   : am_E d 19 Q (13, L, st, g) ↔ am_E d 19 Q (14, L, .int (1) :: st, g) := am_E_iconst (by decide +kernel : am_dc 19 13 = some (.iconst (1))) (by decide) rfl
theorem x_19_14  : am_E d 19 Q (14, L, [.int x], g) ↔ if am_ok (FieldType.int) (.int x) = true then Q (.inl (some (.int x))) g else False := am_E_ireturn (by decide +kernel : am_dc 19 14 = some (.ireturn)) (by decide +kernel)
theorem x_19_15   : am_E d 19 Q (15, L, st, g) ↔ am_K d 19 Q (am_stA 16 L st g 3) := am_E_astore_n (by decide +kernel : am_dc 19 15 = some (.astore_n 3)) rfl rfl
theorem x_19_16   : am_E d 19 Q (16, L, st, g) ↔ am_E d 19 Q (17, L, .int (2) :: st, g) := am_E_iconst (by decide +kernel : am_dc 19 16 = some (.iconst (2))) (by decide) rfl
theorem x_19_17  : am_E d 19 Q (17, L, [.int x], g) ↔ if am_ok (FieldType.int) (.int x) = true then Q (.inl (some (.int x))) g else False := am_E_ireturn (by decide +kernel : am_dc 19 17 = some (.ireturn)) (by decide +kernel)
theorem x_19_18   : am_E d 19 Q (18, L, st, g) ↔ am_E d 19 Q (19, L, .int (0) :: st, g) := am_E_iconst (by decide +kernel : am_dc 19 18 = some (.iconst (0))) (by decide) rfl
theorem x_19_19  : am_E d 19 Q (19, L, [.int x], g) ↔ if am_ok (FieldType.int) (.int x) = true then Q (.inl (some (.int x))) g else False := am_E_ireturn (by decide +kernel : am_dc 19 19 = some (.ireturn)) (by decide +kernel)
theorem v_19_49 : am_iv 19 49 = some (1, 45, 2) := by decide +kernel
theorem t_19 : am_t 19 = some (FieldType.int) := by decide +kernel
theorem h_19 : am_h 19 = [(0, 9, 12, 13, 0), (0, 9, 15, 17, 2)] := by decide +kernel
theorem m_19 : am_m 19 = 4 := by decide +kernel
theorem x_20_0   : am_E d 20 Q (0, L, st, g) ↔ am_K d 20 Q (am_ldA 1 L st g 1) := am_E_aload_n (by decide +kernel : am_dc 20 0 = some (.aload_n 1)) rfl rfl
theorem x_20_1   : am_E d 20 Q (1, L, st, g) ↔ am_E d 20 Q (2, L, .int (0) :: st, g) := am_E_iconst (by decide +kernel : am_dc 20 1 = some (.iconst (0))) (by decide) rfl
theorem x_20_2   : am_E d 20 Q (2, L, st, g) ↔ am_K d 20 Q (am_ldA 3 L st g 0) := am_E_aload_n (by decide +kernel : am_dc 20 2 = some (.aload_n 0)) rfl rfl
theorem x_20_3  : am_E d 20 Q (3, L, st, g) ↔ am_K d 20 Q (am_S 20 (.invokevirtual 74) 3 L st g) := am_E_x (by decide +kernel : am_dc 20 3 = some (.invokevirtual 74))
theorem x_20_6   : am_E d 20 Q (6, L, .int x :: st, g) ↔ am_E d 20 Q (7, L, .long x.toInt64 :: st, g) := am_E_i2l (by decide +kernel : am_dc 20 6 = some (.i2l)) rfl
theorem x_20_7   : am_E d 20 Q (7, L, v :: .int x :: .ref a :: st, g) ↔ am_kg d 20 Q 8 L st (am_sat .lastore g a x v) := am_E_lastore (by decide +kernel : am_dc 20 7 = some (.lastore)) rfl
theorem x_20_8   : am_E d 20 Q (8, L, st, g) ↔ am_E d 20 Q (14, L, st, g) := am_E_gt (by decide +kernel : am_dc 20 8 = some (.goto (6))) rfl rfl
theorem x_20_11   : am_E d 20 Q (11, L, st, g) ↔ am_K d 20 Q (am_stA 12 L st g 2) := am_E_astore_n (by decide +kernel : am_dc 20 11 = some (.astore_n 2)) rfl rfl
theorem x_20_12   : am_E d 20 Q (12, L, st, g) ↔ am_E d 20 Q (13, L, .int (1) :: st, g) := am_E_iconst (by decide +kernel : am_dc 20 12 = some (.iconst (1))) (by decide) rfl
theorem x_20_13  : am_E d 20 Q (13, L, [.int x], g) ↔ if am_ok (FieldType.int) (.int x) = true then Q (.inl (some (.int x))) g else False := am_E_ireturn (by decide +kernel : am_dc 20 13 = some (.ireturn)) (by decide +kernel)
theorem x_20_14   : am_E d 20 Q (14, L, st, g) ↔ am_E d 20 Q (15, L, .int (0) :: st, g) := am_E_iconst (by decide +kernel : am_dc 20 14 = some (.iconst (0))) (by decide) rfl
theorem x_20_15  : am_E d 20 Q (15, L, [.int x], g) ↔ if am_ok (FieldType.int) (.int x) = true then Q (.inl (some (.int x))) g else False := am_E_ireturn (by decide +kernel : am_dc 20 15 = some (.ireturn)) (by decide +kernel)
theorem v_20_74 : am_iv 20 74 = some (1, 48, 1) := by decide +kernel
theorem t_20 : am_t 20 = some (FieldType.int) := by decide +kernel
theorem h_20 : am_h 20 = [(0, 8, 11, 17, 2)] := by decide +kernel
theorem m_20 : am_m 20 = 3 := by decide +kernel
theorem x_21_0   : am_E d 21 Q (0, L, st, g) ↔ am_K d 21 Q (am_ldA 1 L st g 2) := am_E_aload_n (by decide +kernel : am_dc 21 0 = some (.aload_n 2)) rfl rfl
theorem x_21_1   : am_E d 21 Q (1, L, st, g) ↔ am_E d 21 Q (2, L, .int (0) :: st, g) := am_E_iconst (by decide +kernel : am_dc 21 1 = some (.iconst (0))) (by decide) rfl
theorem x_21_2   : am_E d 21 Q (2, L, st, g) ↔ am_K d 21 Q (am_ldA 3 L st g 0) := am_E_aload_n (by decide +kernel : am_dc 21 2 = some (.aload_n 0)) rfl rfl
theorem x_21_3   : am_E d 21 Q (3, L, st, g) ↔ am_K d 21 Q (am_ldI 4 L st g 1) := am_E_iload_n (by decide +kernel : am_dc 21 3 = some (.iload_n 1)) rfl rfl
theorem x_21_4  : am_E d 21 Q (4, L, st, g) ↔ am_K d 21 Q (am_S 21 (.invokevirtual 52) 4 L st g) := am_E_x (by decide +kernel : am_dc 21 4 = some (.invokevirtual 52))
theorem x_21_7   : am_E d 21 Q (7, L, .int x :: st, g) ↔ am_E d 21 Q (8, L, .long x.toInt64 :: st, g) := am_E_i2l (by decide +kernel : am_dc 21 7 = some (.i2l)) rfl
theorem x_21_8   : am_E d 21 Q (8, L, v :: .int x :: .ref a :: st, g) ↔ am_kg d 21 Q 9 L st (am_sat .lastore g a x v) := am_E_lastore (by decide +kernel : am_dc 21 8 = some (.lastore)) rfl
theorem x_21_9   : am_E d 21 Q (9, L, st, g) ↔ am_E d 21 Q (18, L, st, g) := am_E_gt (by decide +kernel : am_dc 21 9 = some (.goto (9))) rfl rfl
theorem x_21_12   : am_E d 21 Q (12, L, st, g) ↔ am_K d 21 Q (am_stA 13 L st g 3) := am_E_astore_n (by decide +kernel : am_dc 21 12 = some (.astore_n 3)) rfl rfl
theorem x_21_13   : am_E d 21 Q (13, L, st, g) ↔ am_E d 21 Q (14, L, .int (1) :: st, g) := am_E_iconst (by decide +kernel : am_dc 21 13 = some (.iconst (1))) (by decide) rfl
theorem x_21_14  : am_E d 21 Q (14, L, [.int x], g) ↔ if am_ok (FieldType.int) (.int x) = true then Q (.inl (some (.int x))) g else False := am_E_ireturn (by decide +kernel : am_dc 21 14 = some (.ireturn)) (by decide +kernel)
theorem x_21_15   : am_E d 21 Q (15, L, st, g) ↔ am_K d 21 Q (am_stA 16 L st g 3) := am_E_astore_n (by decide +kernel : am_dc 21 15 = some (.astore_n 3)) rfl rfl
theorem x_21_16   : am_E d 21 Q (16, L, st, g) ↔ am_E d 21 Q (17, L, .int (2) :: st, g) := am_E_iconst (by decide +kernel : am_dc 21 16 = some (.iconst (2))) (by decide) rfl
theorem x_21_17  : am_E d 21 Q (17, L, [.int x], g) ↔ if am_ok (FieldType.int) (.int x) = true then Q (.inl (some (.int x))) g else False := am_E_ireturn (by decide +kernel : am_dc 21 17 = some (.ireturn)) (by decide +kernel)
theorem x_21_18   : am_E d 21 Q (18, L, st, g) ↔ am_E d 21 Q (19, L, .int (0) :: st, g) := am_E_iconst (by decide +kernel : am_dc 21 18 = some (.iconst (0))) (by decide) rfl
theorem x_21_19  : am_E d 21 Q (19, L, [.int x], g) ↔ if am_ok (FieldType.int) (.int x) = true then Q (.inl (some (.int x))) g else False := am_E_ireturn (by decide +kernel : am_dc 21 19 = some (.ireturn)) (by decide +kernel)
theorem v_21_52 : am_iv 21 52 = some (1, 49, 2) := by decide +kernel
theorem t_21 : am_t 21 = some (FieldType.int) := by decide +kernel
theorem h_21 : am_h 21 = [(0, 9, 12, 13, 0), (0, 9, 15, 17, 2)] := by decide +kernel
theorem m_21 : am_m 21 = 4 := by decide +kernel
theorem x_22_0   : am_E d 22 Q (0, L, st, g) ↔ am_K d 22 Q (am_ldA 1 L st g 1) := am_E_aload_n (by decide +kernel : am_dc 22 0 = some (.aload_n 1)) rfl rfl
theorem x_22_1   : am_E d 22 Q (1, L, st, g) ↔ am_E d 22 Q (2, L, .int (0) :: st, g) := am_E_iconst (by decide +kernel : am_dc 22 1 = some (.iconst (0))) (by decide) rfl
theorem x_22_2   : am_E d 22 Q (2, L, st, g) ↔ am_K d 22 Q (am_ldA 3 L st g 0) := am_E_aload_n (by decide +kernel : am_dc 22 2 = some (.aload_n 0)) rfl rfl
theorem x_22_3  : am_E d 22 Q (3, L, st, g) ↔ am_K d 22 Q (am_S 22 (.invokevirtual 61) 3 L st g) := am_E_x (by decide +kernel : am_dc 22 3 = some (.invokevirtual 61))
theorem x_22_6   : am_E d 22 Q (6, L, .int x :: st, g) ↔ am_E d 22 Q (7, L, .long x.toInt64 :: st, g) := am_E_i2l (by decide +kernel : am_dc 22 6 = some (.i2l)) rfl
theorem x_22_7   : am_E d 22 Q (7, L, v :: .int x :: .ref a :: st, g) ↔ am_kg d 22 Q 8 L st (am_sat .lastore g a x v) := am_E_lastore (by decide +kernel : am_dc 22 7 = some (.lastore)) rfl
theorem x_22_8   : am_E d 22 Q (8, L, st, g) ↔ am_E d 22 Q (14, L, st, g) := am_E_gt (by decide +kernel : am_dc 22 8 = some (.goto (6))) rfl rfl
theorem x_22_11   : am_E d 22 Q (11, L, st, g) ↔ am_K d 22 Q (am_stA 12 L st g 2) := am_E_astore_n (by decide +kernel : am_dc 22 11 = some (.astore_n 2)) rfl rfl
theorem x_22_12   : am_E d 22 Q (12, L, st, g) ↔ am_E d 22 Q (13, L, .int (1) :: st, g) := am_E_iconst (by decide +kernel : am_dc 22 12 = some (.iconst (1))) (by decide) rfl
theorem x_22_13  : am_E d 22 Q (13, L, [.int x], g) ↔ if am_ok (FieldType.int) (.int x) = true then Q (.inl (some (.int x))) g else False := am_E_ireturn (by decide +kernel : am_dc 22 13 = some (.ireturn)) (by decide +kernel)
theorem x_22_14   : am_E d 22 Q (14, L, st, g) ↔ am_E d 22 Q (15, L, .int (0) :: st, g) := am_E_iconst (by decide +kernel : am_dc 22 14 = some (.iconst (0))) (by decide) rfl
theorem x_22_15  : am_E d 22 Q (15, L, [.int x], g) ↔ if am_ok (FieldType.int) (.int x) = true then Q (.inl (some (.int x))) g else False := am_E_ireturn (by decide +kernel : am_dc 22 15 = some (.ireturn)) (by decide +kernel)
theorem v_22_61 : am_iv 22 61 = some (1, 50, 1) := by decide +kernel
theorem t_22 : am_t 22 = some (FieldType.int) := by decide +kernel
theorem h_22 : am_h 22 = [(0, 8, 11, 13, 0)] := by decide +kernel
theorem m_22 : am_m 22 = 3 := by decide +kernel
theorem x_23_0   : am_E d 23 Q (0, L, st, g) ↔ am_K d 23 Q (am_ldA 1 L st g 0) := am_E_aload_n (by decide +kernel : am_dc 23 0 = some (.aload_n 0)) rfl rfl
theorem x_23_1  : am_E d 23 Q (1, L, st, g) ↔ am_K d 23 Q (am_S 23 (.invokespecial 1) 1 L st g) := am_E_x (by decide +kernel : am_dc 23 1 = some (.invokespecial 1))
theorem x_23_4  : am_E d 23 Q (4, L, st, g) ↔ am_K d 23 Q (am_S 23 (.new 7) 4 L st g) := am_E_x (by decide +kernel : am_dc 23 4 = some (.new 7))
theorem x_23_7   : am_E d 23 Q (7, L, v :: st, g) ↔ if v.category = 1 then am_E d 23 Q (8, L, v :: v :: st, g) else False := am_E_dup (by decide +kernel : am_dc 23 7 = some (.dup)) rfl
theorem x_23_8  : am_E d 23 Q (8, L, st, g) ↔ am_K d 23 Q (am_S 23 (.invokespecial 9) 8 L st g) := am_E_x (by decide +kernel : am_dc 23 8 = some (.invokespecial 9))
theorem x_23_11   : am_E d 23 Q (11, L, st, g) ↔ am_K d 23 Q (am_stA 12 L st g 1) := am_E_astore_n (by decide +kernel : am_dc 23 11 = some (.astore_n 1)) rfl rfl
theorem x_23_12  : am_E d 23 Q (12, L, st, g) ↔ am_K d 23 Q (am_S 23 (.new 10) 12 L st g) := am_E_x (by decide +kernel : am_dc 23 12 = some (.new 10))
theorem x_23_15   : am_E d 23 Q (15, L, v :: st, g) ↔ if v.category = 1 then am_E d 23 Q (16, L, v :: v :: st, g) else False := am_E_dup (by decide +kernel : am_dc 23 15 = some (.dup)) rfl
theorem x_23_16  : am_E d 23 Q (16, L, st, g) ↔ am_K d 23 Q (am_S 23 (.invokespecial 12) 16 L st g) := am_E_x (by decide +kernel : am_dc 23 16 = some (.invokespecial 12))
theorem x_23_19   : am_E d 23 Q (19, L, st, g) ↔ am_K d 23 Q (am_stA 20 L st g 2) := am_E_astore_n (by decide +kernel : am_dc 23 19 = some (.astore_n 2)) rfl rfl
theorem x_23_20  : am_E d 23 Q (20, L, st, g) ↔ am_K d 23 Q (am_S 23 (.new 13) 20 L st g) := am_E_x (by decide +kernel : am_dc 23 20 = some (.new 13))
theorem x_23_23   : am_E d 23 Q (23, L, v :: st, g) ↔ if v.category = 1 then am_E d 23 Q (24, L, v :: v :: st, g) else False := am_E_dup (by decide +kernel : am_dc 23 23 = some (.dup)) rfl
theorem x_23_24  : am_E d 23 Q (24, L, st, g) ↔ am_K d 23 Q (am_S 23 (.invokespecial 15) 24 L st g) := am_E_x (by decide +kernel : am_dc 23 24 = some (.invokespecial 15))
theorem x_23_27   : am_E d 23 Q (27, L, st, g) ↔ am_K d 23 Q (am_stA 28 L st g 3) := am_E_astore_n (by decide +kernel : am_dc 23 27 = some (.astore_n 3)) rfl rfl
theorem x_23_28  : am_E d 23 Q (28, L, st, g) ↔ am_K d 23 Q (am_S 23 (.new 16) 28 L st g) := am_E_x (by decide +kernel : am_dc 23 28 = some (.new 16))
theorem x_23_31   : am_E d 23 Q (31, L, v :: st, g) ↔ if v.category = 1 then am_E d 23 Q (32, L, v :: v :: st, g) else False := am_E_dup (by decide +kernel : am_dc 23 31 = some (.dup)) rfl
theorem x_23_32  : am_E d 23 Q (32, L, st, g) ↔ am_K d 23 Q (am_S 23 (.invokespecial 18) 32 L st g) := am_E_x (by decide +kernel : am_dc 23 32 = some (.invokespecial 18))
theorem x_23_35   : am_E d 23 Q (35, L, st, g) ↔ am_K d 23 Q (am_stA 37 L st g 4) := am_E_astore (by decide +kernel : am_dc 23 35 = some (.astore 4)) rfl
theorem x_23_37  : am_E d 23 Q (37, L, st, g) ↔ am_K d 23 Q (am_S 23 (.new 19) 37 L st g) := am_E_x (by decide +kernel : am_dc 23 37 = some (.new 19))
theorem x_23_40   : am_E d 23 Q (40, L, v :: st, g) ↔ if v.category = 1 then am_E d 23 Q (41, L, v :: v :: st, g) else False := am_E_dup (by decide +kernel : am_dc 23 40 = some (.dup)) rfl
theorem x_23_41  : am_E d 23 Q (41, L, st, g) ↔ am_K d 23 Q (am_S 23 (.invokespecial 21) 41 L st g) := am_E_x (by decide +kernel : am_dc 23 41 = some (.invokespecial 21))
theorem x_23_44   : am_E d 23 Q (44, L, st, g) ↔ am_K d 23 Q (am_stA 46 L st g 5) := am_E_astore (by decide +kernel : am_dc 23 44 = some (.astore 5)) rfl
theorem x_23_46   : am_E d 23 Q (46, L, st, g) ↔ am_K d 23 Q (am_ldA 47 L st g 0) := am_E_aload_n (by decide +kernel : am_dc 23 46 = some (.aload_n 0)) rfl rfl
theorem x_23_47   : am_E d 23 Q (47, L, st, g) ↔ am_K d 23 Q (am_ldA 48 L st g 1) := am_E_aload_n (by decide +kernel : am_dc 23 47 = some (.aload_n 1)) rfl rfl
theorem x_23_48   (hok : (am_ok (am_ft 0 0).1 v && (!(am_ft 0 0).2 || (am_ini 23 && am_co 0 == am_o 23)) && decide (0 < 13)) = true) : am_E d 23 Q (48, L, v :: .ref a :: st, g) ↔ am_kg d 23 Q 51 L st (am_pf g a 0 0 v) := am_E_putfield (by decide +kernel : am_dc 23 48 = some (.putfield 22)) (by decide +kernel) rfl hok
theorem x_23_51   : am_E d 23 Q (51, L, st, g) ↔ am_K d 23 Q (am_ldA 52 L st g 0) := am_E_aload_n (by decide +kernel : am_dc 23 51 = some (.aload_n 0)) rfl rfl
theorem x_23_52   : am_E d 23 Q (52, L, st, g) ↔ am_K d 23 Q (am_ldA 53 L st g 2) := am_E_aload_n (by decide +kernel : am_dc 23 52 = some (.aload_n 2)) rfl rfl
theorem x_23_53   (hok : (am_ok (am_ft 0 1).1 v && (!(am_ft 0 1).2 || (am_ini 23 && am_co 0 == am_o 23)) && decide (0 < 13)) = true) : am_E d 23 Q (53, L, v :: .ref a :: st, g) ↔ am_kg d 23 Q 56 L st (am_pf g a 0 1 v) := am_E_putfield (by decide +kernel : am_dc 23 53 = some (.putfield 28)) (by decide +kernel) rfl hok
theorem x_23_56   : am_E d 23 Q (56, L, st, g) ↔ am_K d 23 Q (am_ldA 57 L st g 0) := am_E_aload_n (by decide +kernel : am_dc 23 56 = some (.aload_n 0)) rfl rfl
theorem x_23_57   : am_E d 23 Q (57, L, st, g) ↔ am_K d 23 Q (am_ldA 58 L st g 3) := am_E_aload_n (by decide +kernel : am_dc 23 57 = some (.aload_n 3)) rfl rfl
theorem x_23_58   (hok : (am_ok (am_ft 0 2).1 v && (!(am_ft 0 2).2 || (am_ini 23 && am_co 0 == am_o 23)) && decide (0 < 13)) = true) : am_E d 23 Q (58, L, v :: .ref a :: st, g) ↔ am_kg d 23 Q 61 L st (am_pf g a 0 2 v) := am_E_putfield (by decide +kernel : am_dc 23 58 = some (.putfield 32)) (by decide +kernel) rfl hok
theorem x_23_61   : am_E d 23 Q (61, L, st, g) ↔ am_K d 23 Q (am_ldA 62 L st g 0) := am_E_aload_n (by decide +kernel : am_dc 23 61 = some (.aload_n 0)) rfl rfl
theorem x_23_62  : am_E d 23 Q (62, L, st, g) ↔ am_K d 23 Q (am_S 23 (.new 36) 62 L st g) := am_E_x (by decide +kernel : am_dc 23 62 = some (.new 36))
theorem x_23_65   : am_E d 23 Q (65, L, v :: st, g) ↔ if v.category = 1 then am_E d 23 Q (66, L, v :: v :: st, g) else False := am_E_dup (by decide +kernel : am_dc 23 65 = some (.dup)) rfl
theorem x_23_66   : am_E d 23 Q (66, L, st, g) ↔ am_K d 23 Q (am_ldA 67 L st g 3) := am_E_aload_n (by decide +kernel : am_dc 23 66 = some (.aload_n 3)) rfl rfl
theorem x_23_67  : am_E d 23 Q (67, L, st, g) ↔ am_K d 23 Q (am_S 23 (.invokespecial 38) 67 L st g) := am_E_x (by decide +kernel : am_dc 23 67 = some (.invokespecial 38))
theorem x_23_70   (hok : (am_ok (am_ft 0 3).1 v && (!(am_ft 0 3).2 || (am_ini 23 && am_co 0 == am_o 23)) && decide (0 < 13)) = true) : am_E d 23 Q (70, L, v :: .ref a :: st, g) ↔ am_kg d 23 Q 73 L st (am_pf g a 0 3 v) := am_E_putfield (by decide +kernel : am_dc 23 70 = some (.putfield 41)) (by decide +kernel) rfl hok
theorem x_23_73   : am_E d 23 Q (73, L, st, g) ↔ am_K d 23 Q (am_ldA 74 L st g 0) := am_E_aload_n (by decide +kernel : am_dc 23 73 = some (.aload_n 0)) rfl rfl
theorem x_23_74  : am_E d 23 Q (74, L, st, g) ↔ am_K d 23 Q (am_S 23 (.new 45) 74 L st g) := am_E_x (by decide +kernel : am_dc 23 74 = some (.new 45))
theorem x_23_77   : am_E d 23 Q (77, L, v :: st, g) ↔ if v.category = 1 then am_E d 23 Q (78, L, v :: v :: st, g) else False := am_E_dup (by decide +kernel : am_dc 23 77 = some (.dup)) rfl
theorem x_23_78   : am_E d 23 Q (78, L, st, g) ↔ am_K d 23 Q (am_ldA 79 L st g 1) := am_E_aload_n (by decide +kernel : am_dc 23 78 = some (.aload_n 1)) rfl rfl
theorem x_23_79   : am_E d 23 Q (79, L, st, g) ↔ am_K d 23 Q (am_ldA 80 L st g 2) := am_E_aload_n (by decide +kernel : am_dc 23 79 = some (.aload_n 2)) rfl rfl
theorem x_23_80   : am_E d 23 Q (80, L, st, g) ↔ am_K d 23 Q (am_ldA 81 L st g 3) := am_E_aload_n (by decide +kernel : am_dc 23 80 = some (.aload_n 3)) rfl rfl
theorem x_23_81  : am_E d 23 Q (81, L, st, g) ↔ am_K d 23 Q (am_S 23 (.invokespecial 47) 81 L st g) := am_E_x (by decide +kernel : am_dc 23 81 = some (.invokespecial 47))
theorem x_23_84   (hok : (am_ok (am_ft 0 4).1 v && (!(am_ft 0 4).2 || (am_ini 23 && am_co 0 == am_o 23)) && decide (0 < 13)) = true) : am_E d 23 Q (84, L, v :: .ref a :: st, g) ↔ am_kg d 23 Q 87 L st (am_pf g a 0 4 v) := am_E_putfield (by decide +kernel : am_dc 23 84 = some (.putfield 50)) (by decide +kernel) rfl hok
theorem x_23_87   : am_E d 23 Q (87, L, st, g) ↔ am_K d 23 Q (am_ldA 88 L st g 0) := am_E_aload_n (by decide +kernel : am_dc 23 87 = some (.aload_n 0)) rfl rfl
theorem x_23_88  : am_E d 23 Q (88, L, st, g) ↔ am_K d 23 Q (am_S 23 (.new 54) 88 L st g) := am_E_x (by decide +kernel : am_dc 23 88 = some (.new 54))
theorem x_23_91   : am_E d 23 Q (91, L, v :: st, g) ↔ if v.category = 1 then am_E d 23 Q (92, L, v :: v :: st, g) else False := am_E_dup (by decide +kernel : am_dc 23 91 = some (.dup)) rfl
theorem x_23_92   : am_E d 23 Q (92, L, st, g) ↔ am_K d 23 Q (am_ldA 93 L st g 1) := am_E_aload_n (by decide +kernel : am_dc 23 92 = some (.aload_n 1)) rfl rfl
theorem x_23_93   : am_E d 23 Q (93, L, st, g) ↔ am_K d 23 Q (am_ldA 94 L st g 2) := am_E_aload_n (by decide +kernel : am_dc 23 93 = some (.aload_n 2)) rfl rfl
theorem x_23_94   : am_E d 23 Q (94, L, st, g) ↔ am_K d 23 Q (am_ldA 95 L st g 3) := am_E_aload_n (by decide +kernel : am_dc 23 94 = some (.aload_n 3)) rfl rfl
theorem x_23_95  : am_E d 23 Q (95, L, st, g) ↔ am_K d 23 Q (am_S 23 (.invokespecial 56) 95 L st g) := am_E_x (by decide +kernel : am_dc 23 95 = some (.invokespecial 56))
theorem x_23_98   (hok : (am_ok (am_ft 0 5).1 v && (!(am_ft 0 5).2 || (am_ini 23 && am_co 0 == am_o 23)) && decide (0 < 13)) = true) : am_E d 23 Q (98, L, v :: .ref a :: st, g) ↔ am_kg d 23 Q 101 L st (am_pf g a 0 5 v) := am_E_putfield (by decide +kernel : am_dc 23 98 = some (.putfield 57)) (by decide +kernel) rfl hok
theorem x_23_101   : am_E d 23 Q (101, L, st, g) ↔ am_K d 23 Q (am_ldA 102 L st g 0) := am_E_aload_n (by decide +kernel : am_dc 23 101 = some (.aload_n 0)) rfl rfl
theorem x_23_102   : am_E d 23 Q (102, L, st, g) ↔ am_K d 23 Q (am_ldA 104 L st g 4) := am_E_aload (by decide +kernel : am_dc 23 102 = some (.aload 4)) rfl
theorem x_23_104   (hok : (am_ok (am_ft 0 6).1 v && (!(am_ft 0 6).2 || (am_ini 23 && am_co 0 == am_o 23)) && decide (0 < 13)) = true) : am_E d 23 Q (104, L, v :: .ref a :: st, g) ↔ am_kg d 23 Q 107 L st (am_pf g a 0 6 v) := am_E_putfield (by decide +kernel : am_dc 23 104 = some (.putfield 61)) (by decide +kernel) rfl hok
theorem x_23_107   : am_E d 23 Q (107, L, st, g) ↔ am_K d 23 Q (am_ldA 108 L st g 0) := am_E_aload_n (by decide +kernel : am_dc 23 107 = some (.aload_n 0)) rfl rfl
theorem x_23_108   : am_E d 23 Q (108, L, st, g) ↔ am_K d 23 Q (am_ldA 110 L st g 5) := am_E_aload (by decide +kernel : am_dc 23 108 = some (.aload 5)) rfl
theorem x_23_110   (hok : (am_ok (am_ft 0 7).1 v && (!(am_ft 0 7).2 || (am_ini 23 && am_co 0 == am_o 23)) && decide (0 < 13)) = true) : am_E d 23 Q (110, L, v :: .ref a :: st, g) ↔ am_kg d 23 Q 113 L st (am_pf g a 0 7 v) := am_E_putfield (by decide +kernel : am_dc 23 110 = some (.putfield 65)) (by decide +kernel) rfl hok
theorem x_23_113   : am_E d 23 Q (113, L, st, g) ↔ am_K d 23 Q (am_ldA 114 L st g 0) := am_E_aload_n (by decide +kernel : am_dc 23 113 = some (.aload_n 0)) rfl rfl
theorem x_23_114  : am_E d 23 Q (114, L, st, g) ↔ am_K d 23 Q (am_S 23 (.new 69) 114 L st g) := am_E_x (by decide +kernel : am_dc 23 114 = some (.new 69))
theorem x_23_117   : am_E d 23 Q (117, L, v :: st, g) ↔ if v.category = 1 then am_E d 23 Q (118, L, v :: v :: st, g) else False := am_E_dup (by decide +kernel : am_dc 23 117 = some (.dup)) rfl
theorem x_23_118   : am_E d 23 Q (118, L, st, g) ↔ am_K d 23 Q (am_ldA 120 L st g 4) := am_E_aload (by decide +kernel : am_dc 23 118 = some (.aload 4)) rfl
theorem x_23_120   : am_E d 23 Q (120, L, st, g) ↔ am_K d 23 Q (am_ldA 122 L st g 5) := am_E_aload (by decide +kernel : am_dc 23 120 = some (.aload 5)) rfl
theorem x_23_122  : am_E d 23 Q (122, L, st, g) ↔ am_K d 23 Q (am_S 23 (.invokespecial 71) 122 L st g) := am_E_x (by decide +kernel : am_dc 23 122 = some (.invokespecial 71))
theorem x_23_125   (hok : (am_ok (am_ft 0 8).1 v && (!(am_ft 0 8).2 || (am_ini 23 && am_co 0 == am_o 23)) && decide (0 < 13)) = true) : am_E d 23 Q (125, L, v :: .ref a :: st, g) ↔ am_kg d 23 Q 128 L st (am_pf g a 0 8 v) := am_E_putfield (by decide +kernel : am_dc 23 125 = some (.putfield 74)) (by decide +kernel) rfl hok
theorem x_23_128   : am_E d 23 Q (128, L, st, g) ↔ am_K d 23 Q (am_ldA 129 L st g 0) := am_E_aload_n (by decide +kernel : am_dc 23 128 = some (.aload_n 0)) rfl rfl
theorem x_23_129   : am_E d 23 Q (129, L, st, g) ↔ am_E d 23 Q (130, L, .int (3) :: st, g) := am_E_iconst (by decide +kernel : am_dc 23 129 = some (.iconst (3))) (by decide) rfl
theorem x_23_130  : am_E d 23 Q (130, L, st, g) ↔ am_K d 23 Q (am_S 23 (.newarray .int) 130 L st g) := am_E_x (by decide +kernel : am_dc 23 130 = some (.newarray .int))
theorem x_23_132   (hok : (am_ok (am_ft 0 9).1 v && (!(am_ft 0 9).2 || (am_ini 23 && am_co 0 == am_o 23)) && decide (0 < 13)) = true) : am_E d 23 Q (132, L, v :: .ref a :: st, g) ↔ am_kg d 23 Q 135 L st (am_pf g a 0 9 v) := am_E_putfield (by decide +kernel : am_dc 23 132 = some (.putfield 78)) (by decide +kernel) rfl hok
theorem x_23_135  : am_E d 23 Q (135, L, [], g) ↔ Q (.inl none) g := am_E_return (by decide +kernel : am_dc 23 135 = some (.return_)) (by decide +kernel)
theorem v_23_1 : am_iv 23 1 = some (3, 0, 1) := by decide +kernel
theorem w_23_7 : am_nw 23 7 = some 8 := by decide +kernel
theorem v_23_9 : am_iv 23 9 = some (2, 124, 1) := by decide +kernel
theorem w_23_10 : am_nw 23 10 = some 7 := by decide +kernel
theorem v_23_12 : am_iv 23 12 = some (2, 118, 1) := by decide +kernel
theorem w_23_13 : am_nw 23 13 = some 2 := by decide +kernel
theorem v_23_15 : am_iv 23 15 = some (2, 77, 1) := by decide +kernel
theorem w_23_16 : am_nw 23 16 = some 4 := by decide +kernel
theorem v_23_18 : am_iv 23 18 = some (5, 90, 1) := by decide +kernel
theorem w_23_19 : am_nw 23 19 = some 6 := by decide +kernel
theorem v_23_21 : am_iv 23 21 = some (5, 107, 1) := by decide +kernel
theorem f_23_22 : am_fl 23 22 = some (0, 0) := by decide +kernel
theorem f_23_28 : am_fl 23 28 = some (0, 1) := by decide +kernel
theorem f_23_32 : am_fl 23 32 = some (0, 2) := by decide +kernel
theorem w_23_36 : am_nw 23 36 = some 3 := by decide +kernel
theorem v_23_38 : am_iv 23 38 = some (2, 84, 2) := by decide +kernel
theorem f_23_41 : am_fl 23 41 = some (0, 3) := by decide +kernel
theorem w_23_45 : am_nw 23 45 = some 1 := by decide +kernel
theorem v_23_47 : am_iv 23 47 = some (2, 62, 4) := by decide +kernel
theorem f_23_50 : am_fl 23 50 = some (0, 4) := by decide +kernel
theorem w_23_54 : am_nw 23 54 = some 9 := by decide +kernel
theorem v_23_56 : am_iv 23 56 = some (2, 133, 4) := by decide +kernel
theorem f_23_57 : am_fl 23 57 = some (0, 5) := by decide +kernel
theorem f_23_61 : am_fl 23 61 = some (0, 6) := by decide +kernel
theorem f_23_65 : am_fl 23 65 = some (0, 7) := by decide +kernel
theorem w_23_69 : am_nw 23 69 = some 5 := by decide +kernel
theorem v_23_71 : am_iv 23 71 = some (2, 94, 3) := by decide +kernel
theorem f_23_74 : am_fl 23 74 = some (0, 8) := by decide +kernel
theorem f_23_78 : am_fl 23 78 = some (0, 9) := by decide +kernel
theorem t_23 : am_t 23 = none := by decide +kernel
theorem h_23 : am_h 23 = [] := by decide +kernel
theorem m_23 : am_m 23 = 6 := by decide +kernel
theorem x_24_0   : am_E d 24 Q (0, L, st, g) ↔ am_K d 24 Q (am_ldA 1 L st g 0) := am_E_aload_n (by decide +kernel : am_dc 24 0 = some (.aload_n 0)) rfl rfl
theorem x_24_1   : am_E d 24 Q (1, L, .ref a :: st, g) ↔ am_kv d 24 Q 4 L st g (am_gf g a 0 0) := am_E_getfield (by decide +kernel : am_dc 24 1 = some (.getfield 22)) (by decide +kernel) rfl
theorem x_24_4   : am_E d 24 Q (4, L, st, g) ↔ am_K d 24 Q (am_ldI 5 L st g 1) := am_E_iload_n (by decide +kernel : am_dc 24 4 = some (.iload_n 1)) rfl rfl
theorem x_24_5   : am_E d 24 Q (5, L, st, g) ↔ am_K d 24 Q (am_ldI 6 L st g 2) := am_E_iload_n (by decide +kernel : am_dc 24 5 = some (.iload_n 2)) rfl rfl
theorem x_24_6  : am_E d 24 Q (6, L, st, g) ↔ am_K d 24 Q (am_S 24 (.invokevirtual 112) 6 L st g) := am_E_x (by decide +kernel : am_dc 24 6 = some (.invokevirtual 112))
theorem x_24_9   : am_E d 24 Q (9, L, .int x :: st, g) ↔ am_E d 24 Q (am_cmp .ne x 0 20 12, L, st, g) := am_E_if (by decide +kernel : am_dc 24 9 = some (.ifCond .ne (11))) rfl rfl
theorem x_24_12  : am_E d 24 Q (12, L, st, g) ↔ am_K d 24 Q (am_S 24 (.new 86) 12 L st g) := am_E_x (by decide +kernel : am_dc 24 12 = some (.new 86))
theorem x_24_15   : am_E d 24 Q (15, L, v :: st, g) ↔ if v.category = 1 then am_E d 24 Q (16, L, v :: v :: st, g) else False := am_E_dup (by decide +kernel : am_dc 24 15 = some (.dup)) rfl
theorem x_24_16  : am_E d 24 Q (16, L, st, g) ↔ am_K d 24 Q (am_S 24 (.invokespecial 88) 16 L st g) := am_E_x (by decide +kernel : am_dc 24 16 = some (.invokespecial 88))
theorem x_24_20   : am_E d 24 Q (20, L, st, g) ↔ am_K d 24 Q (am_ldA 21 L st g 0) := am_E_aload_n (by decide +kernel : am_dc 24 20 = some (.aload_n 0)) rfl rfl
theorem x_24_21   : am_E d 24 Q (21, L, .ref a :: st, g) ↔ am_kv d 24 Q 24 L st g (am_gf g a 0 0) := am_E_getfield (by decide +kernel : am_dc 24 21 = some (.getfield 22)) (by decide +kernel) rfl
theorem x_24_24   : am_E d 24 Q (24, L, .ref a :: st, g) ↔ am_kv d 24 Q 27 L st g (am_gf g a 8 0) := am_E_getfield (by decide +kernel : am_dc 24 24 = some (.getfield 92)) (by decide +kernel) rfl
theorem x_24_27   : am_E d 24 Q (27, L, st, g) ↔ am_K d 24 Q (am_ldI 28 L st g 1) := am_E_iload_n (by decide +kernel : am_dc 24 27 = some (.iload_n 1)) rfl rfl
theorem x_24_28   : am_E d 24 Q (28, L, .int x :: .ref a :: st, g) ↔ am_kv d 24 Q 29 L st g (am_iat .aaload g a x) := am_E_aaload (by decide +kernel : am_dc 24 28 = some (.aaload)) rfl
theorem x_24_29   : am_E d 24 Q (29, L, st, g) ↔ am_K d 24 Q (am_stA 31 L st g 4) := am_E_astore (by decide +kernel : am_dc 24 29 = some (.astore 4)) rfl
theorem x_24_31   : am_E d 24 Q (31, L, st, g) ↔ am_K d 24 Q (am_ldI 32 L st g 3) := am_E_iload_n (by decide +kernel : am_dc 24 31 = some (.iload_n 3)) rfl rfl
theorem x_24_32  : am_E d 24 Q (32, L, st, g) ↔ am_K d 24 Q (am_S 24 (.tableswitch (64) (0) (3) #[(32), (40), (48), (56)]) 32 L st g) := am_E_x (by decide +kernel : am_dc 24 32 = some (.tableswitch (64) (0) (3) #[(32), (40), (48), (56)]))
theorem x_24_64   : am_E d 24 Q (64, L, st, g) ↔ am_K d 24 Q (am_ldA 66 L st g 4) := am_E_aload (by decide +kernel : am_dc 24 64 = some (.aload 4)) rfl
theorem x_24_66   : am_E d 24 Q (66, L, .ref a :: st, g) ↔ am_kv d 24 Q 69 L st g (am_gf g a 10 0) := am_E_getfield (by decide +kernel : am_dc 24 66 = some (.getfield 265)) (by decide +kernel) rfl
theorem x_24_69   : am_E d 24 Q (69, L, st, g) ↔ am_K d 24 Q (am_ldI 70 L st g 2) := am_E_iload_n (by decide +kernel : am_dc 24 69 = some (.iload_n 2)) rfl rfl
theorem x_24_70   : am_E d 24 Q (70, L, .int x :: .ref a :: st, g) ↔ am_kv d 24 Q 71 L st g (am_iat .iaload g a x) := am_E_iaload (by decide +kernel : am_dc 24 70 = some (.iaload)) rfl
theorem x_24_71  : am_E d 24 Q (71, L, [.int x], g) ↔ if am_ok (FieldType.int) (.int x) = true then Q (.inl (some (.int x))) g else False := am_E_ireturn (by decide +kernel : am_dc 24 71 = some (.ireturn)) (by decide +kernel)
theorem x_24_72   : am_E d 24 Q (72, L, st, g) ↔ am_K d 24 Q (am_ldA 74 L st g 4) := am_E_aload (by decide +kernel : am_dc 24 72 = some (.aload 4)) rfl
theorem x_24_74   : am_E d 24 Q (74, L, .ref a :: st, g) ↔ am_kv d 24 Q 77 L st g (am_gf g a 10 1) := am_E_getfield (by decide +kernel : am_dc 24 74 = some (.getfield 268)) (by decide +kernel) rfl
theorem x_24_77   : am_E d 24 Q (77, L, st, g) ↔ am_K d 24 Q (am_ldI 78 L st g 2) := am_E_iload_n (by decide +kernel : am_dc 24 77 = some (.iload_n 2)) rfl rfl
theorem x_24_78   : am_E d 24 Q (78, L, .int x :: .ref a :: st, g) ↔ am_kv d 24 Q 79 L st g (am_iat .iaload g a x) := am_E_iaload (by decide +kernel : am_dc 24 78 = some (.iaload)) rfl
theorem x_24_79  : am_E d 24 Q (79, L, [.int x], g) ↔ if am_ok (FieldType.int) (.int x) = true then Q (.inl (some (.int x))) g else False := am_E_ireturn (by decide +kernel : am_dc 24 79 = some (.ireturn)) (by decide +kernel)
theorem x_24_80   : am_E d 24 Q (80, L, st, g) ↔ am_K d 24 Q (am_ldA 82 L st g 4) := am_E_aload (by decide +kernel : am_dc 24 80 = some (.aload 4)) rfl
theorem x_24_82   : am_E d 24 Q (82, L, .ref a :: st, g) ↔ am_kv d 24 Q 85 L st g (am_gf g a 10 2) := am_E_getfield (by decide +kernel : am_dc 24 82 = some (.getfield 122)) (by decide +kernel) rfl
theorem x_24_85   : am_E d 24 Q (85, L, st, g) ↔ am_K d 24 Q (am_ldI 86 L st g 2) := am_E_iload_n (by decide +kernel : am_dc 24 85 = some (.iload_n 2)) rfl rfl
theorem x_24_86   : am_E d 24 Q (86, L, .int x :: .ref a :: st, g) ↔ am_kv d 24 Q 87 L st g (am_iat .iaload g a x) := am_E_iaload (by decide +kernel : am_dc 24 86 = some (.iaload)) rfl
theorem x_24_87  : am_E d 24 Q (87, L, [.int x], g) ↔ if am_ok (FieldType.int) (.int x) = true then Q (.inl (some (.int x))) g else False := am_E_ireturn (by decide +kernel : am_dc 24 87 = some (.ireturn)) (by decide +kernel)
theorem x_24_88   : am_E d 24 Q (88, L, st, g) ↔ am_K d 24 Q (am_ldA 90 L st g 4) := am_E_aload (by decide +kernel : am_dc 24 88 = some (.aload 4)) rfl
theorem x_24_90   : am_E d 24 Q (90, L, .ref a :: st, g) ↔ am_kv d 24 Q 93 L st g (am_gf g a 10 3) := am_E_getfield (by decide +kernel : am_dc 24 90 = some (.getfield 271)) (by decide +kernel) rfl
theorem x_24_93   : am_E d 24 Q (93, L, st, g) ↔ am_K d 24 Q (am_ldI 94 L st g 2) := am_E_iload_n (by decide +kernel : am_dc 24 93 = some (.iload_n 2)) rfl rfl
theorem x_24_94   : am_E d 24 Q (94, L, .int x :: .ref a :: st, g) ↔ am_kv d 24 Q 95 L st g (am_iat .iaload g a x) := am_E_iaload (by decide +kernel : am_dc 24 94 = some (.iaload)) rfl
theorem x_24_95  : am_E d 24 Q (95, L, [.int x], g) ↔ if am_ok (FieldType.int) (.int x) = true then Q (.inl (some (.int x))) g else False := am_E_ireturn (by decide +kernel : am_dc 24 95 = some (.ireturn)) (by decide +kernel)
theorem x_24_96  : am_E d 24 Q (96, L, st, g) ↔ am_K d 24 Q (am_S 24 (.new 89) 96 L st g) := am_E_x (by decide +kernel : am_dc 24 96 = some (.new 89))
theorem x_24_99   : am_E d 24 Q (99, L, v :: st, g) ↔ if v.category = 1 then am_E d 24 Q (100, L, v :: v :: st, g) else False := am_E_dup (by decide +kernel : am_dc 24 99 = some (.dup)) rfl
theorem x_24_100  : am_E d 24 Q (100, L, st, g) ↔ am_K d 24 Q (am_S 24 (.invokespecial 91) 100 L st g) := am_E_x (by decide +kernel : am_dc 24 100 = some (.invokespecial 91))
theorem f_24_22 : am_fl 24 22 = some (0, 0) := by decide +kernel
theorem v_24_112 : am_iv 24 112 = some (1, 126, 3) := by decide +kernel
theorem w_24_86 : am_nw 24 86 = none := by decide +kernel
theorem e_24_86 : am_xw 24 86 = some (0, 88) := by decide +kernel
theorem f_24_92 : am_fl 24 92 = some (8, 0) := by decide +kernel
theorem f_24_265 : am_fl 24 265 = some (10, 0) := by decide +kernel
theorem f_24_268 : am_fl 24 268 = some (10, 1) := by decide +kernel
theorem f_24_122 : am_fl 24 122 = some (10, 2) := by decide +kernel
theorem f_24_271 : am_fl 24 271 = some (10, 3) := by decide +kernel
theorem w_24_89 : am_nw 24 89 = none := by decide +kernel
theorem e_24_89 : am_xw 24 89 = some (1, 91) := by decide +kernel
theorem t_24 : am_t 24 = some (FieldType.int) := by decide +kernel
theorem h_24 : am_h 24 = [] := by decide +kernel
theorem m_24 : am_m 24 = 5 := by decide +kernel
theorem x_25_0   : am_E d 25 Q (0, L, st, g) ↔ am_K d 25 Q (am_ldI 1 L st g 1) := am_E_iload_n (by decide +kernel : am_dc 25 0 = some (.iload_n 1)) rfl rfl
theorem x_25_1   : am_E d 25 Q (1, L, .int x :: st, g) ↔ am_E d 25 Q (am_cmp .lt x 0 9 4, L, st, g) := am_E_if (by decide +kernel : am_dc 25 1 = some (.ifCond .lt (8))) rfl rfl
theorem x_25_4   : am_E d 25 Q (4, L, st, g) ↔ am_K d 25 Q (am_ldI 5 L st g 1) := am_E_iload_n (by decide +kernel : am_dc 25 4 = some (.iload_n 1)) rfl rfl
theorem x_25_5   : am_E d 25 Q (5, L, st, g) ↔ am_E d 25 Q (6, L, .int (3) :: st, g) := am_E_iconst (by decide +kernel : am_dc 25 5 = some (.iconst (3))) (by decide) rfl
theorem x_25_6   : am_E d 25 Q (6, L, .int y :: .int x :: st, g) ↔ am_E d 25 Q (am_cmp .lt x y 17 9, L, st, g) := am_E_ic (by decide +kernel : am_dc 25 6 = some (.if_icmp .lt (11))) rfl rfl
theorem x_25_9  : am_E d 25 Q (9, L, st, g) ↔ am_K d 25 Q (am_S 25 (.new 86) 9 L st g) := am_E_x (by decide +kernel : am_dc 25 9 = some (.new 86))
theorem x_25_12   : am_E d 25 Q (12, L, v :: st, g) ↔ if v.category = 1 then am_E d 25 Q (13, L, v :: v :: st, g) else False := am_E_dup (by decide +kernel : am_dc 25 12 = some (.dup)) rfl
theorem x_25_13  : am_E d 25 Q (13, L, st, g) ↔ am_K d 25 Q (am_S 25 (.invokespecial 88) 13 L st g) := am_E_x (by decide +kernel : am_dc 25 13 = some (.invokespecial 88))
theorem x_25_17   : am_E d 25 Q (17, L, st, g) ↔ am_K d 25 Q (am_ldI 18 L st g 2) := am_E_iload_n (by decide +kernel : am_dc 25 17 = some (.iload_n 2)) rfl rfl
theorem x_25_18   : am_E d 25 Q (18, L, .int x :: st, g) ↔ am_E d 25 Q (am_cmp .lt x 0 27 21, L, st, g) := am_E_if (by decide +kernel : am_dc 25 18 = some (.ifCond .lt (9))) rfl rfl
theorem x_25_21   : am_E d 25 Q (21, L, st, g) ↔ am_K d 25 Q (am_ldI 22 L st g 2) := am_E_iload_n (by decide +kernel : am_dc 25 21 = some (.iload_n 2)) rfl rfl
theorem x_25_22   : am_E d 25 Q (22, L, st, g) ↔ am_E d 25 Q (24, L, .int (6) :: st, g) := am_E_bipush (by decide +kernel : am_dc 25 22 = some (.bipush (6))) (by decide) rfl
theorem x_25_24   : am_E d 25 Q (24, L, .int y :: .int x :: st, g) ↔ am_E d 25 Q (am_cmp .lt x y 35 27, L, st, g) := am_E_ic (by decide +kernel : am_dc 25 24 = some (.if_icmp .lt (11))) rfl rfl
theorem x_25_27  : am_E d 25 Q (27, L, st, g) ↔ am_K d 25 Q (am_S 25 (.new 89) 27 L st g) := am_E_x (by decide +kernel : am_dc 25 27 = some (.new 89))
theorem x_25_30   : am_E d 25 Q (30, L, v :: st, g) ↔ if v.category = 1 then am_E d 25 Q (31, L, v :: v :: st, g) else False := am_E_dup (by decide +kernel : am_dc 25 30 = some (.dup)) rfl
theorem x_25_31  : am_E d 25 Q (31, L, st, g) ↔ am_K d 25 Q (am_S 25 (.invokespecial 91) 31 L st g) := am_E_x (by decide +kernel : am_dc 25 31 = some (.invokespecial 91))
theorem x_25_35   : am_E d 25 Q (35, L, st, g) ↔ am_K d 25 Q (am_ldA 36 L st g 0) := am_E_aload_n (by decide +kernel : am_dc 25 35 = some (.aload_n 0)) rfl rfl
theorem x_25_36   : am_E d 25 Q (36, L, .ref a :: st, g) ↔ am_kv d 25 Q 39 L st g (am_gf g a 0 9) := am_E_getfield (by decide +kernel : am_dc 25 36 = some (.getfield 78)) (by decide +kernel) rfl
theorem x_25_39   : am_E d 25 Q (39, L, st, g) ↔ am_K d 25 Q (am_ldI 40 L st g 1) := am_E_iload_n (by decide +kernel : am_dc 25 39 = some (.iload_n 1)) rfl rfl
theorem x_25_40   : am_E d 25 Q (40, L, .int x :: .ref a :: st, g) ↔ am_kv d 25 Q 41 L st g (am_iat .iaload g a x) := am_E_iaload (by decide +kernel : am_dc 25 40 = some (.iaload)) rfl
theorem x_25_41   : am_E d 25 Q (41, L, st, g) ↔ am_K d 25 Q (am_stI 42 L st g 3) := am_E_istore_n (by decide +kernel : am_dc 25 41 = some (.istore_n 3)) rfl rfl
theorem x_25_42   : am_E d 25 Q (42, L, st, g) ↔ am_K d 25 Q (am_ldA 43 L st g 0) := am_E_aload_n (by decide +kernel : am_dc 25 42 = some (.aload_n 0)) rfl rfl
theorem x_25_43   : am_E d 25 Q (43, L, .ref a :: st, g) ↔ am_kv d 25 Q 46 L st g (am_gf g a 0 9) := am_E_getfield (by decide +kernel : am_dc 25 43 = some (.getfield 78)) (by decide +kernel) rfl
theorem x_25_46   : am_E d 25 Q (46, L, st, g) ↔ am_K d 25 Q (am_ldI 47 L st g 1) := am_E_iload_n (by decide +kernel : am_dc 25 46 = some (.iload_n 1)) rfl rfl
theorem x_25_47   : am_E d 25 Q (47, L, st, g) ↔ am_K d 25 Q (am_ldI 48 L st g 2) := am_E_iload_n (by decide +kernel : am_dc 25 47 = some (.iload_n 2)) rfl rfl
theorem x_25_48   : am_E d 25 Q (48, L, v :: .int x :: .ref a :: st, g) ↔ am_kg d 25 Q 49 L st (am_sat .iastore g a x v) := am_E_iastore (by decide +kernel : am_dc 25 48 = some (.iastore)) rfl
theorem x_25_49   : am_E d 25 Q (49, L, st, g) ↔ am_K d 25 Q (am_ldI 50 L st g 3) := am_E_iload_n (by decide +kernel : am_dc 25 49 = some (.iload_n 3)) rfl rfl
theorem x_25_50  : am_E d 25 Q (50, L, [.int x], g) ↔ if am_ok (FieldType.int) (.int x) = true then Q (.inl (some (.int x))) g else False := am_E_ireturn (by decide +kernel : am_dc 25 50 = some (.ireturn)) (by decide +kernel)
theorem w_25_86 : am_nw 25 86 = none := by decide +kernel
theorem e_25_86 : am_xw 25 86 = some (0, 88) := by decide +kernel
theorem w_25_89 : am_nw 25 89 = none := by decide +kernel
theorem e_25_89 : am_xw 25 89 = some (1, 91) := by decide +kernel
theorem f_25_78 : am_fl 25 78 = some (0, 9) := by decide +kernel
theorem t_25 : am_t 25 = some (FieldType.int) := by decide +kernel
theorem h_25 : am_h 25 = [] := by decide +kernel
theorem m_25 : am_m 25 = 4 := by decide +kernel
theorem x_26_0   : am_E d 26 Q (0, L, st, g) ↔ am_K d 26 Q (am_ldA 1 L st g 0) := am_E_aload_n (by decide +kernel : am_dc 26 0 = some (.aload_n 0)) rfl rfl
theorem x_26_1   : am_E d 26 Q (1, L, .ref a :: st, g) ↔ am_kv d 26 Q 4 L st g (am_gf g a 0 2) := am_E_getfield (by decide +kernel : am_dc 26 1 = some (.getfield 32)) (by decide +kernel) rfl
theorem x_26_4   : am_E d 26 Q (4, L, st, g) ↔ am_K d 26 Q (am_ldI 5 L st g 1) := am_E_iload_n (by decide +kernel : am_dc 26 4 = some (.iload_n 1)) rfl rfl
theorem x_26_5  : am_E d 26 Q (5, L, st, g) ↔ am_K d 26 Q (am_S 26 (.invokevirtual 274) 5 L st g) := am_E_x (by decide +kernel : am_dc 26 5 = some (.invokevirtual 274))
theorem x_26_8   : am_E d 26 Q (8, L, .int x :: st, g) ↔ am_E d 26 Q (am_cmp .eq x 0 29 11, L, st, g) := am_E_if (by decide +kernel : am_dc 26 8 = some (.ifCond .eq (21))) rfl rfl
theorem x_26_11   : am_E d 26 Q (11, L, st, g) ↔ am_K d 26 Q (am_ldA 12 L st g 0) := am_E_aload_n (by decide +kernel : am_dc 26 11 = some (.aload_n 0)) rfl rfl
theorem x_26_12   : am_E d 26 Q (12, L, .ref a :: st, g) ↔ am_kv d 26 Q 15 L st g (am_gf g a 0 0) := am_E_getfield (by decide +kernel : am_dc 26 12 = some (.getfield 22)) (by decide +kernel) rfl
theorem x_26_15   : am_E d 26 Q (15, L, st, g) ↔ am_K d 26 Q (am_ldA 16 L st g 0) := am_E_aload_n (by decide +kernel : am_dc 26 15 = some (.aload_n 0)) rfl rfl
theorem x_26_16   : am_E d 26 Q (16, L, .ref a :: st, g) ↔ am_kv d 26 Q 19 L st g (am_gf g a 0 9) := am_E_getfield (by decide +kernel : am_dc 26 16 = some (.getfield 78)) (by decide +kernel) rfl
theorem x_26_19  : am_E d 26 Q (19, L, st, g) ↔ am_K d 26 Q (am_S 26 (.invokevirtual 222) 19 L st g) := am_E_x (by decide +kernel : am_dc 26 19 = some (.invokevirtual 222))
theorem x_26_22   : am_E d 26 Q (22, L, .int x :: st, g) ↔ am_E d 26 Q (am_cmp .eq x 0 29 25, L, st, g) := am_E_if (by decide +kernel : am_dc 26 22 = some (.ifCond .eq (7))) rfl rfl
theorem x_26_25   : am_E d 26 Q (25, L, st, g) ↔ am_E d 26 Q (26, L, .int (1) :: st, g) := am_E_iconst (by decide +kernel : am_dc 26 25 = some (.iconst (1))) (by decide) rfl
theorem x_26_26   : am_E d 26 Q (26, L, st, g) ↔ am_E d 26 Q (30, L, st, g) := am_E_gt (by decide +kernel : am_dc 26 26 = some (.goto (4))) rfl rfl
theorem x_26_29   : am_E d 26 Q (29, L, st, g) ↔ am_E d 26 Q (30, L, .int (0) :: st, g) := am_E_iconst (by decide +kernel : am_dc 26 29 = some (.iconst (0))) (by decide) rfl
theorem x_26_30  : am_E d 26 Q (30, L, [.int x], g) ↔ if am_ok (FieldType.boolean) (.int x) = true then Q (.inl (some (.int x))) g else False := am_E_ireturn (by decide +kernel : am_dc 26 30 = some (.ireturn)) (by decide +kernel)
theorem f_26_32 : am_fl 26 32 = some (0, 2) := by decide +kernel
theorem v_26_274 : am_iv 26 274 = some (1, 79, 2) := by decide +kernel
theorem f_26_22 : am_fl 26 22 = some (0, 0) := by decide +kernel
theorem f_26_78 : am_fl 26 78 = some (0, 9) := by decide +kernel
theorem v_26_222 : am_iv 26 222 = some (1, 127, 2) := by decide +kernel
theorem t_26 : am_t 26 = some (FieldType.boolean) := by decide +kernel
theorem h_26 : am_h 26 = [] := by decide +kernel
theorem m_26 : am_m 26 = 2 := by decide +kernel
end AMZ
