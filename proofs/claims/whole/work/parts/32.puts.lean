/-! Writes to fields, by the type of the field. Written by program (wip/gen/geny.py). -/
section AMZ
variable {d : Nat} {Q : am_Ou → am_G → Prop} {L : am_Lo} {st : List Value} {g : am_G} {x : Int32} {u : Int64} {a b : Nat}
theorem y_23_48 : am_E d 23 Q (48, L, .ref b :: .ref a :: st, g) ↔ am_kg d 23 Q 51 L st (am_pf g a 0 0 (.ref b)) := x_23_48 rfl
theorem y_23_53 : am_E d 23 Q (53, L, .ref b :: .ref a :: st, g) ↔ am_kg d 23 Q 56 L st (am_pf g a 0 1 (.ref b)) := x_23_53 rfl
theorem y_23_58 : am_E d 23 Q (58, L, .ref b :: .ref a :: st, g) ↔ am_kg d 23 Q 61 L st (am_pf g a 0 2 (.ref b)) := x_23_58 rfl
theorem y_23_70 : am_E d 23 Q (70, L, .ref b :: .ref a :: st, g) ↔ am_kg d 23 Q 73 L st (am_pf g a 0 3 (.ref b)) := x_23_70 rfl
theorem y_23_84 : am_E d 23 Q (84, L, .ref b :: .ref a :: st, g) ↔ am_kg d 23 Q 87 L st (am_pf g a 0 4 (.ref b)) := x_23_84 rfl
theorem y_23_98 : am_E d 23 Q (98, L, .ref b :: .ref a :: st, g) ↔ am_kg d 23 Q 101 L st (am_pf g a 0 5 (.ref b)) := x_23_98 rfl
theorem y_23_104 : am_E d 23 Q (104, L, .ref b :: .ref a :: st, g) ↔ am_kg d 23 Q 107 L st (am_pf g a 0 6 (.ref b)) := x_23_104 rfl
theorem y_23_110 : am_E d 23 Q (110, L, .ref b :: .ref a :: st, g) ↔ am_kg d 23 Q 113 L st (am_pf g a 0 7 (.ref b)) := x_23_110 rfl
theorem y_23_125 : am_E d 23 Q (125, L, .ref b :: .ref a :: st, g) ↔ am_kg d 23 Q 128 L st (am_pf g a 0 8 (.ref b)) := x_23_125 rfl
theorem y_23_132 : am_E d 23 Q (132, L, .ref b :: .ref a :: st, g) ↔ am_kg d 23 Q 135 L st (am_pf g a 0 9 (.ref b)) := x_23_132 rfl
theorem y_35_33 : am_E d 35 Q (33, L, .int x :: .ref a :: st, g) ↔ am_kg d 35 Q 36 L st (am_pf g a 1 8 (.int x)) := x_35_33 rfl
theorem y_44_90 : am_E d 44 Q (90, L, .int x :: .ref a :: st, g) ↔ am_kg d 44 Q 93 L st (am_pf g a 1 9 (.int x)) := x_44_90 rfl
theorem y_62_10 : am_E d 62 Q (10, L, .ref b :: .ref a :: st, g) ↔ am_kg d 62 Q 13 L st (am_pf g a 1 3 (.ref b)) := x_62_10 rfl
theorem y_62_19 : am_E d 62 Q (19, L, .ref b :: .ref a :: st, g) ↔ am_kg d 62 Q 22 L st (am_pf g a 1 4 (.ref b)) := x_62_19 rfl
theorem y_62_26 : am_E d 62 Q (26, L, .int x :: .ref a :: st, g) ↔ am_kg d 62 Q 29 L st (am_pf g a 1 8 (.int x)) := x_62_26 rfl
theorem y_62_31 : am_E d 62 Q (31, L, .ref b :: .ref a :: st, g) ↔ am_kg d 62 Q 34 L st (am_pf g a 1 0 (.ref b)) := x_62_31 rfl
theorem y_62_36 : am_E d 62 Q (36, L, .ref b :: .ref a :: st, g) ↔ am_kg d 62 Q 39 L st (am_pf g a 1 1 (.ref b)) := x_62_36 rfl
theorem y_62_41 : am_E d 62 Q (41, L, .ref b :: .ref a :: st, g) ↔ am_kg d 62 Q 44 L st (am_pf g a 1 2 (.ref b)) := x_62_41 rfl
theorem y_64_10 : am_E d 64 Q (10, L, .int x :: .ref a :: st, g) ↔ am_kg d 64 Q 13 L st (am_pf g a 1 5 (.int x)) := x_64_10 rfl
theorem y_64_15 : am_E d 64 Q (15, L, .int x :: .ref a :: st, g) ↔ am_kg d 64 Q 18 L st (am_pf g a 1 7 (.int x)) := x_64_15 rfl
theorem y_64_20 : am_E d 64 Q (20, L, .int x :: .ref a :: st, g) ↔ am_kg d 64 Q 23 L st (am_pf g a 1 6 (.int x)) := x_64_20 rfl
theorem y_64_35 : am_E d 64 Q (35, L, .int x :: .ref a :: st, g) ↔ am_kg d 64 Q 38 L st (am_pf g a 1 9 (.int x)) := x_64_35 rfl
theorem y_69_19 : am_E d 69 Q (19, L, .int x :: .ref a :: st, g) ↔ am_kg d 69 Q 22 L st (am_pf g a 1 5 (.int x)) := x_69_19 rfl
theorem y_70_27 : am_E d 70 Q (27, L, .int x :: .ref a :: st, g) ↔ am_kg d 70 Q 30 L st (am_pf g a 1 5 (.int x)) := x_70_27 rfl
theorem y_75_46 : am_E d 75 Q (46, L, .int x :: .ref a :: st, g) ↔ am_kg d 75 Q 49 L st (am_pf g a 1 7 (.int x)) := x_75_46 rfl
theorem y_77_13 : am_E d 77 Q (13, L, .ref b :: .ref a :: st, g) ↔ am_kg d 77 Q 16 L st (am_pf g a 2 0 (.ref b)) := x_77_13 rfl
theorem y_77_18 : am_E d 77 Q (18, L, .int x :: .ref a :: st, g) ↔ am_kg d 77 Q 21 L st (am_pf g a 2 1 (.int x)) := x_77_18 rfl
theorem y_80_21 : am_E d 80 Q (21, L, .int x :: .ref a :: st, g) ↔ am_kg d 80 Q 24 L st (am_pf g a 2 1 (.int x)) := x_80_21 rfl
theorem y_81_7 : am_E d 81 Q (7, L, .int x :: .ref a :: st, g) ↔ am_kg d 81 Q 10 L st (am_pf g a 2 1 (.int x)) := x_81_7 rfl
theorem y_84_14 : am_E d 84 Q (14, L, .ref b :: .ref a :: st, g) ↔ am_kg d 84 Q 17 L st (am_pf g a 3 1 (.ref b)) := x_84_14 rfl
theorem y_84_22 : am_E d 84 Q (22, L, .ref b :: .ref a :: st, g) ↔ am_kg d 84 Q 25 L st (am_pf g a 3 2 (.ref b)) := x_84_22 rfl
theorem y_84_27 : am_E d 84 Q (27, L, .ref b :: .ref a :: st, g) ↔ am_kg d 84 Q 30 L st (am_pf g a 3 0 (.ref b)) := x_84_27 rfl
theorem y_86_2 : am_E d 86 Q (2, L, .int x :: .ref a :: st, g) ↔ am_kg d 86 Q 5 L st (am_pf g a 3 4 (.int x)) := x_86_2 rfl
theorem y_86_7 : am_E d 86 Q (7, L, .int x :: .ref a :: st, g) ↔ am_kg d 86 Q 10 L st (am_pf g a 3 5 (.int x)) := x_86_7 rfl
theorem y_87_19 : am_E d 87 Q (19, L, .int x :: .ref a :: st, g) ↔ am_kg d 87 Q 22 L st (am_pf g a 3 3 (.int x)) := x_87_19 rfl
theorem y_87_29 : am_E d 87 Q (29, L, .int x :: .ref a :: st, g) ↔ am_kg d 87 Q 32 L st (am_pf g a 3 4 (.int x)) := x_87_29 rfl
theorem y_87_82 : am_E d 87 Q (82, L, .int x :: .ref a :: st, g) ↔ am_kg d 87 Q 85 L st (am_pf g a 3 4 (.int x)) := x_87_82 rfl
theorem y_87_87 : am_E d 87 Q (87, L, .int x :: .ref a :: st, g) ↔ am_kg d 87 Q 90 L st (am_pf g a 3 5 (.int x)) := x_87_87 rfl
theorem y_88_7 : am_E d 88 Q (7, L, .int x :: .ref a :: st, g) ↔ am_kg d 88 Q 10 L st (am_pf g a 3 4 (.int x)) := x_88_7 rfl
theorem y_88_17 : am_E d 88 Q (17, L, .int x :: .ref a :: st, g) ↔ am_kg d 88 Q 20 L st (am_pf g a 3 5 (.int x)) := x_88_17 rfl
theorem y_89_23 : am_E d 89 Q (23, L, .int x :: .ref a :: st, g) ↔ am_kg d 89 Q 26 L st (am_pf g a 3 4 (.int x)) := x_89_23 rfl
theorem y_89_33 : am_E d 89 Q (33, L, .int x :: .ref a :: st, g) ↔ am_kg d 89 Q 36 L st (am_pf g a 3 5 (.int x)) := x_89_33 rfl
theorem y_90_9 : am_E d 90 Q (9, L, .ref b :: .ref a :: st, g) ↔ am_kg d 90 Q 12 L st (am_pf g a 4 0 (.ref b)) := x_90_9 rfl
theorem y_91_37 : am_E d 91 Q (37, L, .int x :: .ref a :: st, g) ↔ am_kg d 91 Q 40 L st (am_pf g a 4 1 (.int x)) := x_91_37 rfl
theorem y_93_2 : am_E d 93 Q (2, L, .int x :: .ref a :: st, g) ↔ am_kg d 93 Q 5 L st (am_pf g a 4 1 (.int x)) := x_93_2 rfl
theorem y_94_6 : am_E d 94 Q (6, L, .ref b :: .ref a :: st, g) ↔ am_kg d 94 Q 9 L st (am_pf g a 5 0 (.ref b)) := x_94_6 rfl
theorem y_94_11 : am_E d 94 Q (11, L, .ref b :: .ref a :: st, g) ↔ am_kg d 94 Q 14 L st (am_pf g a 5 1 (.ref b)) := x_94_11 rfl
theorem y_95_2 : am_E d 95 Q (2, L, .int x :: .ref a :: st, g) ↔ am_kg d 95 Q 5 L st (am_pf g a 5 2 (.int x)) := x_95_2 rfl
theorem y_95_10 : am_E d 95 Q (10, L, .int x :: .ref a :: st, g) ↔ am_kg d 95 Q 13 L st (am_pf g a 6 4 (.int x)) := x_95_10 rfl
theorem y_100_14 : am_E d 100 Q (14, L, .int x :: .ref a :: st, g) ↔ am_kg d 100 Q 17 L st (am_pf g a 5 2 (.int x)) := x_100_14 rfl
theorem y_100_45 : am_E d 100 Q (45, L, .int x :: .ref a :: st, g) ↔ am_kg d 100 Q 48 L st (am_pf g a 5 2 (.int x)) := x_100_45 rfl
theorem y_101_40 : am_E d 101 Q (40, L, .int x :: .ref a :: st, g) ↔ am_kg d 101 Q 43 L st (am_pf g a 5 2 (.int x)) := x_101_40 rfl
theorem y_101_82 : am_E d 101 Q (82, L, .int x :: .ref a :: st, g) ↔ am_kg d 101 Q 85 L st (am_pf g a 5 2 (.int x)) := x_101_82 rfl
theorem y_102_39 : am_E d 102 Q (39, L, .int x :: .ref a :: st, g) ↔ am_kg d 102 Q 42 L st (am_pf g a 5 2 (.int x)) := x_102_39 rfl
theorem y_103_51 : am_E d 103 Q (51, L, .int x :: .ref a :: st, g) ↔ am_kg d 103 Q 54 L st (am_pf g a 5 2 (.int x)) := x_103_51 rfl
theorem y_104_43 : am_E d 104 Q (43, L, .int x :: .ref a :: st, g) ↔ am_kg d 104 Q 46 L st (am_pf g a 5 2 (.int x)) := x_104_43 rfl
theorem y_104_71 : am_E d 104 Q (71, L, .int x :: .ref a :: st, g) ↔ am_kg d 104 Q 74 L st (am_pf g a 5 2 (.int x)) := x_104_71 rfl
theorem y_105_51 : am_E d 105 Q (51, L, .int x :: .ref a :: st, g) ↔ am_kg d 105 Q 54 L st (am_pf g a 5 2 (.int x)) := x_105_51 rfl
theorem y_107_8 : am_E d 107 Q (8, L, .ref b :: .ref a :: st, g) ↔ am_kg d 107 Q 11 L st (am_pf g a 6 0 (.ref b)) := x_107_8 rfl
theorem y_107_15 : am_E d 107 Q (15, L, .ref b :: .ref a :: st, g) ↔ am_kg d 107 Q 18 L st (am_pf g a 6 1 (.ref b)) := x_107_15 rfl
theorem y_107_23 : am_E d 107 Q (23, L, .ref b :: .ref a :: st, g) ↔ am_kg d 107 Q 26 L st (am_pf g a 6 2 (.ref b)) := x_107_23 rfl
theorem y_107_31 : am_E d 107 Q (31, L, .ref b :: .ref a :: st, g) ↔ am_kg d 107 Q 34 L st (am_pf g a 6 3 (.ref b)) := x_107_31 rfl
theorem y_108_39 : am_E d 108 Q (39, L, .int x :: .ref a :: st, g) ↔ am_kg d 108 Q 42 L st (am_pf g a 6 4 (.int x)) := x_108_39 rfl
theorem y_109_18 : am_E d 109 Q (18, L, .int x :: .ref a :: st, g) ↔ am_kg d 109 Q 21 L st (am_pf g a 6 4 (.int x)) := x_109_18 rfl
theorem y_110_63 : am_E d 110 Q (63, L, .int x :: .ref a :: st, g) ↔ am_kg d 110 Q 66 L st (am_pf g a 6 4 (.int x)) := x_110_63 rfl
theorem y_118_10 : am_E d 118 Q (10, L, .ref b :: .ref a :: st, g) ↔ am_kg d 118 Q 13 L st (am_pf g a 7 0 (.ref b)) := x_118_10 rfl
theorem y_119_29 : am_E d 119 Q (29, L, .int x :: .ref a :: st, g) ↔ am_kg d 119 Q 32 L st (am_pf g a 7 1 (.int x)) := x_119_29 rfl
theorem y_123_50 : am_E d 123 Q (50, L, .int x :: .ref a :: st, g) ↔ am_kg d 123 Q 53 L st (am_pf g a 7 1 (.int x)) := x_123_50 rfl
theorem y_124_9 : am_E d 124 Q (9, L, .ref b :: .ref a :: st, g) ↔ am_kg d 124 Q 12 L st (am_pf g a 8 0 (.ref b)) := x_124_9 rfl
theorem y_133_10 : am_E d 133 Q (10, L, .ref b :: .ref a :: st, g) ↔ am_kg d 133 Q 13 L st (am_pf g a 9 3 (.ref b)) := x_133_10 rfl
theorem y_133_15 : am_E d 133 Q (15, L, .ref b :: .ref a :: st, g) ↔ am_kg d 133 Q 18 L st (am_pf g a 9 0 (.ref b)) := x_133_15 rfl
theorem y_133_20 : am_E d 133 Q (20, L, .ref b :: .ref a :: st, g) ↔ am_kg d 133 Q 23 L st (am_pf g a 9 1 (.ref b)) := x_133_20 rfl
theorem y_133_25 : am_E d 133 Q (25, L, .ref b :: .ref a :: st, g) ↔ am_kg d 133 Q 28 L st (am_pf g a 9 2 (.ref b)) := x_133_25 rfl
theorem y_135_2 : am_E d 135 Q (2, L, .long u :: .ref a :: st, g) ↔ am_kg d 135 Q 5 L st (am_pf g a 9 4 (.long u)) := x_135_2 rfl
theorem y_135_42 : am_E d 135 Q (42, L, .long u :: .ref a :: st, g) ↔ am_kg d 135 Q 45 L st (am_pf g a 9 4 (.long u)) := x_135_42 rfl
theorem y_136_2 : am_E d 136 Q (2, L, .int x :: .ref a :: st, g) ↔ am_kg d 136 Q 5 L st (am_pf g a 9 5 (.int x)) := x_136_2 rfl
theorem y_136_53 : am_E d 136 Q (53, L, .int x :: .ref a :: st, g) ↔ am_kg d 136 Q 56 L st (am_pf g a 9 5 (.int x)) := x_136_53 rfl
theorem y_142_9 : am_E d 142 Q (9, L, .ref b :: .ref a :: st, g) ↔ am_kg d 142 Q 12 L st (am_pf g a 10 0 (.ref b)) := x_142_9 rfl
theorem y_142_17 : am_E d 142 Q (17, L, .ref b :: .ref a :: st, g) ↔ am_kg d 142 Q 20 L st (am_pf g a 10 1 (.ref b)) := x_142_17 rfl
theorem y_142_25 : am_E d 142 Q (25, L, .ref b :: .ref a :: st, g) ↔ am_kg d 142 Q 28 L st (am_pf g a 10 2 (.ref b)) := x_142_25 rfl
theorem y_142_33 : am_E d 142 Q (33, L, .ref b :: .ref a :: st, g) ↔ am_kg d 142 Q 36 L st (am_pf g a 10 3 (.ref b)) := x_142_33 rfl
theorem y_142_41 : am_E d 142 Q (41, L, .ref b :: .ref a :: st, g) ↔ am_kg d 142 Q 44 L st (am_pf g a 10 4 (.ref b)) := x_142_41 rfl
theorem y_143_10 : am_E d 143 Q (10, L, .int x :: .ref a :: st, g) ↔ am_kg d 143 Q 13 L st (am_pf g a 10 5 (.int x)) := x_143_10 rfl
theorem y_144_15 : am_E d 144 Q (15, L, .int x :: .ref a :: st, g) ↔ am_kg d 144 Q 18 L st (am_pf g a 10 6 (.int x)) := x_144_15 rfl
theorem y_146_45 : am_E d 146 Q (45, L, .int x :: .ref a :: st, g) ↔ am_kg d 146 Q 48 L st (am_pf g a 10 6 (.int x)) := x_146_45 rfl
theorem y_155_68 : am_E d 155 Q (68, L, .int x :: .ref a :: st, g) ↔ am_kg d 155 Q 71 L st (am_pf g a 10 5 (.int x)) := x_155_68 rfl
theorem y_156_9 : am_E d 156 Q (9, L, .ref b :: .ref a :: st, g) ↔ am_kg d 156 Q 12 L st (am_pf g a 11 1 (.ref b)) := x_156_9 rfl
theorem y_156_17 : am_E d 156 Q (17, L, .ref b :: .ref a :: st, g) ↔ am_kg d 156 Q 20 L st (am_pf g a 11 2 (.ref b)) := x_156_17 rfl
theorem y_156_25 : am_E d 156 Q (25, L, .ref b :: .ref a :: st, g) ↔ am_kg d 156 Q 28 L st (am_pf g a 11 3 (.ref b)) := x_156_25 rfl
theorem y_156_33 : am_E d 156 Q (33, L, .ref b :: .ref a :: st, g) ↔ am_kg d 156 Q 36 L st (am_pf g a 11 4 (.ref b)) := x_156_33 rfl
theorem y_156_40 : am_E d 156 Q (40, L, .ref b :: .ref a :: st, g) ↔ am_kg d 156 Q 43 L st (am_pf g a 11 5 (.ref b)) := x_156_40 rfl
theorem y_156_48 : am_E d 156 Q (48, L, .ref b :: .ref a :: st, g) ↔ am_kg d 156 Q 51 L st (am_pf g a 11 6 (.ref b)) := x_156_48 rfl
theorem y_156_55 : am_E d 156 Q (55, L, .ref b :: .ref a :: st, g) ↔ am_kg d 156 Q 58 L st (am_pf g a 11 7 (.ref b)) := x_156_55 rfl
theorem y_156_60 : am_E d 156 Q (60, L, .int x :: .ref a :: st, g) ↔ am_kg d 156 Q 63 L st (am_pf g a 11 8 (.int x)) := x_156_60 rfl
theorem y_156_69 : am_E d 156 Q (69, L, .ref b :: .ref a :: st, g) ↔ am_kg d 156 Q 72 L st (am_pf g a 11 9 (.ref b)) := x_156_69 rfl
theorem y_156_78 : am_E d 156 Q (78, L, .ref b :: .ref a :: st, g) ↔ am_kg d 156 Q 81 L st (am_pf g a 11 10 (.ref b)) := x_156_78 rfl
theorem y_156_86 : am_E d 156 Q (86, L, .ref b :: .ref a :: st, g) ↔ am_kg d 156 Q 89 L st (am_pf g a 11 12 (.ref b)) := x_156_86 rfl
theorem y_156_94 : am_E d 156 Q (94, L, .ref b :: .ref a :: st, g) ↔ am_kg d 156 Q 97 L st (am_pf g a 11 13 (.ref b)) := x_156_94 rfl
theorem y_156_102 : am_E d 156 Q (102, L, .ref b :: .ref a :: st, g) ↔ am_kg d 156 Q 105 L st (am_pf g a 11 14 (.ref b)) := x_156_102 rfl
theorem y_156_111 : am_E d 156 Q (111, L, .ref b :: .ref a :: st, g) ↔ am_kg d 156 Q 114 L st (am_pf g a 11 15 (.ref b)) := x_156_111 rfl
theorem y_156_120 : am_E d 156 Q (120, L, .ref b :: .ref a :: st, g) ↔ am_kg d 156 Q 123 L st (am_pf g a 11 16 (.ref b)) := x_156_120 rfl
theorem y_156_129 : am_E d 156 Q (129, L, .ref b :: .ref a :: st, g) ↔ am_kg d 156 Q 132 L st (am_pf g a 11 17 (.ref b)) := x_156_129 rfl
theorem y_156_137 : am_E d 156 Q (137, L, .ref b :: .ref a :: st, g) ↔ am_kg d 156 Q 140 L st (am_pf g a 11 18 (.ref b)) := x_156_137 rfl
theorem y_156_146 : am_E d 156 Q (146, L, .ref b :: .ref a :: st, g) ↔ am_kg d 156 Q 149 L st (am_pf g a 11 19 (.ref b)) := x_156_146 rfl
theorem y_156_155 : am_E d 156 Q (155, L, .ref b :: .ref a :: st, g) ↔ am_kg d 156 Q 158 L st (am_pf g a 11 20 (.ref b)) := x_156_155 rfl
theorem y_156_162 : am_E d 156 Q (162, L, .ref b :: .ref a :: st, g) ↔ am_kg d 156 Q 165 L st (am_pf g a 11 21 (.ref b)) := x_156_162 rfl
theorem y_156_169 : am_E d 156 Q (169, L, .ref b :: .ref a :: st, g) ↔ am_kg d 156 Q 172 L st (am_pf g a 11 22 (.ref b)) := x_156_169 rfl
theorem y_156_177 : am_E d 156 Q (177, L, .ref b :: .ref a :: st, g) ↔ am_kg d 156 Q 180 L st (am_pf g a 11 24 (.ref b)) := x_156_177 rfl
theorem y_156_185 : am_E d 156 Q (185, L, .ref b :: .ref a :: st, g) ↔ am_kg d 156 Q 188 L st (am_pf g a 11 26 (.ref b)) := x_156_185 rfl
theorem y_156_193 : am_E d 156 Q (193, L, .ref b :: .ref a :: st, g) ↔ am_kg d 156 Q 196 L st (am_pf g a 11 27 (.ref b)) := x_156_193 rfl
theorem y_156_201 : am_E d 156 Q (201, L, .ref b :: .ref a :: st, g) ↔ am_kg d 156 Q 204 L st (am_pf g a 11 28 (.ref b)) := x_156_201 rfl
theorem y_156_209 : am_E d 156 Q (209, L, .ref b :: .ref a :: st, g) ↔ am_kg d 156 Q 212 L st (am_pf g a 11 29 (.ref b)) := x_156_209 rfl
theorem y_156_217 : am_E d 156 Q (217, L, .ref b :: .ref a :: st, g) ↔ am_kg d 156 Q 220 L st (am_pf g a 11 30 (.ref b)) := x_156_217 rfl
theorem y_156_225 : am_E d 156 Q (225, L, .ref b :: .ref a :: st, g) ↔ am_kg d 156 Q 228 L st (am_pf g a 11 32 (.ref b)) := x_156_225 rfl
theorem y_156_233 : am_E d 156 Q (233, L, .ref b :: .ref a :: st, g) ↔ am_kg d 156 Q 236 L st (am_pf g a 11 39 (.ref b)) := x_156_233 rfl
theorem y_156_241 : am_E d 156 Q (241, L, .ref b :: .ref a :: st, g) ↔ am_kg d 156 Q 244 L st (am_pf g a 11 40 (.ref b)) := x_156_241 rfl
theorem y_156_250 : am_E d 156 Q (250, L, .ref b :: .ref a :: st, g) ↔ am_kg d 156 Q 253 L st (am_pf g a 11 41 (.ref b)) := x_156_250 rfl
theorem y_156_259 : am_E d 156 Q (259, L, .ref b :: .ref a :: st, g) ↔ am_kg d 156 Q 262 L st (am_pf g a 11 42 (.ref b)) := x_156_259 rfl
theorem y_156_268 : am_E d 156 Q (268, L, .ref b :: .ref a :: st, g) ↔ am_kg d 156 Q 271 L st (am_pf g a 11 43 (.ref b)) := x_156_268 rfl
theorem y_156_277 : am_E d 156 Q (277, L, .ref b :: .ref a :: st, g) ↔ am_kg d 156 Q 280 L st (am_pf g a 11 44 (.ref b)) := x_156_277 rfl
theorem y_156_286 : am_E d 156 Q (286, L, .ref b :: .ref a :: st, g) ↔ am_kg d 156 Q 289 L st (am_pf g a 11 45 (.ref b)) := x_156_286 rfl
theorem y_156_294 : am_E d 156 Q (294, L, .ref b :: .ref a :: st, g) ↔ am_kg d 156 Q 297 L st (am_pf g a 11 50 (.ref b)) := x_156_294 rfl
theorem y_156_302 : am_E d 156 Q (302, L, .ref b :: .ref a :: st, g) ↔ am_kg d 156 Q 305 L st (am_pf g a 11 51 (.ref b)) := x_156_302 rfl
theorem y_156_310 : am_E d 156 Q (310, L, .ref b :: .ref a :: st, g) ↔ am_kg d 156 Q 313 L st (am_pf g a 11 52 (.ref b)) := x_156_310 rfl
theorem y_156_318 : am_E d 156 Q (318, L, .ref b :: .ref a :: st, g) ↔ am_kg d 156 Q 321 L st (am_pf g a 11 53 (.ref b)) := x_156_318 rfl
theorem y_156_326 : am_E d 156 Q (326, L, .ref b :: .ref a :: st, g) ↔ am_kg d 156 Q 329 L st (am_pf g a 11 54 (.ref b)) := x_156_326 rfl
theorem y_156_334 : am_E d 156 Q (334, L, .ref b :: .ref a :: st, g) ↔ am_kg d 156 Q 337 L st (am_pf g a 11 55 (.ref b)) := x_156_334 rfl
theorem y_156_342 : am_E d 156 Q (342, L, .ref b :: .ref a :: st, g) ↔ am_kg d 156 Q 345 L st (am_pf g a 11 56 (.ref b)) := x_156_342 rfl
theorem y_156_350 : am_E d 156 Q (350, L, .ref b :: .ref a :: st, g) ↔ am_kg d 156 Q 353 L st (am_pf g a 11 57 (.ref b)) := x_156_350 rfl
theorem y_156_358 : am_E d 156 Q (358, L, .ref b :: .ref a :: st, g) ↔ am_kg d 156 Q 361 L st (am_pf g a 11 58 (.ref b)) := x_156_358 rfl
theorem y_156_367 : am_E d 156 Q (367, L, .ref b :: .ref a :: st, g) ↔ am_kg d 156 Q 370 L st (am_pf g a 11 60 (.ref b)) := x_156_367 rfl
theorem y_156_376 : am_E d 156 Q (376, L, .ref b :: .ref a :: st, g) ↔ am_kg d 156 Q 379 L st (am_pf g a 11 61 (.ref b)) := x_156_376 rfl
theorem y_156_383 : am_E d 156 Q (383, L, .int x :: .ref a :: st, g) ↔ am_kg d 156 Q 386 L st (am_pf g a 11 65 (.int x)) := x_156_383 rfl
theorem y_156_390 : am_E d 156 Q (390, L, .ref b :: .ref a :: st, g) ↔ am_kg d 156 Q 393 L st (am_pf g a 11 66 (.ref b)) := x_156_390 rfl
theorem y_156_399 : am_E d 156 Q (399, L, .ref b :: .ref a :: st, g) ↔ am_kg d 156 Q 402 L st (am_pf g a 11 67 (.ref b)) := x_156_399 rfl
theorem y_156_407 : am_E d 156 Q (407, L, .ref b :: .ref a :: st, g) ↔ am_kg d 156 Q 410 L st (am_pf g a 11 68 (.ref b)) := x_156_407 rfl
theorem y_159_60 : am_E d 159 Q (60, L, .int x :: .ref a :: st, g) ↔ am_kg d 159 Q 63 L st (am_pf g a 11 64 (.int x)) := x_159_60 rfl
theorem y_162_9 : am_E d 162 Q (9, L, .int x :: .ref a :: st, g) ↔ am_kg d 162 Q 12 L st (am_pf g a 11 33 (.int x)) := x_162_9 rfl
theorem y_162_14 : am_E d 162 Q (14, L, .int x :: .ref a :: st, g) ↔ am_kg d 162 Q 17 L st (am_pf g a 11 34 (.int x)) := x_162_14 rfl
theorem y_162_22 : am_E d 162 Q (22, L, .int x :: .ref a :: st, g) ↔ am_kg d 162 Q 25 L st (am_pf g a 11 35 (.int x)) := x_162_22 rfl
theorem y_162_36 : am_E d 162 Q (36, L, .int x :: .ref a :: st, g) ↔ am_kg d 162 Q 39 L st (am_pf g a 11 33 (.int x)) := x_162_36 rfl
theorem y_162_49 : am_E d 162 Q (49, L, .int x :: .ref a :: st, g) ↔ am_kg d 162 Q 52 L st (am_pf g a 11 36 (.int x)) := x_162_49 rfl
theorem y_165_7 : am_E d 165 Q (7, L, .int x :: .ref a :: st, g) ↔ am_kg d 165 Q 10 L st (am_pf g a 11 59 (.int x)) := x_165_7 rfl
theorem y_167_91 : am_E d 167 Q (91, L, .int x :: .ref a :: st, g) ↔ am_kg d 167 Q 94 L st (am_pf g a 11 47 (.int x)) := x_167_91 rfl
theorem y_170_31 : am_E d 170 Q (31, L, .int x :: .ref a :: st, g) ↔ am_kg d 170 Q 34 L st (am_pf g a 11 8 (.int x)) := x_170_31 rfl
theorem y_171_291 : am_E d 171 Q (291, L, .int x :: .ref a :: st, g) ↔ am_kg d 171 Q 294 L st (am_pf g a 11 11 (.int x)) := x_171_291 rfl
theorem y_174_87 : am_E d 174 Q (87, L, .int x :: .ref a :: st, g) ↔ am_kg d 174 Q 90 L st (am_pf g a 11 25 (.int x)) := x_174_87 rfl
theorem y_175_56 : am_E d 175 Q (56, L, .int x :: .ref a :: st, g) ↔ am_kg d 175 Q 59 L st (am_pf g a 11 33 (.int x)) := x_175_56 rfl
theorem y_181_68 : am_E d 181 Q (68, L, .int x :: .ref a :: st, g) ↔ am_kg d 181 Q 71 L st (am_pf g a 11 31 (.int x)) := x_181_68 rfl
theorem y_181_73 : am_E d 181 Q (73, L, .int x :: .ref a :: st, g) ↔ am_kg d 181 Q 76 L st (am_pf g a 11 33 (.int x)) := x_181_73 rfl
theorem y_181_138 : am_E d 181 Q (138, L, .int x :: .ref a :: st, g) ↔ am_kg d 181 Q 141 L st (am_pf g a 11 33 (.int x)) := x_181_138 rfl
theorem y_181_252 : am_E d 181 Q (252, L, .int x :: .ref a :: st, g) ↔ am_kg d 181 Q 255 L st (am_pf g a 11 33 (.int x)) := x_181_252 rfl
theorem y_181_291 : am_E d 181 Q (291, L, .int x :: .ref a :: st, g) ↔ am_kg d 181 Q 294 L st (am_pf g a 11 25 (.int x)) := x_181_291 rfl
theorem y_181_296 : am_E d 181 Q (296, L, .int x :: .ref a :: st, g) ↔ am_kg d 181 Q 299 L st (am_pf g a 11 33 (.int x)) := x_181_296 rfl
theorem y_182_2 : am_E d 182 Q (2, L, .int x :: .ref a :: st, g) ↔ am_kg d 182 Q 5 L st (am_pf g a 11 37 (.int x)) := x_182_2 rfl
theorem y_182_7 : am_E d 182 Q (7, L, .int x :: .ref a :: st, g) ↔ am_kg d 182 Q 10 L st (am_pf g a 11 38 (.int x)) := x_182_7 rfl
theorem y_183_67 : am_E d 183 Q (67, L, .int x :: .ref a :: st, g) ↔ am_kg d 183 Q 70 L st (am_pf g a 11 47 (.int x)) := x_183_67 rfl
theorem y_184_35 : am_E d 184 Q (35, L, .int x :: .ref a :: st, g) ↔ am_kg d 184 Q 38 L st (am_pf g a 11 65 (.int x)) := x_184_35 rfl
theorem y_185_26 : am_E d 185 Q (26, L, .int x :: .ref a :: st, g) ↔ am_kg d 185 Q 29 L st (am_pf g a 11 0 (.int x)) := x_185_26 rfl
theorem y_199_62 : am_E d 199 Q (62, L, .int x :: .ref a :: st, g) ↔ am_kg d 199 Q 65 L st (am_pf g a 11 8 (.int x)) := x_199_62 rfl
theorem y_208_26 : am_E d 208 Q (26, L, .int x :: .ref a :: st, g) ↔ am_kg d 208 Q 29 L st (am_pf g a 11 49 (.int x)) := x_208_26 rfl
theorem y_208_51 (hx : x = 0 ∨ x = 1) : am_E d 208 Q (51, L, .int x :: .ref a :: st, g) ↔ am_kg d 208 Q 54 L st (am_pf g a 11 48 (.int x)) := x_208_51 (by rcases hx with rfl | rfl <;> rfl)
theorem y_209_159 : am_E d 209 Q (159, L, .int x :: .ref a :: st, g) ↔ am_kg d 209 Q 162 L st (am_pf g a 11 38 (.int x)) := x_209_159 rfl
theorem y_209_189 : am_E d 209 Q (189, L, .int x :: .ref a :: st, g) ↔ am_kg d 209 Q 192 L st (am_pf g a 11 38 (.int x)) := x_209_189 rfl
theorem y_209_197 : am_E d 209 Q (197, L, .int x :: .ref a :: st, g) ↔ am_kg d 209 Q 200 L st (am_pf g a 11 37 (.int x)) := x_209_197 rfl
theorem y_211_60 : am_E d 211 Q (60, L, .int x :: .ref a :: st, g) ↔ am_kg d 211 Q 63 L st (am_pf g a 11 25 (.int x)) := x_211_60 rfl
theorem y_212_31 : am_E d 212 Q (31, L, .int x :: .ref a :: st, g) ↔ am_kg d 212 Q 34 L st (am_pf g a 11 59 (.int x)) := x_212_31 rfl
theorem y_212_44 : am_E d 212 Q (44, L, .int x :: .ref a :: st, g) ↔ am_kg d 212 Q 47 L st (am_pf g a 11 62 (.int x)) := x_212_44 rfl
theorem y_212_57 : am_E d 212 Q (57, L, .long u :: .ref a :: st, g) ↔ am_kg d 212 Q 60 L st (am_pf g a 11 63 (.long u)) := x_212_57 rfl
theorem y_212_67 : am_E d 212 Q (67, L, .int x :: .ref a :: st, g) ↔ am_kg d 212 Q 70 L st (am_pf g a 11 47 (.int x)) := x_212_67 rfl
theorem y_212_244 : am_E d 212 Q (244, L, .int x :: .ref a :: st, g) ↔ am_kg d 212 Q 247 L st (am_pf g a 11 59 (.int x)) := x_212_244 rfl
theorem y_216_43 : am_E d 216 Q (43, L, .int x :: .ref a :: st, g) ↔ am_kg d 216 Q 46 L st (am_pf g a 11 31 (.int x)) := x_216_43 rfl
theorem y_217_35 : am_E d 217 Q (35, L, .int x :: .ref a :: st, g) ↔ am_kg d 217 Q 38 L st (am_pf g a 11 59 (.int x)) := x_217_35 rfl
theorem y_220_22 : am_E d 220 Q (22, L, .int x :: .ref a :: st, g) ↔ am_kg d 220 Q 25 L st (am_pf g a 11 25 (.int x)) := x_220_22 rfl
theorem y_220_27 : am_E d 220 Q (27, L, .int x :: .ref a :: st, g) ↔ am_kg d 220 Q 30 L st (am_pf g a 11 31 (.int x)) := x_220_27 rfl
theorem y_220_32 : am_E d 220 Q (32, L, .int x :: .ref a :: st, g) ↔ am_kg d 220 Q 35 L st (am_pf g a 11 33 (.int x)) := x_220_32 rfl
theorem y_221_116 : am_E d 221 Q (116, L, .int x :: .ref a :: st, g) ↔ am_kg d 221 Q 119 L st (am_pf g a 11 38 (.int x)) := x_221_116 rfl
theorem y_223_17 : am_E d 223 Q (17, L, .int x :: .ref a :: st, g) ↔ am_kg d 223 Q 20 L st (am_pf g a 11 62 (.int x)) := x_223_17 rfl
theorem y_223_33 : am_E d 223 Q (33, L, .long u :: .ref a :: st, g) ↔ am_kg d 223 Q 36 L st (am_pf g a 11 63 (.long u)) := x_223_33 rfl
theorem y_225_90 : am_E d 225 Q (90, L, .int x :: .ref a :: st, g) ↔ am_kg d 225 Q 93 L st (am_pf g a 11 23 (.int x)) := x_225_90 rfl
theorem y_225_104 : am_E d 225 Q (104, L, .int x :: .ref a :: st, g) ↔ am_kg d 225 Q 107 L st (am_pf g a 11 11 (.int x)) := x_225_104 rfl
theorem y_226_84 : am_E d 226 Q (84, L, .int x :: .ref a :: st, g) ↔ am_kg d 226 Q 87 L st (am_pf g a 11 33 (.int x)) := x_226_84 rfl
theorem y_229_275 : am_E d 229 Q (275, L, .int x :: .ref a :: st, g) ↔ am_kg d 229 Q 278 L st (am_pf g a 11 64 (.int x)) := x_229_275 rfl
theorem y_232_2 : am_E d 232 Q (2, L, .int x :: .ref a :: st, g) ↔ am_kg d 232 Q 5 L st (am_pf g a 11 0 (.int x)) := x_232_2 rfl
theorem y_233_223 : am_E d 233 Q (223, L, .int x :: .ref a :: st, g) ↔ am_kg d 233 Q 226 L st (am_pf g a 11 47 (.int x)) := x_233_223 rfl
theorem y_234_49 : am_E d 234 Q (49, L, .int x :: .ref a :: st, g) ↔ am_kg d 234 Q 52 L st (am_pf g a 11 34 (.int x)) := x_234_49 rfl
theorem y_234_65 : am_E d 234 Q (65, L, .int x :: .ref a :: st, g) ↔ am_kg d 234 Q 68 L st (am_pf g a 11 35 (.int x)) := x_234_65 rfl
theorem y_234_125 : am_E d 234 Q (125, L, .int x :: .ref a :: st, g) ↔ am_kg d 234 Q 128 L st (am_pf g a 11 33 (.int x)) := x_234_125 rfl
theorem y_237_2 : am_E d 237 Q (2, L, .int x :: .ref a :: st, g) ↔ am_kg d 237 Q 5 L st (am_pf g a 11 0 (.int x)) := x_237_2 rfl
theorem y_237_112 : am_E d 237 Q (112, L, .int x :: .ref a :: st, g) ↔ am_kg d 237 Q 115 L st (am_pf g a 11 23 (.int x)) := x_237_112 rfl
theorem y_239_30 : am_E d 239 Q (30, L, .int x :: .ref a :: st, g) ↔ am_kg d 239 Q 33 L st (am_pf g a 11 38 (.int x)) := x_239_30 rfl
theorem y_244_2 : am_E d 244 Q (2, L, .int x :: .ref a :: st, g) ↔ am_kg d 244 Q 5 L st (am_pf g a 11 46 (.int x)) := x_244_2 rfl
theorem y_244_7 : am_E d 244 Q (7, L, .int x :: .ref a :: st, g) ↔ am_kg d 244 Q 10 L st (am_pf g a 11 47 (.int x)) := x_244_7 rfl
theorem y_244_12 : am_E d 244 Q (12, L, .int x :: .ref a :: st, g) ↔ am_kg d 244 Q 15 L st (am_pf g a 11 59 (.int x)) := x_244_12 rfl
theorem y_244_17 : am_E d 244 Q (17, L, .int x :: .ref a :: st, g) ↔ am_kg d 244 Q 20 L st (am_pf g a 11 49 (.int x)) := x_244_17 rfl
theorem y_244_22 (hx : x = 0 ∨ x = 1) : am_E d 244 Q (22, L, .int x :: .ref a :: st, g) ↔ am_kg d 244 Q 25 L st (am_pf g a 11 48 (.int x)) := x_244_22 (by rcases hx with rfl | rfl <;> rfl)
theorem y_244_27 : am_E d 244 Q (27, L, .int x :: .ref a :: st, g) ↔ am_kg d 244 Q 30 L st (am_pf g a 11 62 (.int x)) := x_244_27 rfl
theorem y_244_32 : am_E d 244 Q (32, L, .long u :: .ref a :: st, g) ↔ am_kg d 244 Q 35 L st (am_pf g a 11 63 (.long u)) := x_244_32 rfl
theorem y_246_14 : am_E d 246 Q (14, L, .ref b :: .ref a :: st, g) ↔ am_kg d 246 Q 17 L st (am_pf g a 12 0 (.ref b)) := x_246_14 rfl
theorem y_246_19 (hx : x.toInt8.toInt32 = x) : am_E d 246 Q (19, L, .int x :: .ref a :: st, g) ↔ am_kg d 246 Q 22 L st (am_pf g a 12 1 (.int x)) := x_246_19 (by show (decide (x.toInt8.toInt32 = x) && _ && _) = true; rw [decide_eq_true hx]; rfl)
theorem y_246_30 : am_E d 246 Q (30, L, .ref b :: .ref a :: st, g) ↔ am_kg d 246 Q 33 L st (am_pf g a 12 0 (.ref b)) := x_246_30 rfl
theorem y_246_35 (hx : x.toInt8.toInt32 = x) : am_E d 246 Q (35, L, .int x :: .ref a :: st, g) ↔ am_kg d 246 Q 38 L st (am_pf g a 12 1 (.int x)) := x_246_35 (by show (decide (x.toInt8.toInt32 = x) && _ && _) = true; rw [decide_eq_true hx]; rfl)
theorem y_247_36 : am_E d 247 Q (36, L, .int x :: .ref a :: st, g) ↔ am_kg d 247 Q 39 L st (am_pf g a 12 3 (.int x)) := x_247_36 rfl
theorem y_247_68 : am_E d 247 Q (68, L, .int x :: .ref a :: st, g) ↔ am_kg d 247 Q 71 L st (am_pf g a 12 3 (.int x)) := x_247_68 rfl
theorem y_248_50 : am_E d 248 Q (50, L, .int x :: .ref a :: st, g) ↔ am_kg d 248 Q 53 L st (am_pf g a 12 3 (.int x)) := x_248_50 rfl
theorem y_249_40 : am_E d 249 Q (40, L, .int x :: .ref a :: st, g) ↔ am_kg d 249 Q 43 L st (am_pf g a 12 3 (.int x)) := x_249_40 rfl
theorem y_252_35 : am_E d 252 Q (35, L, .ref b :: .ref a :: st, g) ↔ am_kg d 252 Q 38 L st (am_pf g a 12 0 (.ref b)) := x_252_35 rfl
end AMZ
/-- what stands in a cell, read and written -/
theorem am_gf_at {g : am_G} {a c k : Nat} {V : Nat → Value} (h : g.1 a = some (.inr (c, V))) : am_gf g a c k = some (V k) := by
  unfold am_gf; rw [h]; exact if_pos rfl
theorem am_pf_at {g : am_G} {a c k : Nat} {V : Nat → Value} {w : Value} (h : g.1 a = some (.inr (c, V))) (h32 : 32 ≤ a) : am_pf g a c k w = some (am_set g a (.inr (c, updV V k w))) := by
  unfold am_pf; rw [h]; exact if_pos ⟨rfl, h32⟩
theorem am_set_ne {g : am_G} {a b : Nat} {q : am_A} (h : b ≠ a) : (am_set g a q).1 b = g.1 b := if_neg h
theorem am_set_set {g : am_G} {a : Nat} {q r : am_A} : am_set (am_set g a q) a r = am_set g a r := by
  unfold am_set
  refine Prod.ext (funext fun b => ?_) rfl
  by_cases h : b = a
  · simp [h]
  · simp [h]
theorem am_upd_at {V : Nat → Value} {k : Nat} {w : Value} : updV V k w k = w := if_pos rfl
theorem am_upd_ne {V : Nat → Value} {k j : Nat} {w : Value} (h : j ≠ k) : updV V k w j = V j := if_neg h
theorem am_iat_i {g : am_G} {a n : Nat} {f : Nat → Int32} {x : Int32} (h : g.1 a = some (.inl (.int, n, .inl f))) (hx : am_out x n = false) : am_iat .iaload g a x = some (.int (f x.toNatClampNeg)) := by
  unfold am_iat am_ai; rw [h]; simp [hx]
theorem am_iat_z {g : am_G} {a n : Nat} {f : Nat → Int32} {x : Int32} (h : g.1 a = some (.inl (.boolean, n, .inl f))) (hx : am_out x n = false) : am_iat .baload g a x = some (.int (f x.toNatClampNeg)) := by
  unfold am_iat am_ai; rw [h]; simp [hx]
theorem am_sat_i {g : am_G} {a n : Nat} {f : Nat → Int32} {x y : Int32} (h : g.1 a = some (.inl (.int, n, .inl f))) (h32 : 32 ≤ a) (hx : am_out x n = false) : am_sat .iastore g a x (.int y) = some (am_set g a (.inl (.int, n, .inl (upd f x.toNatClampNeg y)))) := by
  unfold am_sat am_ai; rw [if_neg (by omega), h]; simp [hx]
