/-! The methods' code words, by their places. -/
theorem am_in_1 {w : Cond} (h : w ∈ tables_1_1) (hg : goodWord w = true) : w ∈ am_ws := List.mem_filter.mpr ⟨List.mem_append_right _ (List.mem_append_left _ h), hg⟩
theorem am_in_2 {w : Cond} (h : w ∈ tables_1_2) (hg : goodWord w = true) : w ∈ am_ws := List.mem_filter.mpr ⟨List.mem_append_right _ (List.mem_append_right _ (List.mem_append_left _ h)), hg⟩
theorem am_in_3 {w : Cond} (h : w ∈ tables_1_3) (hg : goodWord w = true) : w ∈ am_ws := List.mem_filter.mpr ⟨List.mem_append_right _ (List.mem_append_right _ (List.mem_append_right _ (List.mem_append_left _ h))), hg⟩
theorem am_in_4 {w : Cond} (h : w ∈ tables_1_4) (hg : goodWord w = true) : w ∈ am_ws := List.mem_filter.mpr ⟨List.mem_append_right _ (List.mem_append_right _ (List.mem_append_right _ (List.mem_append_right _ (List.mem_append_left _ h)))), hg⟩
theorem am_in_5 {w : Cond} (h : w ∈ tables_1_5) (hg : goodWord w = true) : w ∈ am_ws := List.mem_filter.mpr ⟨List.mem_append_right _ (List.mem_append_right _ (List.mem_append_right _ (List.mem_append_right _ (List.mem_append_right _ (List.mem_append_left _ h))))), hg⟩
theorem am_in_6 {w : Cond} (h : w ∈ tables_1_6) (hg : goodWord w = true) : w ∈ am_ws := List.mem_filter.mpr ⟨List.mem_append_right _ (List.mem_append_right _ (List.mem_append_right _ (List.mem_append_right _ (List.mem_append_right _ (List.mem_append_right _ (List.mem_append_left _ h)))))), hg⟩
theorem am_in_7 {w : Cond} (h : w ∈ tables_1_7) (hg : goodWord w = true) : w ∈ am_ws := List.mem_filter.mpr ⟨List.mem_append_right _ (List.mem_append_right _ (List.mem_append_right _ (List.mem_append_right _ (List.mem_append_right _ (List.mem_append_right _ (List.mem_append_right _ (List.mem_append_left _ h))))))), hg⟩
theorem am_in_8 {w : Cond} (h : w ∈ tables_1_8) (hg : goodWord w = true) : w ∈ am_ws := List.mem_filter.mpr ⟨List.mem_append_right _ (List.mem_append_right _ (List.mem_append_right _ (List.mem_append_right _ (List.mem_append_right _ (List.mem_append_right _ (List.mem_append_right _ (List.mem_append_right _ (h)))))))), hg⟩
def am_cw (P : Nat) : Cond := if am_h P = [] then Cond.code (am_y P) (am_b P) (am_m P) (am_t P) else Cond.codeWith (am_y P) (am_b P) (am_m P) (am_t P) ((am_h P).map fun r => (r.1, r.2.1, r.2.2.1, r.2.2.2.1))
set_option maxRecDepth 100000 in
theorem am_kD_1 : am_cw 1 ∈ am_ws := am_in_6 (List.mem_of_getElem? (i := 66) rfl) rfl
set_option maxRecDepth 100000 in
theorem am_kD_2 : am_cw 2 ∈ am_ws := am_in_3 (List.mem_of_getElem? (i := 132) rfl) rfl
set_option maxRecDepth 100000 in
theorem am_kD_3 : am_cw 3 ∈ am_ws := am_in_6 (List.mem_of_getElem? (i := 55) rfl) rfl
set_option maxRecDepth 100000 in
theorem am_kD_4 : am_cw 4 ∈ am_ws := am_in_3 (List.mem_of_getElem? (i := 93) rfl) rfl
set_option maxRecDepth 100000 in
theorem am_kD_5 : am_cw 5 ∈ am_ws := am_in_5 (List.mem_of_getElem? (i := 202) rfl) rfl
set_option maxRecDepth 100000 in
theorem am_kD_6 : am_cw 6 ∈ am_ws := am_in_3 (List.mem_of_getElem? (i := 230) rfl) rfl
set_option maxRecDepth 100000 in
theorem am_kD_7 : am_cw 7 ∈ am_ws := am_in_4 (List.mem_of_getElem? (i := 45) rfl) rfl
set_option maxRecDepth 100000 in
theorem am_kD_8 : am_cw 8 ∈ am_ws := am_in_6 (List.mem_of_getElem? (i := 73) rfl) rfl
set_option maxRecDepth 100000 in
theorem am_kD_9 : am_cw 9 ∈ am_ws := am_in_5 (List.mem_of_getElem? (i := 176) rfl) rfl
set_option maxRecDepth 100000 in
theorem am_kD_10 : am_cw 10 ∈ am_ws := am_in_5 (List.mem_of_getElem? (i := 191) rfl) rfl
set_option maxRecDepth 100000 in
theorem am_kD_11 : am_cw 11 ∈ am_ws := am_in_2 (List.mem_of_getElem? (i := 198) rfl) rfl
set_option maxRecDepth 100000 in
theorem am_kD_12 : am_cw 12 ∈ am_ws := am_in_3 (List.mem_of_getElem? (i := 74) rfl) rfl
set_option maxRecDepth 100000 in
theorem am_kD_13 : am_cw 13 ∈ am_ws := am_in_3 (List.mem_of_getElem? (i := 139) rfl) rfl
set_option maxRecDepth 100000 in
theorem am_kD_14 : am_cw 14 ∈ am_ws := am_in_4 (List.mem_of_getElem? (i := 1) rfl) rfl
set_option maxRecDepth 100000 in
theorem am_kD_15 : am_cw 15 ∈ am_ws := am_in_6 (List.mem_of_getElem? (i := 44) rfl) rfl
set_option maxRecDepth 100000 in
theorem am_kD_16 : am_cw 16 ∈ am_ws := am_in_3 (List.mem_of_getElem? (i := 146) rfl) rfl
set_option maxRecDepth 100000 in
theorem am_kD_17 : am_cw 17 ∈ am_ws := am_in_4 (List.mem_of_getElem? (i := 220) rfl) rfl
set_option maxRecDepth 100000 in
theorem am_kD_18 : am_cw 18 ∈ am_ws := am_in_5 (List.mem_of_getElem? (i := 213) rfl) rfl
set_option maxRecDepth 100000 in
theorem am_kD_19 : am_cw 19 ∈ am_ws := am_in_4 (List.mem_of_getElem? (i := 53) rfl) rfl
set_option maxRecDepth 100000 in
theorem am_kD_20 : am_cw 20 ∈ am_ws := am_in_6 (List.mem_of_getElem? (i := 29) rfl) rfl
set_option maxRecDepth 100000 in
theorem am_kD_21 : am_cw 21 ∈ am_ws := am_in_4 (List.mem_of_getElem? (i := 212) rfl) rfl
set_option maxRecDepth 100000 in
theorem am_kD_22 : am_cw 22 ∈ am_ws := am_in_5 (List.mem_of_getElem? (i := 183) rfl) rfl
set_option maxRecDepth 100000 in
theorem am_kD_23 : am_cw 23 ∈ am_ws := am_in_1 (List.mem_of_getElem? (i := 36) rfl) rfl
set_option maxRecDepth 100000 in
theorem am_kD_24 : am_cw 24 ∈ am_ws := am_in_6 (List.mem_of_getElem? (i := 70) rfl) rfl
set_option maxRecDepth 100000 in
theorem am_kD_25 : am_cw 25 ∈ am_ws := am_in_3 (List.mem_of_getElem? (i := 136) rfl) rfl
set_option maxRecDepth 100000 in
theorem am_kD_26 : am_cw 26 ∈ am_ws := am_in_4 (List.mem_of_getElem? (i := 9) rfl) rfl
set_option maxRecDepth 100000 in
theorem am_kD_27 : am_cw 27 ∈ am_ws := am_in_6 (List.mem_of_getElem? (i := 59) rfl) rfl
set_option maxRecDepth 100000 in
theorem am_kD_28 : am_cw 28 ∈ am_ws := am_in_4 (List.mem_of_getElem? (i := 61) rfl) rfl
set_option maxRecDepth 100000 in
theorem am_kD_29 : am_cw 29 ∈ am_ws := am_in_4 (List.mem_of_getElem? (i := 26) rfl) rfl
set_option maxRecDepth 100000 in
theorem am_kD_30 : am_cw 30 ∈ am_ws := am_in_3 (List.mem_of_getElem? (i := 97) rfl) rfl
set_option maxRecDepth 100000 in
theorem am_kD_31 : am_cw 31 ∈ am_ws := am_in_5 (List.mem_of_getElem? (i := 206) rfl) rfl
set_option maxRecDepth 100000 in
theorem am_kD_32 : am_cw 32 ∈ am_ws := am_in_3 (List.mem_of_getElem? (i := 234) rfl) rfl
set_option maxRecDepth 100000 in
theorem am_kD_33 : am_cw 33 ∈ am_ws := am_in_4 (List.mem_of_getElem? (i := 49) rfl) rfl
set_option maxRecDepth 100000 in
theorem am_kD_34 : am_cw 34 ∈ am_ws := am_in_6 (List.mem_of_getElem? (i := 77) rfl) rfl
set_option maxRecDepth 100000 in
theorem am_kD_35 : am_cw 35 ∈ am_ws := am_in_5 (List.mem_of_getElem? (i := 180) rfl) rfl
set_option maxRecDepth 100000 in
theorem am_kD_36 : am_cw 36 ∈ am_ws := am_in_5 (List.mem_of_getElem? (i := 195) rfl) rfl
set_option maxRecDepth 100000 in
theorem am_kD_37 : am_cw 37 ∈ am_ws := am_in_2 (List.mem_of_getElem? (i := 205) rfl) rfl
set_option maxRecDepth 100000 in
theorem am_kD_38 : am_cw 38 ∈ am_ws := am_in_3 (List.mem_of_getElem? (i := 78) rfl) rfl
set_option maxRecDepth 100000 in
theorem am_kD_39 : am_cw 39 ∈ am_ws := am_in_3 (List.mem_of_getElem? (i := 143) rfl) rfl
set_option maxRecDepth 100000 in
theorem am_kD_40 : am_cw 40 ∈ am_ws := am_in_4 (List.mem_of_getElem? (i := 5) rfl) rfl
set_option maxRecDepth 100000 in
theorem am_kD_41 : am_cw 41 ∈ am_ws := am_in_6 (List.mem_of_getElem? (i := 48) rfl) rfl
set_option maxRecDepth 100000 in
theorem am_kD_42 : am_cw 42 ∈ am_ws := am_in_3 (List.mem_of_getElem? (i := 150) rfl) rfl
set_option maxRecDepth 100000 in
theorem am_kD_43 : am_cw 43 ∈ am_ws := am_in_4 (List.mem_of_getElem? (i := 224) rfl) rfl
set_option maxRecDepth 100000 in
theorem am_kD_44 : am_cw 44 ∈ am_ws := am_in_5 (List.mem_of_getElem? (i := 217) rfl) rfl
set_option maxRecDepth 100000 in
theorem am_kD_45 : am_cw 45 ∈ am_ws := am_in_4 (List.mem_of_getElem? (i := 57) rfl) rfl
set_option maxRecDepth 100000 in
theorem am_kD_46 : am_cw 46 ∈ am_ws := am_in_2 (List.mem_of_getElem? (i := 195) rfl) rfl
set_option maxRecDepth 100000 in
theorem am_kD_47 : am_cw 47 ∈ am_ws := am_in_2 (List.mem_of_getElem? (i := 99) rfl) rfl
set_option maxRecDepth 100000 in
theorem am_kD_48 : am_cw 48 ∈ am_ws := am_in_6 (List.mem_of_getElem? (i := 33) rfl) rfl
set_option maxRecDepth 100000 in
theorem am_kD_49 : am_cw 49 ∈ am_ws := am_in_4 (List.mem_of_getElem? (i := 216) rfl) rfl
set_option maxRecDepth 100000 in
theorem am_kD_50 : am_cw 50 ∈ am_ws := am_in_5 (List.mem_of_getElem? (i := 187) rfl) rfl
set_option maxRecDepth 100000 in
theorem am_kD_51 : am_cw 51 ∈ am_ws := am_in_4 (List.mem_of_getElem? (i := 183) rfl) rfl
set_option maxRecDepth 100000 in
theorem am_kD_52 : am_cw 52 ∈ am_ws := am_in_4 (List.mem_of_getElem? (i := 160) rfl) rfl
set_option maxRecDepth 100000 in
theorem am_kD_53 : am_cw 53 ∈ am_ws := am_in_4 (List.mem_of_getElem? (i := 156) rfl) rfl
set_option maxRecDepth 100000 in
theorem am_kD_54 : am_cw 54 ∈ am_ws := am_in_4 (List.mem_of_getElem? (i := 20) rfl) rfl
set_option maxRecDepth 100000 in
theorem am_kD_55 : am_cw 55 ∈ am_ws := am_in_4 (List.mem_of_getElem? (i := 149) rfl) rfl
set_option maxRecDepth 100000 in
theorem am_kD_56 : am_cw 56 ∈ am_ws := am_in_4 (List.mem_of_getElem? (i := 73) rfl) rfl
set_option maxRecDepth 100000 in
theorem am_kD_57 : am_cw 57 ∈ am_ws := am_in_4 (List.mem_of_getElem? (i := 146) rfl) rfl
set_option maxRecDepth 100000 in
theorem am_kD_58 : am_cw 58 ∈ am_ws := am_in_4 (List.mem_of_getElem? (i := 190) rfl) rfl
set_option maxRecDepth 100000 in
theorem am_kD_59 : am_cw 59 ∈ am_ws := am_in_4 (List.mem_of_getElem? (i := 152) rfl) rfl
set_option maxRecDepth 100000 in
theorem am_kD_60 : am_cw 60 ∈ am_ws := am_in_4 (List.mem_of_getElem? (i := 227) rfl) rfl
set_option maxRecDepth 100000 in
theorem am_kD_61 : am_cw 61 ∈ am_ws := am_in_5 (List.mem_of_getElem? (i := 19) rfl) rfl
set_option maxRecDepth 100000 in
theorem am_kD_62 : am_cw 62 ∈ am_ws := am_in_1 (List.mem_of_getElem? (i := 227) rfl) rfl
set_option maxRecDepth 100000 in
theorem am_kD_63 : am_cw 63 ∈ am_ws := am_in_4 (List.mem_of_getElem? (i := 135) rfl) rfl
set_option maxRecDepth 100000 in
theorem am_kD_64 : am_cw 64 ∈ am_ws := am_in_4 (List.mem_of_getElem? (i := 65) rfl) rfl
set_option maxRecDepth 100000 in
theorem am_kD_65 : am_cw 65 ∈ am_ws := am_in_4 (List.mem_of_getElem? (i := 176) rfl) rfl
set_option maxRecDepth 100000 in
theorem am_kD_66 : am_cw 66 ∈ am_ws := am_in_4 (List.mem_of_getElem? (i := 109) rfl) rfl
set_option maxRecDepth 100000 in
theorem am_kD_67 : am_cw 67 ∈ am_ws := am_in_4 (List.mem_of_getElem? (i := 202) rfl) rfl
set_option maxRecDepth 100000 in
theorem am_kD_68 : am_cw 68 ∈ am_ws := am_in_4 (List.mem_of_getElem? (i := 113) rfl) rfl
set_option maxRecDepth 100000 in
theorem am_kD_69 : am_cw 69 ∈ am_ws := am_in_4 (List.mem_of_getElem? (i := 180) rfl) rfl
set_option maxRecDepth 100000 in
theorem am_kD_70 : am_cw 70 ∈ am_ws := am_in_4 (List.mem_of_getElem? (i := 117) rfl) rfl
set_option maxRecDepth 100000 in
theorem am_kD_71 : am_cw 71 ∈ am_ws := am_in_4 (List.mem_of_getElem? (i := 121) rfl) rfl
set_option maxRecDepth 100000 in
theorem am_kD_72 : am_cw 72 ∈ am_ws := am_in_4 (List.mem_of_getElem? (i := 198) rfl) rfl
set_option maxRecDepth 100000 in
theorem am_kD_73 : am_cw 73 ∈ am_ws := am_in_4 (List.mem_of_getElem? (i := 166) rfl) rfl
set_option maxRecDepth 100000 in
theorem am_kD_74 : am_cw 74 ∈ am_ws := am_in_4 (List.mem_of_getElem? (i := 131) rfl) rfl
set_option maxRecDepth 100000 in
theorem am_kD_75 : am_cw 75 ∈ am_ws := am_in_4 (List.mem_of_getElem? (i := 70) rfl) rfl
set_option maxRecDepth 100000 in
theorem am_kD_76 : am_cw 76 ∈ am_ws := am_in_4 (List.mem_of_getElem? (i := 80) rfl) rfl
set_option maxRecDepth 100000 in
theorem am_kD_77 : am_cw 77 ∈ am_ws := am_in_1 (List.mem_of_getElem? (i := 160) rfl) rfl
set_option maxRecDepth 100000 in
theorem am_kD_78 : am_cw 78 ∈ am_ws := am_in_6 (List.mem_of_getElem? (i := 63) rfl) rfl
set_option maxRecDepth 100000 in
theorem am_kD_79 : am_cw 79 ∈ am_ws := am_in_4 (List.mem_of_getElem? (i := 13) rfl) rfl
set_option maxRecDepth 100000 in
theorem am_kD_80 : am_cw 80 ∈ am_ws := am_in_5 (List.mem_of_getElem? (i := 199) rfl) rfl
set_option maxRecDepth 100000 in
theorem am_kD_81 : am_cw 81 ∈ am_ws := am_in_5 (List.mem_of_getElem? (i := 210) rfl) rfl
set_option maxRecDepth 100000 in
theorem am_kD_82 : am_cw 82 ∈ am_ws := am_in_4 (List.mem_of_getElem? (i := 85) rfl) rfl
set_option maxRecDepth 100000 in
theorem am_kD_83 : am_cw 83 ∈ am_ws := am_in_3 (List.mem_of_getElem? (i := 124) rfl) rfl
set_option maxRecDepth 100000 in
theorem am_kD_84 : am_cw 84 ∈ am_ws := am_in_1 (List.mem_of_getElem? (i := 199) rfl) rfl
set_option maxRecDepth 100000 in
theorem am_kD_85 : am_cw 85 ∈ am_ws := am_in_6 (List.mem_of_getElem? (i := 41) rfl) rfl
set_option maxRecDepth 100000 in
theorem am_kD_86 : am_cw 86 ∈ am_ws := am_in_3 (List.mem_of_getElem? (i := 70) rfl) rfl
set_option maxRecDepth 100000 in
theorem am_kD_87 : am_cw 87 ∈ am_ws := am_in_4 (List.mem_of_getElem? (i := 41) rfl) rfl
set_option maxRecDepth 100000 in
theorem am_kD_88 : am_cw 88 ∈ am_ws := am_in_6 (List.mem_of_getElem? (i := 37) rfl) rfl
set_option maxRecDepth 100000 in
theorem am_kD_89 : am_cw 89 ∈ am_ws := am_in_6 (List.mem_of_getElem? (i := 52) rfl) rfl
set_option maxRecDepth 100000 in
theorem am_kD_90 : am_cw 90 ∈ am_ws := am_in_1 (List.mem_of_getElem? (i := 181) rfl) rfl
set_option maxRecDepth 100000 in
theorem am_kD_91 : am_cw 91 ∈ am_ws := am_in_2 (List.mem_of_getElem? (i := 103) rfl) rfl
set_option maxRecDepth 100000 in
theorem am_kD_92 : am_cw 92 ∈ am_ws := am_in_3 (List.mem_of_getElem? (i := 178) rfl) rfl
set_option maxRecDepth 100000 in
theorem am_kD_93 : am_cw 93 ∈ am_ws := am_in_3 (List.mem_of_getElem? (i := 227) rfl) rfl
set_option maxRecDepth 100000 in
theorem am_kD_94 : am_cw 94 ∈ am_ws := am_in_2 (List.mem_of_getElem? (i := 53) rfl) rfl
set_option maxRecDepth 100000 in
theorem am_kD_95 : am_cw 95 ∈ am_ws := am_in_3 (List.mem_of_getElem? (i := 154) rfl) rfl
set_option maxRecDepth 100000 in
theorem am_kD_96 : am_cw 96 ∈ am_ws := am_in_3 (List.mem_of_getElem? (i := 181) rfl) rfl
set_option maxRecDepth 100000 in
theorem am_kD_97 : am_cw 97 ∈ am_ws := am_in_3 (List.mem_of_getElem? (i := 204) rfl) rfl
set_option maxRecDepth 100000 in
theorem am_kD_98 : am_cw 98 ∈ am_ws := am_in_3 (List.mem_of_getElem? (i := 207) rfl) rfl
set_option maxRecDepth 100000 in
theorem am_kD_99 : am_cw 99 ∈ am_ws := am_in_3 (List.mem_of_getElem? (i := 174) rfl) rfl
set_option maxRecDepth 100000 in
theorem am_kD_100 : am_cw 100 ∈ am_ws := am_in_3 (List.mem_of_getElem? (i := 193) rfl) rfl
set_option maxRecDepth 100000 in
theorem am_kD_101 : am_cw 101 ∈ am_ws := am_in_3 (List.mem_of_getElem? (i := 158) rfl) rfl
set_option maxRecDepth 100000 in
theorem am_kD_102 : am_cw 102 ∈ am_ws := am_in_3 (List.mem_of_getElem? (i := 185) rfl) rfl
set_option maxRecDepth 100000 in
theorem am_kD_103 : am_cw 103 ∈ am_ws := am_in_3 (List.mem_of_getElem? (i := 166) rfl) rfl
set_option maxRecDepth 100000 in
theorem am_kD_104 : am_cw 104 ∈ am_ws := am_in_3 (List.mem_of_getElem? (i := 199) rfl) rfl
set_option maxRecDepth 100000 in
theorem am_kD_105 : am_cw 105 ∈ am_ws := am_in_3 (List.mem_of_getElem? (i := 162) rfl) rfl
set_option maxRecDepth 100000 in
theorem am_kD_106 : am_cw 106 ∈ am_ws := am_in_3 (List.mem_of_getElem? (i := 170) rfl) rfl
set_option maxRecDepth 100000 in
theorem am_kD_107 : am_cw 107 ∈ am_ws := am_in_1 (List.mem_of_getElem? (i := 123) rfl) rfl
set_option maxRecDepth 100000 in
theorem am_kD_108 : am_cw 108 ∈ am_ws := am_in_3 (List.mem_of_getElem? (i := 189) rfl) rfl
set_option maxRecDepth 100000 in
theorem am_kD_109 : am_cw 109 ∈ am_ws := am_in_3 (List.mem_of_getElem? (i := 222) rfl) rfl
set_option maxRecDepth 100000 in
theorem am_kD_110 : am_cw 110 ∈ am_ws := am_in_3 (List.mem_of_getElem? (i := 215) rfl) rfl
set_option maxRecDepth 100000 in
theorem am_kD_111 : am_cw 111 ∈ am_ws := am_in_4 (List.mem_of_getElem? (i := 124) rfl) rfl
set_option maxRecDepth 100000 in
theorem am_kD_112 : am_cw 112 ∈ am_ws := am_in_4 (List.mem_of_getElem? (i := 94) rfl) rfl
set_option maxRecDepth 100000 in
theorem am_kD_113 : am_cw 113 ∈ am_ws := am_in_3 (List.mem_of_getElem? (i := 120) rfl) rfl
set_option maxRecDepth 100000 in
theorem am_kD_114 : am_cw 114 ∈ am_ws := am_in_3 (List.mem_of_getElem? (i := 109) rfl) rfl
set_option maxRecDepth 100000 in
theorem am_kD_115 : am_cw 115 ∈ am_ws := am_in_4 (List.mem_of_getElem? (i := 101) rfl) rfl
set_option maxRecDepth 100000 in
theorem am_kD_116 : am_cw 116 ∈ am_ws := am_in_3 (List.mem_of_getElem? (i := 112) rfl) rfl
set_option maxRecDepth 100000 in
theorem am_kD_117 : am_cw 117 ∈ am_ws := am_in_4 (List.mem_of_getElem? (i := 127) rfl) rfl
set_option maxRecDepth 100000 in
theorem am_kD_118 : am_cw 118 ∈ am_ws := am_in_1 (List.mem_of_getElem? (i := 116) rfl) rfl
set_option maxRecDepth 100000 in
theorem am_kD_119 : am_cw 119 ∈ am_ws := am_in_3 (List.mem_of_getElem? (i := 211) rfl) rfl
set_option maxRecDepth 100000 in
theorem am_kD_120 : am_cw 120 ∈ am_ws := am_in_4 (List.mem_of_getElem? (i := 90) rfl) rfl
set_option maxRecDepth 100000 in
theorem am_kD_121 : am_cw 121 ∈ am_ws := am_in_4 (List.mem_of_getElem? (i := 105) rfl) rfl
set_option maxRecDepth 100000 in
theorem am_kD_122 : am_cw 122 ∈ am_ws := am_in_3 (List.mem_of_getElem? (i := 105) rfl) rfl
set_option maxRecDepth 100000 in
theorem am_kD_123 : am_cw 123 ∈ am_ws := am_in_3 (List.mem_of_getElem? (i := 238) rfl) rfl
set_option maxRecDepth 100000 in
theorem am_kD_124 : am_cw 124 ∈ am_ws := am_in_1 (List.mem_of_getElem? (i := 44) rfl) rfl
set_option maxRecDepth 100000 in
theorem am_kD_125 : am_cw 125 ∈ am_ws := am_in_2 (List.mem_of_getElem? (i := 209) rfl) rfl
set_option maxRecDepth 100000 in
theorem am_kD_126 : am_cw 126 ∈ am_ws := am_in_3 (List.mem_of_getElem? (i := 82) rfl) rfl
set_option maxRecDepth 100000 in
theorem am_kD_127 : am_cw 127 ∈ am_ws := am_in_4 (List.mem_of_getElem? (i := 17) rfl) rfl
set_option maxRecDepth 100000 in
theorem am_kD_128 : am_cw 128 ∈ am_ws := am_in_4 (List.mem_of_getElem? (i := 35) rfl) rfl
set_option maxRecDepth 100000 in
theorem am_kD_129 : am_cw 129 ∈ am_ws := am_in_4 (List.mem_of_getElem? (i := 31) rfl) rfl
set_option maxRecDepth 100000 in
theorem am_kD_130 : am_cw 130 ∈ am_ws := am_in_5 (List.mem_of_getElem? (i := 239) rfl) rfl
set_option maxRecDepth 100000 in
theorem am_kD_131 : am_cw 131 ∈ am_ws := am_in_3 (List.mem_of_getElem? (i := 127) rfl) rfl
set_option maxRecDepth 100000 in
theorem am_kD_132 : am_cw 132 ∈ am_ws := am_in_4 (List.mem_of_getElem? (i := 143) rfl) rfl
set_option maxRecDepth 100000 in
theorem am_kD_133 : am_cw 133 ∈ am_ws := am_in_2 (List.mem_of_getElem? (i := 27) rfl) rfl
set_option maxRecDepth 100000 in
theorem am_kD_134 : am_cw 134 ∈ am_ws := am_in_5 (List.mem_of_getElem? (i := 221) rfl) rfl
set_option maxRecDepth 100000 in
theorem am_kD_135 : am_cw 135 ∈ am_ws := am_in_6 (List.mem_of_getElem? (i := 15) rfl) rfl
set_option maxRecDepth 100000 in
theorem am_kD_136 : am_cw 136 ∈ am_ws := am_in_5 (List.mem_of_getElem? (i := 225) rfl) rfl
set_option maxRecDepth 100000 in
theorem am_kD_137 : am_cw 137 ∈ am_ws := am_in_6 (List.mem_of_getElem? (i := 4) rfl) rfl
set_option maxRecDepth 100000 in
theorem am_kD_138 : am_cw 138 ∈ am_ws := am_in_6 (List.mem_of_getElem? (i := 9) rfl) rfl
set_option maxRecDepth 100000 in
theorem am_kD_139 : am_cw 139 ∈ am_ws := am_in_5 (List.mem_of_getElem? (i := 229) rfl) rfl
set_option maxRecDepth 100000 in
theorem am_kD_140 : am_cw 140 ∈ am_ws := am_in_6 (List.mem_of_getElem? (i := 26) rfl) rfl
set_option maxRecDepth 100000 in
theorem am_kD_141 : am_cw 141 ∈ am_ws := am_in_6 (List.mem_of_getElem? (i := 19) rfl) rfl
set_option maxRecDepth 100000 in
theorem am_kD_142 : am_cw 142 ∈ am_ws := am_in_1 (List.mem_of_getElem? (i := 51) rfl) rfl
set_option maxRecDepth 100000 in
theorem am_kD_143 : am_cw 143 ∈ am_ws := am_in_1 (List.mem_of_getElem? (i := 63) rfl) rfl
set_option maxRecDepth 100000 in
theorem am_kD_144 : am_cw 144 ∈ am_ws := am_in_3 (List.mem_of_getElem? (i := 116) rfl) rfl
set_option maxRecDepth 100000 in
theorem am_kD_145 : am_cw 145 ∈ am_ws := am_in_1 (List.mem_of_getElem? (i := 71) rfl) rfl
set_option maxRecDepth 100000 in
theorem am_kD_146 : am_cw 146 ∈ am_ws := am_in_1 (List.mem_of_getElem? (i := 59) rfl) rfl
set_option maxRecDepth 100000 in
theorem am_kD_147 : am_cw 147 ∈ am_ws := am_in_3 (List.mem_of_getElem? (i := 90) rfl) rfl
set_option maxRecDepth 100000 in
theorem am_kD_148 : am_cw 148 ∈ am_ws := am_in_2 (List.mem_of_getElem? (i := 213) rfl) rfl
set_option maxRecDepth 100000 in
theorem am_kD_149 : am_cw 149 ∈ am_ws := am_in_4 (List.mem_of_getElem? (i := 140) rfl) rfl
set_option maxRecDepth 100000 in
theorem am_kD_150 : am_cw 150 ∈ am_ws := am_in_3 (List.mem_of_getElem? (i := 101) rfl) rfl
set_option maxRecDepth 100000 in
theorem am_kD_151 : am_cw 151 ∈ am_ws := am_in_3 (List.mem_of_getElem? (i := 86) rfl) rfl
set_option maxRecDepth 100000 in
theorem am_kD_152 : am_cw 152 ∈ am_ws := am_in_4 (List.mem_of_getElem? (i := 208) rfl) rfl
set_option maxRecDepth 100000 in
theorem am_kD_153 : am_cw 153 ∈ am_ws := am_in_5 (List.mem_of_getElem? (i := 234) rfl) rfl
set_option maxRecDepth 100000 in
theorem am_kD_154 : am_cw 154 ∈ am_ws := am_in_4 (List.mem_of_getElem? (i := 170) rfl) rfl
set_option maxRecDepth 100000 in
theorem am_kD_155 : am_cw 155 ∈ am_ws := am_in_1 (List.mem_of_getElem? (i := 67) rfl) rfl
set_option maxRecDepth 100000 in
theorem am_kD_156 : am_cw 156 ∈ am_ws := am_in_6 (List.mem_of_getElem? (i := 83) rfl) rfl
set_option maxRecDepth 100000 in
theorem am_kD_157 : am_cw 157 ∈ am_ws := am_in_8 (List.mem_of_getElem? (i := 160) rfl) rfl
set_option maxRecDepth 100000 in
theorem am_kD_158 : am_cw 158 ∈ am_ws := am_in_8 (List.mem_of_getElem? (i := 132) rfl) rfl
set_option maxRecDepth 100000 in
theorem am_kD_159 : am_cw 159 ∈ am_ws := am_in_7 (List.mem_of_getElem? (i := 232) rfl) rfl
set_option maxRecDepth 100000 in
theorem am_kD_160 : am_cw 160 ∈ am_ws := am_in_7 (List.mem_of_getElem? (i := 119) rfl) rfl
set_option maxRecDepth 100000 in
theorem am_kD_161 : am_cw 161 ∈ am_ws := am_in_8 (List.mem_of_getElem? (i := 47) rfl) rfl
set_option maxRecDepth 100000 in
theorem am_kD_162 : am_cw 162 ∈ am_ws := am_in_7 (List.mem_of_getElem? (i := 156) rfl) rfl
set_option maxRecDepth 100000 in
theorem am_kD_163 : am_cw 163 ∈ am_ws := am_in_7 (List.mem_of_getElem? (i := 220) rfl) rfl
set_option maxRecDepth 100000 in
theorem am_kD_164 : am_cw 164 ∈ am_ws := am_in_6 (List.mem_of_getElem? (i := 96) rfl) rfl
set_option maxRecDepth 100000 in
theorem am_kD_165 : am_cw 165 ∈ am_ws := am_in_8 (List.mem_of_getElem? (i := 86) rfl) rfl
set_option maxRecDepth 100000 in
theorem am_kD_166 : am_cw 166 ∈ am_ws := am_in_8 (List.mem_of_getElem? (i := 152) rfl) rfl
set_option maxRecDepth 100000 in
theorem am_kD_167 : am_cw 167 ∈ am_ws := am_in_8 (List.mem_of_getElem? (i := 12) rfl) rfl
set_option maxRecDepth 100000 in
theorem am_kD_168 : am_cw 168 ∈ am_ws := am_in_7 (List.mem_of_getElem? (i := 104) rfl) rfl
set_option maxRecDepth 100000 in
theorem am_kD_169 : am_cw 169 ∈ am_ws := am_in_7 (List.mem_of_getElem? (i := 108) rfl) rfl
set_option maxRecDepth 100000 in
theorem am_kD_170 : am_cw 170 ∈ am_ws := am_in_8 (List.mem_of_getElem? (i := 120) rfl) rfl
set_option maxRecDepth 100000 in
theorem am_kD_171 : am_cw 171 ∈ am_ws := am_in_7 (List.mem_of_getElem? (i := 191) rfl) rfl
set_option maxRecDepth 100000 in
theorem am_kD_172 : am_cw 172 ∈ am_ws := am_in_7 (List.mem_of_getElem? (i := 168) rfl) rfl
set_option maxRecDepth 100000 in
theorem am_kD_173 : am_cw 173 ∈ am_ws := am_in_7 (List.mem_of_getElem? (i := 183) rfl) rfl
set_option maxRecDepth 100000 in
theorem am_kD_174 : am_cw 174 ∈ am_ws := am_in_7 (List.mem_of_getElem? (i := 187) rfl) rfl
set_option maxRecDepth 100000 in
theorem am_kD_175 : am_cw 175 ∈ am_ws := am_in_7 (List.mem_of_getElem? (i := 164) rfl) rfl
set_option maxRecDepth 100000 in
theorem am_kD_176 : am_cw 176 ∈ am_ws := am_in_7 (List.mem_of_getElem? (i := 224) rfl) rfl
set_option maxRecDepth 100000 in
theorem am_kD_177 : am_cw 177 ∈ am_ws := am_in_8 (List.mem_of_getElem? (i := 82) rfl) rfl
set_option maxRecDepth 100000 in
theorem am_kD_178 : am_cw 178 ∈ am_ws := am_in_8 (List.mem_of_getElem? (i := 164) rfl) rfl
set_option maxRecDepth 100000 in
theorem am_kD_179 : am_cw 179 ∈ am_ws := am_in_6 (List.mem_of_getElem? (i := 88) rfl) rfl
set_option maxRecDepth 100000 in
theorem am_kD_180 : am_cw 180 ∈ am_ws := am_in_8 (List.mem_of_getElem? (i := 31) rfl) rfl
set_option maxRecDepth 100000 in
theorem am_kD_181 : am_cw 181 ∈ am_ws := am_in_7 (List.mem_of_getElem? (i := 172) rfl) rfl
set_option maxRecDepth 100000 in
theorem am_kD_182 : am_cw 182 ∈ am_ws := am_in_7 (List.mem_of_getElem? (i := 92) rfl) rfl
set_option maxRecDepth 100000 in
theorem am_kD_183 : am_cw 183 ∈ am_ws := am_in_8 (List.mem_of_getElem? (i := 43) rfl) rfl
set_option maxRecDepth 100000 in
theorem am_kD_184 : am_cw 184 ∈ am_ws := am_in_8 (List.mem_of_getElem? (i := 108) rfl) rfl
set_option maxRecDepth 100000 in
theorem am_kD_185 : am_cw 185 ∈ am_ws := am_in_7 (List.mem_of_getElem? (i := 88) rfl) rfl
set_option maxRecDepth 100000 in
theorem am_kD_186 : am_cw 186 ∈ am_ws := am_in_7 (List.mem_of_getElem? (i := 199) rfl) rfl
set_option maxRecDepth 100000 in
theorem am_kD_187 : am_cw 187 ∈ am_ws := am_in_7 (List.mem_of_getElem? (i := 112) rfl) rfl
set_option maxRecDepth 100000 in
theorem am_kD_188 : am_cw 188 ∈ am_ws := am_in_8 (List.mem_of_getElem? (i := 39) rfl) rfl
set_option maxRecDepth 100000 in
theorem am_kD_189 : am_cw 189 ∈ am_ws := am_in_8 (List.mem_of_getElem? (i := 23) rfl) rfl
set_option maxRecDepth 100000 in
theorem am_kD_190 : am_cw 190 ∈ am_ws := am_in_8 (List.mem_of_getElem? (i := 156) rfl) rfl
set_option maxRecDepth 100000 in
theorem am_kD_191 : am_cw 191 ∈ am_ws := am_in_7 (List.mem_of_getElem? (i := 130) rfl) rfl
set_option maxRecDepth 100000 in
theorem am_kD_192 : am_cw 192 ∈ am_ws := am_in_7 (List.mem_of_getElem? (i := 76) rfl) rfl
set_option maxRecDepth 100000 in
theorem am_kD_193 : am_cw 193 ∈ am_ws := am_in_7 (List.mem_of_getElem? (i := 203) rfl) rfl
set_option maxRecDepth 100000 in
theorem am_kD_194 : am_cw 194 ∈ am_ws := am_in_6 (List.mem_of_getElem? (i := 92) rfl) rfl
set_option maxRecDepth 100000 in
theorem am_kD_195 : am_cw 195 ∈ am_ws := am_in_7 (List.mem_of_getElem? (i := 136) rfl) rfl
set_option maxRecDepth 100000 in
theorem am_kD_196 : am_cw 196 ∈ am_ws := am_in_7 (List.mem_of_getElem? (i := 80) rfl) rfl
set_option maxRecDepth 100000 in
theorem am_kD_197 : am_cw 197 ∈ am_ws := am_in_7 (List.mem_of_getElem? (i := 206) rfl) rfl
set_option maxRecDepth 100000 in
theorem am_kD_198 : am_cw 198 ∈ am_ws := am_in_7 (List.mem_of_getElem? (i := 133) rfl) rfl
set_option maxRecDepth 100000 in
theorem am_kD_199 : am_cw 199 ∈ am_ws := am_in_8 (List.mem_of_getElem? (i := 116) rfl) rfl
set_option maxRecDepth 100000 in
theorem am_kD_200 : am_cw 200 ∈ am_ws := am_in_7 (List.mem_of_getElem? (i := 212) rfl) rfl
set_option maxRecDepth 100000 in
theorem am_kD_201 : am_cw 201 ∈ am_ws := am_in_8 (List.mem_of_getElem? (i := 79) rfl) rfl
set_option maxRecDepth 100000 in
theorem am_kD_202 : am_cw 202 ∈ am_ws := am_in_8 (List.mem_of_getElem? (i := 140) rfl) rfl
set_option maxRecDepth 100000 in
theorem am_kD_203 : am_cw 203 ∈ am_ws := am_in_8 (List.mem_of_getElem? (i := 97) rfl) rfl
set_option maxRecDepth 100000 in
theorem am_kD_204 : am_cw 204 ∈ am_ws := am_in_7 (List.mem_of_getElem? (i := 84) rfl) rfl
set_option maxRecDepth 100000 in
theorem am_kD_205 : am_cw 205 ∈ am_ws := am_in_7 (List.mem_of_getElem? (i := 73) rfl) rfl
set_option maxRecDepth 100000 in
theorem am_kD_206 : am_cw 206 ∈ am_ws := am_in_7 (List.mem_of_getElem? (i := 96) rfl) rfl
set_option maxRecDepth 100000 in
theorem am_kD_207 : am_cw 207 ∈ am_ws := am_in_8 (List.mem_of_getElem? (i := 55) rfl) rfl
set_option maxRecDepth 100000 in
theorem am_kD_208 : am_cw 208 ∈ am_ws := am_in_8 (List.mem_of_getElem? (i := 0) rfl) rfl
set_option maxRecDepth 100000 in
theorem am_kD_209 : am_cw 209 ∈ am_ws := am_in_7 (List.mem_of_getElem? (i := 216) rfl) rfl
set_option maxRecDepth 100000 in
theorem am_kD_210 : am_cw 210 ∈ am_ws := am_in_8 (List.mem_of_getElem? (i := 62) rfl) rfl
set_option maxRecDepth 100000 in
theorem am_kD_211 : am_cw 211 ∈ am_ws := am_in_7 (List.mem_of_getElem? (i := 148) rfl) rfl
set_option maxRecDepth 100000 in
theorem am_kD_212 : am_cw 212 ∈ am_ws := am_in_8 (List.mem_of_getElem? (i := 66) rfl) rfl
set_option maxRecDepth 100000 in
theorem am_kD_213 : am_cw 213 ∈ am_ws := am_in_7 (List.mem_of_getElem? (i := 115) rfl) rfl
set_option maxRecDepth 100000 in
theorem am_kD_214 : am_cw 214 ∈ am_ws := am_in_7 (List.mem_of_getElem? (i := 123) rfl) rfl
set_option maxRecDepth 100000 in
theorem am_kD_215 : am_cw 215 ∈ am_ws := am_in_8 (List.mem_of_getElem? (i := 136) rfl) rfl
set_option maxRecDepth 100000 in
theorem am_kD_216 : am_cw 216 ∈ am_ws := am_in_7 (List.mem_of_getElem? (i := 179) rfl) rfl
set_option maxRecDepth 100000 in
theorem am_kD_217 : am_cw 217 ∈ am_ws := am_in_8 (List.mem_of_getElem? (i := 16) rfl) rfl
set_option maxRecDepth 100000 in
theorem am_kD_218 : am_cw 218 ∈ am_ws := am_in_7 (List.mem_of_getElem? (i := 195) rfl) rfl
set_option maxRecDepth 100000 in
theorem am_kD_219 : am_cw 219 ∈ am_ws := am_in_7 (List.mem_of_getElem? (i := 175) rfl) rfl
set_option maxRecDepth 100000 in
theorem am_kD_220 : am_cw 220 ∈ am_ws := am_in_7 (List.mem_of_getElem? (i := 144) rfl) rfl
set_option maxRecDepth 100000 in
theorem am_kD_221 : am_cw 221 ∈ am_ws := am_in_8 (List.mem_of_getElem? (i := 148) rfl) rfl
set_option maxRecDepth 100000 in
theorem am_kD_222 : am_cw 222 ∈ am_ws := am_in_8 (List.mem_of_getElem? (i := 71) rfl) rfl
set_option maxRecDepth 100000 in
theorem am_kD_223 : am_cw 223 ∈ am_ws := am_in_8 (List.mem_of_getElem? (i := 8) rfl) rfl
set_option maxRecDepth 100000 in
theorem am_kD_224 : am_cw 224 ∈ am_ws := am_in_8 (List.mem_of_getElem? (i := 58) rfl) rfl
set_option maxRecDepth 100000 in
theorem am_kD_225 : am_cw 225 ∈ am_ws := am_in_7 (List.mem_of_getElem? (i := 140) rfl) rfl
set_option maxRecDepth 100000 in
theorem am_kD_226 : am_cw 226 ∈ am_ws := am_in_7 (List.mem_of_getElem? (i := 160) rfl) rfl
set_option maxRecDepth 100000 in
theorem am_kD_227 : am_cw 227 ∈ am_ws := am_in_8 (List.mem_of_getElem? (i := 94) rfl) rfl
set_option maxRecDepth 100000 in
theorem am_kD_228 : am_cw 228 ∈ am_ws := am_in_8 (List.mem_of_getElem? (i := 35) rfl) rfl
set_option maxRecDepth 100000 in
theorem am_kD_229 : am_cw 229 ∈ am_ws := am_in_8 (List.mem_of_getElem? (i := 124) rfl) rfl
set_option maxRecDepth 100000 in
theorem am_kD_230 : am_cw 230 ∈ am_ws := am_in_8 (List.mem_of_getElem? (i := 128) rfl) rfl
set_option maxRecDepth 100000 in
theorem am_kD_231 : am_cw 231 ∈ am_ws := am_in_7 (List.mem_of_getElem? (i := 228) rfl) rfl
set_option maxRecDepth 100000 in
theorem am_kD_232 : am_cw 232 ∈ am_ws := am_in_8 (List.mem_of_getElem? (i := 104) rfl) rfl
set_option maxRecDepth 100000 in
theorem am_kD_233 : am_cw 233 ∈ am_ws := am_in_8 (List.mem_of_getElem? (i := 51) rfl) rfl
set_option maxRecDepth 100000 in
theorem am_kD_234 : am_cw 234 ∈ am_ws := am_in_7 (List.mem_of_getElem? (i := 152) rfl) rfl
set_option maxRecDepth 100000 in
theorem am_kD_235 : am_cw 235 ∈ am_ws := am_in_8 (List.mem_of_getElem? (i := 75) rfl) rfl
set_option maxRecDepth 100000 in
theorem am_kD_236 : am_cw 236 ∈ am_ws := am_in_7 (List.mem_of_getElem? (i := 69) rfl) rfl
set_option maxRecDepth 100000 in
theorem am_kD_237 : am_cw 237 ∈ am_ws := am_in_7 (List.mem_of_getElem? (i := 127) rfl) rfl
set_option maxRecDepth 100000 in
theorem am_kD_238 : am_cw 238 ∈ am_ws := am_in_7 (List.mem_of_getElem? (i := 100) rfl) rfl
set_option maxRecDepth 100000 in
theorem am_kD_239 : am_cw 239 ∈ am_ws := am_in_8 (List.mem_of_getElem? (i := 144) rfl) rfl
set_option maxRecDepth 100000 in
theorem am_kD_240 : am_cw 240 ∈ am_ws := am_in_8 (List.mem_of_getElem? (i := 90) rfl) rfl
set_option maxRecDepth 100000 in
theorem am_kD_241 : am_cw 241 ∈ am_ws := am_in_8 (List.mem_of_getElem? (i := 19) rfl) rfl
set_option maxRecDepth 100000 in
theorem am_kD_242 : am_cw 242 ∈ am_ws := am_in_8 (List.mem_of_getElem? (i := 112) rfl) rfl
set_option maxRecDepth 100000 in
theorem am_kD_243 : am_cw 243 ∈ am_ws := am_in_8 (List.mem_of_getElem? (i := 27) rfl) rfl
set_option maxRecDepth 100000 in
theorem am_kD_244 : am_cw 244 ∈ am_ws := am_in_7 (List.mem_of_getElem? (i := 236) rfl) rfl
set_option maxRecDepth 100000 in
theorem am_kD_245 : am_cw 245 ∈ am_ws := am_in_8 (List.mem_of_getElem? (i := 4) rfl) rfl
set_option maxRecDepth 100000 in
theorem am_kD_246 : am_cw 246 ∈ am_ws := am_in_4 (List.mem_of_getElem? (i := 235) rfl) rfl
set_option maxRecDepth 100000 in
theorem am_kD_247 : am_cw 247 ∈ am_ws := am_in_5 (List.mem_of_getElem? (i := 26) rfl) rfl
set_option maxRecDepth 100000 in
theorem am_kD_248 : am_cw 248 ∈ am_ws := am_in_5 (List.mem_of_getElem? (i := 104) rfl) rfl
set_option maxRecDepth 100000 in
theorem am_kD_249 : am_cw 249 ∈ am_ws := am_in_5 (List.mem_of_getElem? (i := 130) rfl) rfl
set_option maxRecDepth 100000 in
theorem am_kD_250 : am_cw 250 ∈ am_ws := am_in_5 (List.mem_of_getElem? (i := 134) rfl) rfl
set_option maxRecDepth 100000 in
theorem am_kD_251 : am_cw 251 ∈ am_ws := am_in_5 (List.mem_of_getElem? (i := 170) rfl) rfl
set_option maxRecDepth 100000 in
theorem am_kD_252 : am_cw 252 ∈ am_ws := am_in_5 (List.mem_of_getElem? (i := 30) rfl) rfl
set_option maxRecDepth 100000 in
theorem am_kD_253 : am_cw 253 ∈ am_ws := am_in_5 (List.mem_of_getElem? (i := 67) rfl) rfl
set_option maxRecDepth 100000 in
theorem am_kD_254 : am_cw 254 ∈ am_ws := am_in_5 (List.mem_of_getElem? (i := 146) rfl) rfl
set_option maxRecDepth 100000 in
theorem am_kD_255 : am_cw 255 ∈ am_ws := am_in_5 (List.mem_of_getElem? (i := 60) rfl) rfl
set_option maxRecDepth 100000 in
theorem am_kD_256 : am_cw 256 ∈ am_ws := am_in_5 (List.mem_of_getElem? (i := 163) rfl) rfl
set_option maxRecDepth 100000 in
theorem am_kD_257 : am_cw 257 ∈ am_ws := am_in_5 (List.mem_of_getElem? (i := 34) rfl) rfl
set_option maxRecDepth 100000 in
theorem am_kD_258 : am_cw 258 ∈ am_ws := am_in_5 (List.mem_of_getElem? (i := 142) rfl) rfl
set_option maxRecDepth 100000 in
theorem am_kD_259 : am_cw 259 ∈ am_ws := am_in_2 (List.mem_of_getElem? (i := 185) rfl) rfl
set_option maxRecDepth 100000 in
theorem am_kD_260 : am_cw 260 ∈ am_ws := am_in_2 (List.mem_of_getElem? (i := 182) rfl) rfl
set_option maxRecDepth 100000 in
theorem am_kD_261 : am_cw 261 ∈ am_ws := am_in_2 (List.mem_of_getElem? (i := 189) rfl) rfl
set_option maxRecDepth 100000 in
theorem am_kD_262 : am_cw 262 ∈ am_ws := am_in_3 (List.mem_of_getElem? (i := 23) rfl) rfl
set_option maxRecDepth 100000 in
theorem am_kD_263 : am_cw 263 ∈ am_ws := am_in_3 (List.mem_of_getElem? (i := 48) rfl) rfl
set_option maxRecDepth 100000 in
theorem am_kD_264 : am_cw 264 ∈ am_ws := am_in_3 (List.mem_of_getElem? (i := 63) rfl) rfl
set_option maxRecDepth 100000 in
theorem am_kD_265 : am_cw 265 ∈ am_ws := am_in_5 (List.mem_of_getElem? (i := 110) rfl) rfl
set_option maxRecDepth 100000 in
theorem am_kD_266 : am_cw 266 ∈ am_ws := am_in_5 (List.mem_of_getElem? (i := 107) rfl) rfl
set_option maxRecDepth 100000 in
theorem am_kD_267 : am_cw 267 ∈ am_ws := am_in_4 (List.mem_of_getElem? (i := 193) rfl) rfl
set_option maxRecDepth 100000 in
theorem am_kD_268 : am_cw 268 ∈ am_ws := am_in_2 (List.mem_of_getElem? (i := 135) rfl) rfl
set_option maxRecDepth 100000 in
theorem am_kD_269 : am_cw 269 ∈ am_ws := am_in_2 (List.mem_of_getElem? (i := 138) rfl) rfl
set_option maxRecDepth 100000 in
theorem am_kD_270 : am_cw 270 ∈ am_ws := am_in_1 (List.mem_of_getElem? (i := 39) rfl) rfl
set_option maxRecDepth 100000 in
theorem am_kD_271 : am_cw 271 ∈ am_ws := am_in_3 (List.mem_of_getElem? (i := 20) rfl) rfl
set_option maxRecDepth 100000 in
theorem am_kD_272 : am_cw 272 ∈ am_ws := am_in_2 (List.mem_of_getElem? (i := 159) rfl) rfl
set_option maxRecDepth 100000 in
theorem am_kD_273 : am_cw 273 ∈ am_ws := am_in_5 (List.mem_of_getElem? (i := 79) rfl) rfl
set_option maxRecDepth 100000 in
theorem am_kD_274 : am_cw 274 ∈ am_ws := am_in_5 (List.mem_of_getElem? (i := 94) rfl) rfl
set_option maxRecDepth 100000 in
theorem am_kD_275 : am_cw 275 ∈ am_ws := am_in_2 (List.mem_of_getElem? (i := 126) rfl) rfl
set_option maxRecDepth 100000 in
theorem am_kD_276 : am_cw 276 ∈ am_ws := am_in_5 (List.mem_of_getElem? (i := 151) rfl) rfl
set_option maxRecDepth 100000 in
theorem am_kD_277 : am_cw 277 ∈ am_ws := am_in_2 (List.mem_of_getElem? (i := 108) rfl) rfl
set_option maxRecDepth 100000 in
theorem am_kD_278 : am_cw 278 ∈ am_ws := am_in_2 (List.mem_of_getElem? (i := 112) rfl) rfl
set_option maxRecDepth 100000 in
theorem am_kD_279 : am_cw 279 ∈ am_ws := am_in_2 (List.mem_of_getElem? (i := 116) rfl) rfl
set_option maxRecDepth 100000 in
theorem am_kD_280 : am_cw 280 ∈ am_ws := am_in_2 (List.mem_of_getElem? (i := 122) rfl) rfl
set_option maxRecDepth 100000 in
theorem am_kD_281 : am_cw 281 ∈ am_ws := am_in_4 (List.mem_of_getElem? (i := 232) rfl) rfl
set_option maxRecDepth 100000 in
theorem am_kD_282 : am_cw 282 ∈ am_ws := am_in_5 (List.mem_of_getElem? (i := 23) rfl) rfl
set_option maxRecDepth 100000 in
theorem am_kD_283 : am_cw 283 ∈ am_ws := am_in_5 (List.mem_of_getElem? (i := 101) rfl) rfl
set_option maxRecDepth 100000 in
theorem am_kD_284 : am_cw 284 ∈ am_ws := am_in_5 (List.mem_of_getElem? (i := 127) rfl) rfl
set_option maxRecDepth 100000 in
theorem am_kD_285 : am_cw 285 ∈ am_ws := am_in_5 (List.mem_of_getElem? (i := 167) rfl) rfl
set_option maxRecDepth 100000 in
theorem am_kD_286 : am_cw 286 ∈ am_ws := am_in_5 (List.mem_of_getElem? (i := 160) rfl) rfl
set_option maxRecDepth 100000 in
theorem am_kD_287 : am_cw 287 ∈ am_ws := am_in_5 (List.mem_of_getElem? (i := 63) rfl) rfl
set_option maxRecDepth 100000 in
theorem am_kD_288 : am_cw 288 ∈ am_ws := am_in_2 (List.mem_of_getElem? (i := 132) rfl) rfl
set_option maxRecDepth 100000 in
theorem am_kD_289 : am_cw 289 ∈ am_ws := am_in_2 (List.mem_of_getElem? (i := 129) rfl) rfl
set_option maxRecDepth 100000 in
theorem am_kD_290 : am_cw 290 ∈ am_ws := am_in_2 (List.mem_of_getElem? (i := 141) rfl) rfl
set_option maxRecDepth 100000 in
theorem am_kD_291 : am_cw 291 ∈ am_ws := am_in_5 (List.mem_of_getElem? (i := 70) rfl) rfl
set_option maxRecDepth 100000 in
theorem am_kD_292 : am_cw 292 ∈ am_ws := am_in_2 (List.mem_of_getElem? (i := 153) rfl) rfl
set_option maxRecDepth 100000 in
theorem am_kD_293 : am_cw 293 ∈ am_ws := am_in_5 (List.mem_of_getElem? (i := 76) rfl) rfl
set_option maxRecDepth 100000 in
theorem am_kD_294 : am_cw 294 ∈ am_ws := am_in_5 (List.mem_of_getElem? (i := 91) rfl) rfl
set_option maxRecDepth 100000 in
theorem am_kD_295 : am_cw 295 ∈ am_ws := am_in_2 (List.mem_of_getElem? (i := 170) rfl) rfl
set_option maxRecDepth 100000 in
theorem am_kD_296 : am_cw 296 ∈ am_ws := am_in_5 (List.mem_of_getElem? (i := 117) rfl) rfl
set_option maxRecDepth 100000 in
theorem am_kD_297 : am_cw 297 ∈ am_ws := am_in_5 (List.mem_of_getElem? (i := 120) rfl) rfl
set_option maxRecDepth 100000 in
theorem am_kD_298 : am_cw 298 ∈ am_ws := am_in_2 (List.mem_of_getElem? (i := 144) rfl) rfl
set_option maxRecDepth 100000 in
theorem am_kD_299 : am_cw 299 ∈ am_ws := am_in_2 (List.mem_of_getElem? (i := 150) rfl) rfl
set_option maxRecDepth 100000 in
theorem am_kD_300 : am_cw 300 ∈ am_ws := am_in_2 (List.mem_of_getElem? (i := 167) rfl) rfl
set_option maxRecDepth 100000 in
theorem am_kD_301 : am_cw 301 ∈ am_ws := am_in_2 (List.mem_of_getElem? (i := 179) rfl) rfl
set_option maxRecDepth 100000 in
theorem am_kD_302 : am_cw 302 ∈ am_ws := am_in_5 (List.mem_of_getElem? (i := 73) rfl) rfl
set_option maxRecDepth 100000 in
theorem am_kD_303 : am_cw 303 ∈ am_ws := am_in_2 (List.mem_of_getElem? (i := 156) rfl) rfl
set_option maxRecDepth 100000 in
theorem am_kD_304 : am_cw 304 ∈ am_ws := am_in_5 (List.mem_of_getElem? (i := 0) rfl) rfl
set_option maxRecDepth 100000 in
theorem am_kD_305 : am_cw 305 ∈ am_ws := am_in_5 (List.mem_of_getElem? (i := 3) rfl) rfl
set_option maxRecDepth 100000 in
theorem am_kD_306 : am_cw 306 ∈ am_ws := am_in_5 (List.mem_of_getElem? (i := 85) rfl) rfl
set_option maxRecDepth 100000 in
theorem am_kD_307 : am_cw 307 ∈ am_ws := am_in_5 (List.mem_of_getElem? (i := 88) rfl) rfl
set_option maxRecDepth 100000 in
theorem am_kD_308 : am_cw 308 ∈ am_ws := am_in_5 (List.mem_of_getElem? (i := 137) rfl) rfl
set_option maxRecDepth 100000 in
theorem am_kD_309 : am_cw 309 ∈ am_ws := am_in_2 (List.mem_of_getElem? (i := 238) rfl) rfl
set_option maxRecDepth 100000 in
theorem am_kD_310 : am_cw 310 ∈ am_ws := am_in_5 (List.mem_of_getElem? (i := 46) rfl) rfl
set_option maxRecDepth 100000 in
theorem am_kD_311 : am_cw 311 ∈ am_ws := am_in_1 (List.mem_of_getElem? (i := 55) rfl) rfl
set_option maxRecDepth 100000 in
theorem am_kD_312 : am_cw 312 ∈ am_ws := am_in_3 (List.mem_of_getElem? (i := 17) rfl) rfl
set_option maxRecDepth 100000 in
theorem am_kD_313 : am_cw 313 ∈ am_ws := am_in_5 (List.mem_of_getElem? (i := 42) rfl) rfl
set_option maxRecDepth 100000 in
theorem am_kD_314 : am_cw 314 ∈ am_ws := am_in_5 (List.mem_of_getElem? (i := 37) rfl) rfl
set_option maxRecDepth 100000 in
theorem am_kD_315 : am_cw 315 ∈ am_ws := am_in_5 (List.mem_of_getElem? (i := 82) rfl) rfl
set_option maxRecDepth 100000 in
theorem am_kD_316 : am_cw 316 ∈ am_ws := am_in_2 (List.mem_of_getElem? (i := 164) rfl) rfl
set_option maxRecDepth 100000 in
theorem am_kD_317 : am_cw 317 ∈ am_ws := am_in_5 (List.mem_of_getElem? (i := 97) rfl) rfl
theorem am_kD : ∀ P, 1 ≤ P → P < 318 → am_cw P ∈ am_ws := by
  intro P h1 h2
  rcases Nat.lt_or_ge P 159 with h | h
  · rcases Nat.lt_or_ge P 80 with h | h
    · rcases Nat.lt_or_ge P 40 with h | h
      · rcases Nat.lt_or_ge P 20 with h | h
        · rcases Nat.lt_or_ge P 10 with h | h
          · rcases Nat.lt_or_ge P 5 with h | h
            · rcases Nat.lt_or_ge P 3 with h | h
              · rcases Nat.lt_or_ge P 2 with h | h
                · obtain rfl : P = 1 := by omega
                  exact am_kD_1
                · obtain rfl : P = 2 := by omega
                  exact am_kD_2
              · rcases Nat.lt_or_ge P 4 with h | h
                · obtain rfl : P = 3 := by omega
                  exact am_kD_3
                · obtain rfl : P = 4 := by omega
                  exact am_kD_4
            · rcases Nat.lt_or_ge P 7 with h | h
              · rcases Nat.lt_or_ge P 6 with h | h
                · obtain rfl : P = 5 := by omega
                  exact am_kD_5
                · obtain rfl : P = 6 := by omega
                  exact am_kD_6
              · rcases Nat.lt_or_ge P 8 with h | h
                · obtain rfl : P = 7 := by omega
                  exact am_kD_7
                · rcases Nat.lt_or_ge P 9 with h | h
                  · obtain rfl : P = 8 := by omega
                    exact am_kD_8
                  · obtain rfl : P = 9 := by omega
                    exact am_kD_9
          · rcases Nat.lt_or_ge P 15 with h | h
            · rcases Nat.lt_or_ge P 12 with h | h
              · rcases Nat.lt_or_ge P 11 with h | h
                · obtain rfl : P = 10 := by omega
                  exact am_kD_10
                · obtain rfl : P = 11 := by omega
                  exact am_kD_11
              · rcases Nat.lt_or_ge P 13 with h | h
                · obtain rfl : P = 12 := by omega
                  exact am_kD_12
                · rcases Nat.lt_or_ge P 14 with h | h
                  · obtain rfl : P = 13 := by omega
                    exact am_kD_13
                  · obtain rfl : P = 14 := by omega
                    exact am_kD_14
            · rcases Nat.lt_or_ge P 17 with h | h
              · rcases Nat.lt_or_ge P 16 with h | h
                · obtain rfl : P = 15 := by omega
                  exact am_kD_15
                · obtain rfl : P = 16 := by omega
                  exact am_kD_16
              · rcases Nat.lt_or_ge P 18 with h | h
                · obtain rfl : P = 17 := by omega
                  exact am_kD_17
                · rcases Nat.lt_or_ge P 19 with h | h
                  · obtain rfl : P = 18 := by omega
                    exact am_kD_18
                  · obtain rfl : P = 19 := by omega
                    exact am_kD_19
        · rcases Nat.lt_or_ge P 30 with h | h
          · rcases Nat.lt_or_ge P 25 with h | h
            · rcases Nat.lt_or_ge P 22 with h | h
              · rcases Nat.lt_or_ge P 21 with h | h
                · obtain rfl : P = 20 := by omega
                  exact am_kD_20
                · obtain rfl : P = 21 := by omega
                  exact am_kD_21
              · rcases Nat.lt_or_ge P 23 with h | h
                · obtain rfl : P = 22 := by omega
                  exact am_kD_22
                · rcases Nat.lt_or_ge P 24 with h | h
                  · obtain rfl : P = 23 := by omega
                    exact am_kD_23
                  · obtain rfl : P = 24 := by omega
                    exact am_kD_24
            · rcases Nat.lt_or_ge P 27 with h | h
              · rcases Nat.lt_or_ge P 26 with h | h
                · obtain rfl : P = 25 := by omega
                  exact am_kD_25
                · obtain rfl : P = 26 := by omega
                  exact am_kD_26
              · rcases Nat.lt_or_ge P 28 with h | h
                · obtain rfl : P = 27 := by omega
                  exact am_kD_27
                · rcases Nat.lt_or_ge P 29 with h | h
                  · obtain rfl : P = 28 := by omega
                    exact am_kD_28
                  · obtain rfl : P = 29 := by omega
                    exact am_kD_29
          · rcases Nat.lt_or_ge P 35 with h | h
            · rcases Nat.lt_or_ge P 32 with h | h
              · rcases Nat.lt_or_ge P 31 with h | h
                · obtain rfl : P = 30 := by omega
                  exact am_kD_30
                · obtain rfl : P = 31 := by omega
                  exact am_kD_31
              · rcases Nat.lt_or_ge P 33 with h | h
                · obtain rfl : P = 32 := by omega
                  exact am_kD_32
                · rcases Nat.lt_or_ge P 34 with h | h
                  · obtain rfl : P = 33 := by omega
                    exact am_kD_33
                  · obtain rfl : P = 34 := by omega
                    exact am_kD_34
            · rcases Nat.lt_or_ge P 37 with h | h
              · rcases Nat.lt_or_ge P 36 with h | h
                · obtain rfl : P = 35 := by omega
                  exact am_kD_35
                · obtain rfl : P = 36 := by omega
                  exact am_kD_36
              · rcases Nat.lt_or_ge P 38 with h | h
                · obtain rfl : P = 37 := by omega
                  exact am_kD_37
                · rcases Nat.lt_or_ge P 39 with h | h
                  · obtain rfl : P = 38 := by omega
                    exact am_kD_38
                  · obtain rfl : P = 39 := by omega
                    exact am_kD_39
      · rcases Nat.lt_or_ge P 60 with h | h
        · rcases Nat.lt_or_ge P 50 with h | h
          · rcases Nat.lt_or_ge P 45 with h | h
            · rcases Nat.lt_or_ge P 42 with h | h
              · rcases Nat.lt_or_ge P 41 with h | h
                · obtain rfl : P = 40 := by omega
                  exact am_kD_40
                · obtain rfl : P = 41 := by omega
                  exact am_kD_41
              · rcases Nat.lt_or_ge P 43 with h | h
                · obtain rfl : P = 42 := by omega
                  exact am_kD_42
                · rcases Nat.lt_or_ge P 44 with h | h
                  · obtain rfl : P = 43 := by omega
                    exact am_kD_43
                  · obtain rfl : P = 44 := by omega
                    exact am_kD_44
            · rcases Nat.lt_or_ge P 47 with h | h
              · rcases Nat.lt_or_ge P 46 with h | h
                · obtain rfl : P = 45 := by omega
                  exact am_kD_45
                · obtain rfl : P = 46 := by omega
                  exact am_kD_46
              · rcases Nat.lt_or_ge P 48 with h | h
                · obtain rfl : P = 47 := by omega
                  exact am_kD_47
                · rcases Nat.lt_or_ge P 49 with h | h
                  · obtain rfl : P = 48 := by omega
                    exact am_kD_48
                  · obtain rfl : P = 49 := by omega
                    exact am_kD_49
          · rcases Nat.lt_or_ge P 55 with h | h
            · rcases Nat.lt_or_ge P 52 with h | h
              · rcases Nat.lt_or_ge P 51 with h | h
                · obtain rfl : P = 50 := by omega
                  exact am_kD_50
                · obtain rfl : P = 51 := by omega
                  exact am_kD_51
              · rcases Nat.lt_or_ge P 53 with h | h
                · obtain rfl : P = 52 := by omega
                  exact am_kD_52
                · rcases Nat.lt_or_ge P 54 with h | h
                  · obtain rfl : P = 53 := by omega
                    exact am_kD_53
                  · obtain rfl : P = 54 := by omega
                    exact am_kD_54
            · rcases Nat.lt_or_ge P 57 with h | h
              · rcases Nat.lt_or_ge P 56 with h | h
                · obtain rfl : P = 55 := by omega
                  exact am_kD_55
                · obtain rfl : P = 56 := by omega
                  exact am_kD_56
              · rcases Nat.lt_or_ge P 58 with h | h
                · obtain rfl : P = 57 := by omega
                  exact am_kD_57
                · rcases Nat.lt_or_ge P 59 with h | h
                  · obtain rfl : P = 58 := by omega
                    exact am_kD_58
                  · obtain rfl : P = 59 := by omega
                    exact am_kD_59
        · rcases Nat.lt_or_ge P 70 with h | h
          · rcases Nat.lt_or_ge P 65 with h | h
            · rcases Nat.lt_or_ge P 62 with h | h
              · rcases Nat.lt_or_ge P 61 with h | h
                · obtain rfl : P = 60 := by omega
                  exact am_kD_60
                · obtain rfl : P = 61 := by omega
                  exact am_kD_61
              · rcases Nat.lt_or_ge P 63 with h | h
                · obtain rfl : P = 62 := by omega
                  exact am_kD_62
                · rcases Nat.lt_or_ge P 64 with h | h
                  · obtain rfl : P = 63 := by omega
                    exact am_kD_63
                  · obtain rfl : P = 64 := by omega
                    exact am_kD_64
            · rcases Nat.lt_or_ge P 67 with h | h
              · rcases Nat.lt_or_ge P 66 with h | h
                · obtain rfl : P = 65 := by omega
                  exact am_kD_65
                · obtain rfl : P = 66 := by omega
                  exact am_kD_66
              · rcases Nat.lt_or_ge P 68 with h | h
                · obtain rfl : P = 67 := by omega
                  exact am_kD_67
                · rcases Nat.lt_or_ge P 69 with h | h
                  · obtain rfl : P = 68 := by omega
                    exact am_kD_68
                  · obtain rfl : P = 69 := by omega
                    exact am_kD_69
          · rcases Nat.lt_or_ge P 75 with h | h
            · rcases Nat.lt_or_ge P 72 with h | h
              · rcases Nat.lt_or_ge P 71 with h | h
                · obtain rfl : P = 70 := by omega
                  exact am_kD_70
                · obtain rfl : P = 71 := by omega
                  exact am_kD_71
              · rcases Nat.lt_or_ge P 73 with h | h
                · obtain rfl : P = 72 := by omega
                  exact am_kD_72
                · rcases Nat.lt_or_ge P 74 with h | h
                  · obtain rfl : P = 73 := by omega
                    exact am_kD_73
                  · obtain rfl : P = 74 := by omega
                    exact am_kD_74
            · rcases Nat.lt_or_ge P 77 with h | h
              · rcases Nat.lt_or_ge P 76 with h | h
                · obtain rfl : P = 75 := by omega
                  exact am_kD_75
                · obtain rfl : P = 76 := by omega
                  exact am_kD_76
              · rcases Nat.lt_or_ge P 78 with h | h
                · obtain rfl : P = 77 := by omega
                  exact am_kD_77
                · rcases Nat.lt_or_ge P 79 with h | h
                  · obtain rfl : P = 78 := by omega
                    exact am_kD_78
                  · obtain rfl : P = 79 := by omega
                    exact am_kD_79
    · rcases Nat.lt_or_ge P 119 with h | h
      · rcases Nat.lt_or_ge P 99 with h | h
        · rcases Nat.lt_or_ge P 89 with h | h
          · rcases Nat.lt_or_ge P 84 with h | h
            · rcases Nat.lt_or_ge P 82 with h | h
              · rcases Nat.lt_or_ge P 81 with h | h
                · obtain rfl : P = 80 := by omega
                  exact am_kD_80
                · obtain rfl : P = 81 := by omega
                  exact am_kD_81
              · rcases Nat.lt_or_ge P 83 with h | h
                · obtain rfl : P = 82 := by omega
                  exact am_kD_82
                · obtain rfl : P = 83 := by omega
                  exact am_kD_83
            · rcases Nat.lt_or_ge P 86 with h | h
              · rcases Nat.lt_or_ge P 85 with h | h
                · obtain rfl : P = 84 := by omega
                  exact am_kD_84
                · obtain rfl : P = 85 := by omega
                  exact am_kD_85
              · rcases Nat.lt_or_ge P 87 with h | h
                · obtain rfl : P = 86 := by omega
                  exact am_kD_86
                · rcases Nat.lt_or_ge P 88 with h | h
                  · obtain rfl : P = 87 := by omega
                    exact am_kD_87
                  · obtain rfl : P = 88 := by omega
                    exact am_kD_88
          · rcases Nat.lt_or_ge P 94 with h | h
            · rcases Nat.lt_or_ge P 91 with h | h
              · rcases Nat.lt_or_ge P 90 with h | h
                · obtain rfl : P = 89 := by omega
                  exact am_kD_89
                · obtain rfl : P = 90 := by omega
                  exact am_kD_90
              · rcases Nat.lt_or_ge P 92 with h | h
                · obtain rfl : P = 91 := by omega
                  exact am_kD_91
                · rcases Nat.lt_or_ge P 93 with h | h
                  · obtain rfl : P = 92 := by omega
                    exact am_kD_92
                  · obtain rfl : P = 93 := by omega
                    exact am_kD_93
            · rcases Nat.lt_or_ge P 96 with h | h
              · rcases Nat.lt_or_ge P 95 with h | h
                · obtain rfl : P = 94 := by omega
                  exact am_kD_94
                · obtain rfl : P = 95 := by omega
                  exact am_kD_95
              · rcases Nat.lt_or_ge P 97 with h | h
                · obtain rfl : P = 96 := by omega
                  exact am_kD_96
                · rcases Nat.lt_or_ge P 98 with h | h
                  · obtain rfl : P = 97 := by omega
                    exact am_kD_97
                  · obtain rfl : P = 98 := by omega
                    exact am_kD_98
        · rcases Nat.lt_or_ge P 109 with h | h
          · rcases Nat.lt_or_ge P 104 with h | h
            · rcases Nat.lt_or_ge P 101 with h | h
              · rcases Nat.lt_or_ge P 100 with h | h
                · obtain rfl : P = 99 := by omega
                  exact am_kD_99
                · obtain rfl : P = 100 := by omega
                  exact am_kD_100
              · rcases Nat.lt_or_ge P 102 with h | h
                · obtain rfl : P = 101 := by omega
                  exact am_kD_101
                · rcases Nat.lt_or_ge P 103 with h | h
                  · obtain rfl : P = 102 := by omega
                    exact am_kD_102
                  · obtain rfl : P = 103 := by omega
                    exact am_kD_103
            · rcases Nat.lt_or_ge P 106 with h | h
              · rcases Nat.lt_or_ge P 105 with h | h
                · obtain rfl : P = 104 := by omega
                  exact am_kD_104
                · obtain rfl : P = 105 := by omega
                  exact am_kD_105
              · rcases Nat.lt_or_ge P 107 with h | h
                · obtain rfl : P = 106 := by omega
                  exact am_kD_106
                · rcases Nat.lt_or_ge P 108 with h | h
                  · obtain rfl : P = 107 := by omega
                    exact am_kD_107
                  · obtain rfl : P = 108 := by omega
                    exact am_kD_108
          · rcases Nat.lt_or_ge P 114 with h | h
            · rcases Nat.lt_or_ge P 111 with h | h
              · rcases Nat.lt_or_ge P 110 with h | h
                · obtain rfl : P = 109 := by omega
                  exact am_kD_109
                · obtain rfl : P = 110 := by omega
                  exact am_kD_110
              · rcases Nat.lt_or_ge P 112 with h | h
                · obtain rfl : P = 111 := by omega
                  exact am_kD_111
                · rcases Nat.lt_or_ge P 113 with h | h
                  · obtain rfl : P = 112 := by omega
                    exact am_kD_112
                  · obtain rfl : P = 113 := by omega
                    exact am_kD_113
            · rcases Nat.lt_or_ge P 116 with h | h
              · rcases Nat.lt_or_ge P 115 with h | h
                · obtain rfl : P = 114 := by omega
                  exact am_kD_114
                · obtain rfl : P = 115 := by omega
                  exact am_kD_115
              · rcases Nat.lt_or_ge P 117 with h | h
                · obtain rfl : P = 116 := by omega
                  exact am_kD_116
                · rcases Nat.lt_or_ge P 118 with h | h
                  · obtain rfl : P = 117 := by omega
                    exact am_kD_117
                  · obtain rfl : P = 118 := by omega
                    exact am_kD_118
      · rcases Nat.lt_or_ge P 139 with h | h
        · rcases Nat.lt_or_ge P 129 with h | h
          · rcases Nat.lt_or_ge P 124 with h | h
            · rcases Nat.lt_or_ge P 121 with h | h
              · rcases Nat.lt_or_ge P 120 with h | h
                · obtain rfl : P = 119 := by omega
                  exact am_kD_119
                · obtain rfl : P = 120 := by omega
                  exact am_kD_120
              · rcases Nat.lt_or_ge P 122 with h | h
                · obtain rfl : P = 121 := by omega
                  exact am_kD_121
                · rcases Nat.lt_or_ge P 123 with h | h
                  · obtain rfl : P = 122 := by omega
                    exact am_kD_122
                  · obtain rfl : P = 123 := by omega
                    exact am_kD_123
            · rcases Nat.lt_or_ge P 126 with h | h
              · rcases Nat.lt_or_ge P 125 with h | h
                · obtain rfl : P = 124 := by omega
                  exact am_kD_124
                · obtain rfl : P = 125 := by omega
                  exact am_kD_125
              · rcases Nat.lt_or_ge P 127 with h | h
                · obtain rfl : P = 126 := by omega
                  exact am_kD_126
                · rcases Nat.lt_or_ge P 128 with h | h
                  · obtain rfl : P = 127 := by omega
                    exact am_kD_127
                  · obtain rfl : P = 128 := by omega
                    exact am_kD_128
          · rcases Nat.lt_or_ge P 134 with h | h
            · rcases Nat.lt_or_ge P 131 with h | h
              · rcases Nat.lt_or_ge P 130 with h | h
                · obtain rfl : P = 129 := by omega
                  exact am_kD_129
                · obtain rfl : P = 130 := by omega
                  exact am_kD_130
              · rcases Nat.lt_or_ge P 132 with h | h
                · obtain rfl : P = 131 := by omega
                  exact am_kD_131
                · rcases Nat.lt_or_ge P 133 with h | h
                  · obtain rfl : P = 132 := by omega
                    exact am_kD_132
                  · obtain rfl : P = 133 := by omega
                    exact am_kD_133
            · rcases Nat.lt_or_ge P 136 with h | h
              · rcases Nat.lt_or_ge P 135 with h | h
                · obtain rfl : P = 134 := by omega
                  exact am_kD_134
                · obtain rfl : P = 135 := by omega
                  exact am_kD_135
              · rcases Nat.lt_or_ge P 137 with h | h
                · obtain rfl : P = 136 := by omega
                  exact am_kD_136
                · rcases Nat.lt_or_ge P 138 with h | h
                  · obtain rfl : P = 137 := by omega
                    exact am_kD_137
                  · obtain rfl : P = 138 := by omega
                    exact am_kD_138
        · rcases Nat.lt_or_ge P 149 with h | h
          · rcases Nat.lt_or_ge P 144 with h | h
            · rcases Nat.lt_or_ge P 141 with h | h
              · rcases Nat.lt_or_ge P 140 with h | h
                · obtain rfl : P = 139 := by omega
                  exact am_kD_139
                · obtain rfl : P = 140 := by omega
                  exact am_kD_140
              · rcases Nat.lt_or_ge P 142 with h | h
                · obtain rfl : P = 141 := by omega
                  exact am_kD_141
                · rcases Nat.lt_or_ge P 143 with h | h
                  · obtain rfl : P = 142 := by omega
                    exact am_kD_142
                  · obtain rfl : P = 143 := by omega
                    exact am_kD_143
            · rcases Nat.lt_or_ge P 146 with h | h
              · rcases Nat.lt_or_ge P 145 with h | h
                · obtain rfl : P = 144 := by omega
                  exact am_kD_144
                · obtain rfl : P = 145 := by omega
                  exact am_kD_145
              · rcases Nat.lt_or_ge P 147 with h | h
                · obtain rfl : P = 146 := by omega
                  exact am_kD_146
                · rcases Nat.lt_or_ge P 148 with h | h
                  · obtain rfl : P = 147 := by omega
                    exact am_kD_147
                  · obtain rfl : P = 148 := by omega
                    exact am_kD_148
          · rcases Nat.lt_or_ge P 154 with h | h
            · rcases Nat.lt_or_ge P 151 with h | h
              · rcases Nat.lt_or_ge P 150 with h | h
                · obtain rfl : P = 149 := by omega
                  exact am_kD_149
                · obtain rfl : P = 150 := by omega
                  exact am_kD_150
              · rcases Nat.lt_or_ge P 152 with h | h
                · obtain rfl : P = 151 := by omega
                  exact am_kD_151
                · rcases Nat.lt_or_ge P 153 with h | h
                  · obtain rfl : P = 152 := by omega
                    exact am_kD_152
                  · obtain rfl : P = 153 := by omega
                    exact am_kD_153
            · rcases Nat.lt_or_ge P 156 with h | h
              · rcases Nat.lt_or_ge P 155 with h | h
                · obtain rfl : P = 154 := by omega
                  exact am_kD_154
                · obtain rfl : P = 155 := by omega
                  exact am_kD_155
              · rcases Nat.lt_or_ge P 157 with h | h
                · obtain rfl : P = 156 := by omega
                  exact am_kD_156
                · rcases Nat.lt_or_ge P 158 with h | h
                  · obtain rfl : P = 157 := by omega
                    exact am_kD_157
                  · obtain rfl : P = 158 := by omega
                    exact am_kD_158
  · rcases Nat.lt_or_ge P 238 with h | h
    · rcases Nat.lt_or_ge P 198 with h | h
      · rcases Nat.lt_or_ge P 178 with h | h
        · rcases Nat.lt_or_ge P 168 with h | h
          · rcases Nat.lt_or_ge P 163 with h | h
            · rcases Nat.lt_or_ge P 161 with h | h
              · rcases Nat.lt_or_ge P 160 with h | h
                · obtain rfl : P = 159 := by omega
                  exact am_kD_159
                · obtain rfl : P = 160 := by omega
                  exact am_kD_160
              · rcases Nat.lt_or_ge P 162 with h | h
                · obtain rfl : P = 161 := by omega
                  exact am_kD_161
                · obtain rfl : P = 162 := by omega
                  exact am_kD_162
            · rcases Nat.lt_or_ge P 165 with h | h
              · rcases Nat.lt_or_ge P 164 with h | h
                · obtain rfl : P = 163 := by omega
                  exact am_kD_163
                · obtain rfl : P = 164 := by omega
                  exact am_kD_164
              · rcases Nat.lt_or_ge P 166 with h | h
                · obtain rfl : P = 165 := by omega
                  exact am_kD_165
                · rcases Nat.lt_or_ge P 167 with h | h
                  · obtain rfl : P = 166 := by omega
                    exact am_kD_166
                  · obtain rfl : P = 167 := by omega
                    exact am_kD_167
          · rcases Nat.lt_or_ge P 173 with h | h
            · rcases Nat.lt_or_ge P 170 with h | h
              · rcases Nat.lt_or_ge P 169 with h | h
                · obtain rfl : P = 168 := by omega
                  exact am_kD_168
                · obtain rfl : P = 169 := by omega
                  exact am_kD_169
              · rcases Nat.lt_or_ge P 171 with h | h
                · obtain rfl : P = 170 := by omega
                  exact am_kD_170
                · rcases Nat.lt_or_ge P 172 with h | h
                  · obtain rfl : P = 171 := by omega
                    exact am_kD_171
                  · obtain rfl : P = 172 := by omega
                    exact am_kD_172
            · rcases Nat.lt_or_ge P 175 with h | h
              · rcases Nat.lt_or_ge P 174 with h | h
                · obtain rfl : P = 173 := by omega
                  exact am_kD_173
                · obtain rfl : P = 174 := by omega
                  exact am_kD_174
              · rcases Nat.lt_or_ge P 176 with h | h
                · obtain rfl : P = 175 := by omega
                  exact am_kD_175
                · rcases Nat.lt_or_ge P 177 with h | h
                  · obtain rfl : P = 176 := by omega
                    exact am_kD_176
                  · obtain rfl : P = 177 := by omega
                    exact am_kD_177
        · rcases Nat.lt_or_ge P 188 with h | h
          · rcases Nat.lt_or_ge P 183 with h | h
            · rcases Nat.lt_or_ge P 180 with h | h
              · rcases Nat.lt_or_ge P 179 with h | h
                · obtain rfl : P = 178 := by omega
                  exact am_kD_178
                · obtain rfl : P = 179 := by omega
                  exact am_kD_179
              · rcases Nat.lt_or_ge P 181 with h | h
                · obtain rfl : P = 180 := by omega
                  exact am_kD_180
                · rcases Nat.lt_or_ge P 182 with h | h
                  · obtain rfl : P = 181 := by omega
                    exact am_kD_181
                  · obtain rfl : P = 182 := by omega
                    exact am_kD_182
            · rcases Nat.lt_or_ge P 185 with h | h
              · rcases Nat.lt_or_ge P 184 with h | h
                · obtain rfl : P = 183 := by omega
                  exact am_kD_183
                · obtain rfl : P = 184 := by omega
                  exact am_kD_184
              · rcases Nat.lt_or_ge P 186 with h | h
                · obtain rfl : P = 185 := by omega
                  exact am_kD_185
                · rcases Nat.lt_or_ge P 187 with h | h
                  · obtain rfl : P = 186 := by omega
                    exact am_kD_186
                  · obtain rfl : P = 187 := by omega
                    exact am_kD_187
          · rcases Nat.lt_or_ge P 193 with h | h
            · rcases Nat.lt_or_ge P 190 with h | h
              · rcases Nat.lt_or_ge P 189 with h | h
                · obtain rfl : P = 188 := by omega
                  exact am_kD_188
                · obtain rfl : P = 189 := by omega
                  exact am_kD_189
              · rcases Nat.lt_or_ge P 191 with h | h
                · obtain rfl : P = 190 := by omega
                  exact am_kD_190
                · rcases Nat.lt_or_ge P 192 with h | h
                  · obtain rfl : P = 191 := by omega
                    exact am_kD_191
                  · obtain rfl : P = 192 := by omega
                    exact am_kD_192
            · rcases Nat.lt_or_ge P 195 with h | h
              · rcases Nat.lt_or_ge P 194 with h | h
                · obtain rfl : P = 193 := by omega
                  exact am_kD_193
                · obtain rfl : P = 194 := by omega
                  exact am_kD_194
              · rcases Nat.lt_or_ge P 196 with h | h
                · obtain rfl : P = 195 := by omega
                  exact am_kD_195
                · rcases Nat.lt_or_ge P 197 with h | h
                  · obtain rfl : P = 196 := by omega
                    exact am_kD_196
                  · obtain rfl : P = 197 := by omega
                    exact am_kD_197
      · rcases Nat.lt_or_ge P 218 with h | h
        · rcases Nat.lt_or_ge P 208 with h | h
          · rcases Nat.lt_or_ge P 203 with h | h
            · rcases Nat.lt_or_ge P 200 with h | h
              · rcases Nat.lt_or_ge P 199 with h | h
                · obtain rfl : P = 198 := by omega
                  exact am_kD_198
                · obtain rfl : P = 199 := by omega
                  exact am_kD_199
              · rcases Nat.lt_or_ge P 201 with h | h
                · obtain rfl : P = 200 := by omega
                  exact am_kD_200
                · rcases Nat.lt_or_ge P 202 with h | h
                  · obtain rfl : P = 201 := by omega
                    exact am_kD_201
                  · obtain rfl : P = 202 := by omega
                    exact am_kD_202
            · rcases Nat.lt_or_ge P 205 with h | h
              · rcases Nat.lt_or_ge P 204 with h | h
                · obtain rfl : P = 203 := by omega
                  exact am_kD_203
                · obtain rfl : P = 204 := by omega
                  exact am_kD_204
              · rcases Nat.lt_or_ge P 206 with h | h
                · obtain rfl : P = 205 := by omega
                  exact am_kD_205
                · rcases Nat.lt_or_ge P 207 with h | h
                  · obtain rfl : P = 206 := by omega
                    exact am_kD_206
                  · obtain rfl : P = 207 := by omega
                    exact am_kD_207
          · rcases Nat.lt_or_ge P 213 with h | h
            · rcases Nat.lt_or_ge P 210 with h | h
              · rcases Nat.lt_or_ge P 209 with h | h
                · obtain rfl : P = 208 := by omega
                  exact am_kD_208
                · obtain rfl : P = 209 := by omega
                  exact am_kD_209
              · rcases Nat.lt_or_ge P 211 with h | h
                · obtain rfl : P = 210 := by omega
                  exact am_kD_210
                · rcases Nat.lt_or_ge P 212 with h | h
                  · obtain rfl : P = 211 := by omega
                    exact am_kD_211
                  · obtain rfl : P = 212 := by omega
                    exact am_kD_212
            · rcases Nat.lt_or_ge P 215 with h | h
              · rcases Nat.lt_or_ge P 214 with h | h
                · obtain rfl : P = 213 := by omega
                  exact am_kD_213
                · obtain rfl : P = 214 := by omega
                  exact am_kD_214
              · rcases Nat.lt_or_ge P 216 with h | h
                · obtain rfl : P = 215 := by omega
                  exact am_kD_215
                · rcases Nat.lt_or_ge P 217 with h | h
                  · obtain rfl : P = 216 := by omega
                    exact am_kD_216
                  · obtain rfl : P = 217 := by omega
                    exact am_kD_217
        · rcases Nat.lt_or_ge P 228 with h | h
          · rcases Nat.lt_or_ge P 223 with h | h
            · rcases Nat.lt_or_ge P 220 with h | h
              · rcases Nat.lt_or_ge P 219 with h | h
                · obtain rfl : P = 218 := by omega
                  exact am_kD_218
                · obtain rfl : P = 219 := by omega
                  exact am_kD_219
              · rcases Nat.lt_or_ge P 221 with h | h
                · obtain rfl : P = 220 := by omega
                  exact am_kD_220
                · rcases Nat.lt_or_ge P 222 with h | h
                  · obtain rfl : P = 221 := by omega
                    exact am_kD_221
                  · obtain rfl : P = 222 := by omega
                    exact am_kD_222
            · rcases Nat.lt_or_ge P 225 with h | h
              · rcases Nat.lt_or_ge P 224 with h | h
                · obtain rfl : P = 223 := by omega
                  exact am_kD_223
                · obtain rfl : P = 224 := by omega
                  exact am_kD_224
              · rcases Nat.lt_or_ge P 226 with h | h
                · obtain rfl : P = 225 := by omega
                  exact am_kD_225
                · rcases Nat.lt_or_ge P 227 with h | h
                  · obtain rfl : P = 226 := by omega
                    exact am_kD_226
                  · obtain rfl : P = 227 := by omega
                    exact am_kD_227
          · rcases Nat.lt_or_ge P 233 with h | h
            · rcases Nat.lt_or_ge P 230 with h | h
              · rcases Nat.lt_or_ge P 229 with h | h
                · obtain rfl : P = 228 := by omega
                  exact am_kD_228
                · obtain rfl : P = 229 := by omega
                  exact am_kD_229
              · rcases Nat.lt_or_ge P 231 with h | h
                · obtain rfl : P = 230 := by omega
                  exact am_kD_230
                · rcases Nat.lt_or_ge P 232 with h | h
                  · obtain rfl : P = 231 := by omega
                    exact am_kD_231
                  · obtain rfl : P = 232 := by omega
                    exact am_kD_232
            · rcases Nat.lt_or_ge P 235 with h | h
              · rcases Nat.lt_or_ge P 234 with h | h
                · obtain rfl : P = 233 := by omega
                  exact am_kD_233
                · obtain rfl : P = 234 := by omega
                  exact am_kD_234
              · rcases Nat.lt_or_ge P 236 with h | h
                · obtain rfl : P = 235 := by omega
                  exact am_kD_235
                · rcases Nat.lt_or_ge P 237 with h | h
                  · obtain rfl : P = 236 := by omega
                    exact am_kD_236
                  · obtain rfl : P = 237 := by omega
                    exact am_kD_237
    · rcases Nat.lt_or_ge P 278 with h | h
      · rcases Nat.lt_or_ge P 258 with h | h
        · rcases Nat.lt_or_ge P 248 with h | h
          · rcases Nat.lt_or_ge P 243 with h | h
            · rcases Nat.lt_or_ge P 240 with h | h
              · rcases Nat.lt_or_ge P 239 with h | h
                · obtain rfl : P = 238 := by omega
                  exact am_kD_238
                · obtain rfl : P = 239 := by omega
                  exact am_kD_239
              · rcases Nat.lt_or_ge P 241 with h | h
                · obtain rfl : P = 240 := by omega
                  exact am_kD_240
                · rcases Nat.lt_or_ge P 242 with h | h
                  · obtain rfl : P = 241 := by omega
                    exact am_kD_241
                  · obtain rfl : P = 242 := by omega
                    exact am_kD_242
            · rcases Nat.lt_or_ge P 245 with h | h
              · rcases Nat.lt_or_ge P 244 with h | h
                · obtain rfl : P = 243 := by omega
                  exact am_kD_243
                · obtain rfl : P = 244 := by omega
                  exact am_kD_244
              · rcases Nat.lt_or_ge P 246 with h | h
                · obtain rfl : P = 245 := by omega
                  exact am_kD_245
                · rcases Nat.lt_or_ge P 247 with h | h
                  · obtain rfl : P = 246 := by omega
                    exact am_kD_246
                  · obtain rfl : P = 247 := by omega
                    exact am_kD_247
          · rcases Nat.lt_or_ge P 253 with h | h
            · rcases Nat.lt_or_ge P 250 with h | h
              · rcases Nat.lt_or_ge P 249 with h | h
                · obtain rfl : P = 248 := by omega
                  exact am_kD_248
                · obtain rfl : P = 249 := by omega
                  exact am_kD_249
              · rcases Nat.lt_or_ge P 251 with h | h
                · obtain rfl : P = 250 := by omega
                  exact am_kD_250
                · rcases Nat.lt_or_ge P 252 with h | h
                  · obtain rfl : P = 251 := by omega
                    exact am_kD_251
                  · obtain rfl : P = 252 := by omega
                    exact am_kD_252
            · rcases Nat.lt_or_ge P 255 with h | h
              · rcases Nat.lt_or_ge P 254 with h | h
                · obtain rfl : P = 253 := by omega
                  exact am_kD_253
                · obtain rfl : P = 254 := by omega
                  exact am_kD_254
              · rcases Nat.lt_or_ge P 256 with h | h
                · obtain rfl : P = 255 := by omega
                  exact am_kD_255
                · rcases Nat.lt_or_ge P 257 with h | h
                  · obtain rfl : P = 256 := by omega
                    exact am_kD_256
                  · obtain rfl : P = 257 := by omega
                    exact am_kD_257
        · rcases Nat.lt_or_ge P 268 with h | h
          · rcases Nat.lt_or_ge P 263 with h | h
            · rcases Nat.lt_or_ge P 260 with h | h
              · rcases Nat.lt_or_ge P 259 with h | h
                · obtain rfl : P = 258 := by omega
                  exact am_kD_258
                · obtain rfl : P = 259 := by omega
                  exact am_kD_259
              · rcases Nat.lt_or_ge P 261 with h | h
                · obtain rfl : P = 260 := by omega
                  exact am_kD_260
                · rcases Nat.lt_or_ge P 262 with h | h
                  · obtain rfl : P = 261 := by omega
                    exact am_kD_261
                  · obtain rfl : P = 262 := by omega
                    exact am_kD_262
            · rcases Nat.lt_or_ge P 265 with h | h
              · rcases Nat.lt_or_ge P 264 with h | h
                · obtain rfl : P = 263 := by omega
                  exact am_kD_263
                · obtain rfl : P = 264 := by omega
                  exact am_kD_264
              · rcases Nat.lt_or_ge P 266 with h | h
                · obtain rfl : P = 265 := by omega
                  exact am_kD_265
                · rcases Nat.lt_or_ge P 267 with h | h
                  · obtain rfl : P = 266 := by omega
                    exact am_kD_266
                  · obtain rfl : P = 267 := by omega
                    exact am_kD_267
          · rcases Nat.lt_or_ge P 273 with h | h
            · rcases Nat.lt_or_ge P 270 with h | h
              · rcases Nat.lt_or_ge P 269 with h | h
                · obtain rfl : P = 268 := by omega
                  exact am_kD_268
                · obtain rfl : P = 269 := by omega
                  exact am_kD_269
              · rcases Nat.lt_or_ge P 271 with h | h
                · obtain rfl : P = 270 := by omega
                  exact am_kD_270
                · rcases Nat.lt_or_ge P 272 with h | h
                  · obtain rfl : P = 271 := by omega
                    exact am_kD_271
                  · obtain rfl : P = 272 := by omega
                    exact am_kD_272
            · rcases Nat.lt_or_ge P 275 with h | h
              · rcases Nat.lt_or_ge P 274 with h | h
                · obtain rfl : P = 273 := by omega
                  exact am_kD_273
                · obtain rfl : P = 274 := by omega
                  exact am_kD_274
              · rcases Nat.lt_or_ge P 276 with h | h
                · obtain rfl : P = 275 := by omega
                  exact am_kD_275
                · rcases Nat.lt_or_ge P 277 with h | h
                  · obtain rfl : P = 276 := by omega
                    exact am_kD_276
                  · obtain rfl : P = 277 := by omega
                    exact am_kD_277
      · rcases Nat.lt_or_ge P 298 with h | h
        · rcases Nat.lt_or_ge P 288 with h | h
          · rcases Nat.lt_or_ge P 283 with h | h
            · rcases Nat.lt_or_ge P 280 with h | h
              · rcases Nat.lt_or_ge P 279 with h | h
                · obtain rfl : P = 278 := by omega
                  exact am_kD_278
                · obtain rfl : P = 279 := by omega
                  exact am_kD_279
              · rcases Nat.lt_or_ge P 281 with h | h
                · obtain rfl : P = 280 := by omega
                  exact am_kD_280
                · rcases Nat.lt_or_ge P 282 with h | h
                  · obtain rfl : P = 281 := by omega
                    exact am_kD_281
                  · obtain rfl : P = 282 := by omega
                    exact am_kD_282
            · rcases Nat.lt_or_ge P 285 with h | h
              · rcases Nat.lt_or_ge P 284 with h | h
                · obtain rfl : P = 283 := by omega
                  exact am_kD_283
                · obtain rfl : P = 284 := by omega
                  exact am_kD_284
              · rcases Nat.lt_or_ge P 286 with h | h
                · obtain rfl : P = 285 := by omega
                  exact am_kD_285
                · rcases Nat.lt_or_ge P 287 with h | h
                  · obtain rfl : P = 286 := by omega
                    exact am_kD_286
                  · obtain rfl : P = 287 := by omega
                    exact am_kD_287
          · rcases Nat.lt_or_ge P 293 with h | h
            · rcases Nat.lt_or_ge P 290 with h | h
              · rcases Nat.lt_or_ge P 289 with h | h
                · obtain rfl : P = 288 := by omega
                  exact am_kD_288
                · obtain rfl : P = 289 := by omega
                  exact am_kD_289
              · rcases Nat.lt_or_ge P 291 with h | h
                · obtain rfl : P = 290 := by omega
                  exact am_kD_290
                · rcases Nat.lt_or_ge P 292 with h | h
                  · obtain rfl : P = 291 := by omega
                    exact am_kD_291
                  · obtain rfl : P = 292 := by omega
                    exact am_kD_292
            · rcases Nat.lt_or_ge P 295 with h | h
              · rcases Nat.lt_or_ge P 294 with h | h
                · obtain rfl : P = 293 := by omega
                  exact am_kD_293
                · obtain rfl : P = 294 := by omega
                  exact am_kD_294
              · rcases Nat.lt_or_ge P 296 with h | h
                · obtain rfl : P = 295 := by omega
                  exact am_kD_295
                · rcases Nat.lt_or_ge P 297 with h | h
                  · obtain rfl : P = 296 := by omega
                    exact am_kD_296
                  · obtain rfl : P = 297 := by omega
                    exact am_kD_297
        · rcases Nat.lt_or_ge P 308 with h | h
          · rcases Nat.lt_or_ge P 303 with h | h
            · rcases Nat.lt_or_ge P 300 with h | h
              · rcases Nat.lt_or_ge P 299 with h | h
                · obtain rfl : P = 298 := by omega
                  exact am_kD_298
                · obtain rfl : P = 299 := by omega
                  exact am_kD_299
              · rcases Nat.lt_or_ge P 301 with h | h
                · obtain rfl : P = 300 := by omega
                  exact am_kD_300
                · rcases Nat.lt_or_ge P 302 with h | h
                  · obtain rfl : P = 301 := by omega
                    exact am_kD_301
                  · obtain rfl : P = 302 := by omega
                    exact am_kD_302
            · rcases Nat.lt_or_ge P 305 with h | h
              · rcases Nat.lt_or_ge P 304 with h | h
                · obtain rfl : P = 303 := by omega
                  exact am_kD_303
                · obtain rfl : P = 304 := by omega
                  exact am_kD_304
              · rcases Nat.lt_or_ge P 306 with h | h
                · obtain rfl : P = 305 := by omega
                  exact am_kD_305
                · rcases Nat.lt_or_ge P 307 with h | h
                  · obtain rfl : P = 306 := by omega
                    exact am_kD_306
                  · obtain rfl : P = 307 := by omega
                    exact am_kD_307
          · rcases Nat.lt_or_ge P 313 with h | h
            · rcases Nat.lt_or_ge P 310 with h | h
              · rcases Nat.lt_or_ge P 309 with h | h
                · obtain rfl : P = 308 := by omega
                  exact am_kD_308
                · obtain rfl : P = 309 := by omega
                  exact am_kD_309
              · rcases Nat.lt_or_ge P 311 with h | h
                · obtain rfl : P = 310 := by omega
                  exact am_kD_310
                · rcases Nat.lt_or_ge P 312 with h | h
                  · obtain rfl : P = 311 := by omega
                    exact am_kD_311
                  · obtain rfl : P = 312 := by omega
                    exact am_kD_312
            · rcases Nat.lt_or_ge P 315 with h | h
              · rcases Nat.lt_or_ge P 314 with h | h
                · obtain rfl : P = 313 := by omega
                  exact am_kD_313
                · obtain rfl : P = 314 := by omega
                  exact am_kD_314
              · rcases Nat.lt_or_ge P 316 with h | h
                · obtain rfl : P = 315 := by omega
                  exact am_kD_315
                · rcases Nat.lt_or_ge P 317 with h | h
                  · obtain rfl : P = 316 := by omega
                    exact am_kD_316
                  · obtain rfl : P = 317 := by omega
                    exact am_kD_317
set_option maxRecDepth 100000 in
theorem am_kN_0 : Cond.initialized (am_n 0) ∈ am_ws := am_in_1 (List.mem_of_getElem? (i := 1) rfl) rfl
set_option maxRecDepth 100000 in
theorem am_kN_1 : Cond.initialized (am_n 1) ∈ am_ws := am_in_1 (List.mem_of_getElem? (i := 27) rfl) rfl
set_option maxRecDepth 100000 in
theorem am_kN_2 : Cond.initialized (am_n 2) ∈ am_ws := am_in_1 (List.mem_of_getElem? (i := 10) rfl) rfl
set_option maxRecDepth 100000 in
theorem am_kN_3 : Cond.initialized (am_n 3) ∈ am_ws := am_in_1 (List.mem_of_getElem? (i := 7) rfl) rfl
set_option maxRecDepth 100000 in
theorem am_kN_4 : Cond.initialized (am_n 4) ∈ am_ws := am_in_1 (List.mem_of_getElem? (i := 9) rfl) rfl
set_option maxRecDepth 100000 in
theorem am_kN_5 : Cond.initialized (am_n 5) ∈ am_ws := am_in_1 (List.mem_of_getElem? (i := 8) rfl) rfl
set_option maxRecDepth 100000 in
theorem am_kN_6 : Cond.initialized (am_n 6) ∈ am_ws := am_in_1 (List.mem_of_getElem? (i := 12) rfl) rfl
set_option maxRecDepth 100000 in
theorem am_kN_7 : Cond.initialized (am_n 7) ∈ am_ws := am_in_1 (List.mem_of_getElem? (i := 6) rfl) rfl
set_option maxRecDepth 100000 in
theorem am_kN_8 : Cond.initialized (am_n 8) ∈ am_ws := am_in_1 (List.mem_of_getElem? (i := 5) rfl) rfl
set_option maxRecDepth 100000 in
theorem am_kN_9 : Cond.initialized (am_n 9) ∈ am_ws := am_in_1 (List.mem_of_getElem? (i := 2) rfl) rfl
set_option maxRecDepth 100000 in
theorem am_kN_10 : Cond.initialized (am_n 10) ∈ am_ws := am_in_1 (List.mem_of_getElem? (i := 11) rfl) rfl
set_option maxRecDepth 100000 in
theorem am_kN_11 : Cond.initialized (am_n 11) ∈ am_ws := am_in_1 (List.mem_of_getElem? (i := 3) rfl) rfl
set_option maxRecDepth 100000 in
theorem am_kN_12 : Cond.initialized (am_n 12) ∈ am_ws := am_in_1 (List.mem_of_getElem? (i := 0) rfl) rfl
set_option maxRecDepth 100000 in
theorem am_kN_13 : Cond.initialized (am_n 13) ∈ am_ws := am_in_1 (List.mem_of_getElem? (i := 13) rfl) rfl
set_option maxRecDepth 100000 in
theorem am_kN_14 : Cond.initialized (am_n 14) ∈ am_ws := am_in_1 (List.mem_of_getElem? (i := 28) rfl) rfl
set_option maxRecDepth 100000 in
theorem am_kN_15 : Cond.initialized (am_n 15) ∈ am_ws := am_in_1 (List.mem_of_getElem? (i := 25) rfl) rfl
set_option maxRecDepth 100000 in
theorem am_kN_16 : Cond.initialized (am_n 16) ∈ am_ws := am_in_1 (List.mem_of_getElem? (i := 15) rfl) rfl
set_option maxRecDepth 100000 in
theorem am_kN_17 : Cond.initialized (am_n 17) ∈ am_ws := am_in_1 (List.mem_of_getElem? (i := 18) rfl) rfl
set_option maxRecDepth 100000 in
theorem am_kN_18 : Cond.initialized (am_n 18) ∈ am_ws := am_in_1 (List.mem_of_getElem? (i := 19) rfl) rfl
set_option maxRecDepth 100000 in
theorem am_kN_19 : Cond.initialized (am_n 19) ∈ am_ws := am_in_1 (List.mem_of_getElem? (i := 31) rfl) rfl
set_option maxRecDepth 100000 in
theorem am_kN_20 : Cond.initialized (am_n 20) ∈ am_ws := am_in_1 (List.mem_of_getElem? (i := 22) rfl) rfl
set_option maxRecDepth 100000 in
theorem am_kN_22 : Cond.initialized (am_n 22) ∈ am_ws := am_in_1 (List.mem_of_getElem? (i := 16) rfl) rfl
set_option maxRecDepth 100000 in
theorem am_kN_23 : Cond.initialized (am_n 23) ∈ am_ws := am_in_1 (List.mem_of_getElem? (i := 20) rfl) rfl
set_option maxRecDepth 100000 in
theorem am_kN_24 : Cond.initialized (am_n 24) ∈ am_ws := am_in_1 (List.mem_of_getElem? (i := 29) rfl) rfl
set_option maxRecDepth 100000 in
theorem am_kN_25 : Cond.initialized (am_n 25) ∈ am_ws := am_in_1 (List.mem_of_getElem? (i := 21) rfl) rfl
set_option maxRecDepth 100000 in
theorem am_kN_26 : Cond.initialized (am_n 26) ∈ am_ws := am_in_1 (List.mem_of_getElem? (i := 23) rfl) rfl
set_option maxRecDepth 100000 in
theorem am_kN_27 : Cond.initialized (am_n 27) ∈ am_ws := am_in_1 (List.mem_of_getElem? (i := 14) rfl) rfl
set_option maxRecDepth 100000 in
theorem am_kN_28 : Cond.initialized (am_n 28) ∈ am_ws := am_in_1 (List.mem_of_getElem? (i := 4) rfl) rfl
set_option maxRecDepth 100000 in
theorem am_kN_29 : Cond.initialized (am_n 29) ∈ am_ws := am_in_1 (List.mem_of_getElem? (i := 17) rfl) rfl
set_option maxRecDepth 100000 in
theorem am_kN_30 : Cond.initialized (am_n 30) ∈ am_ws := am_in_1 (List.mem_of_getElem? (i := 30) rfl) rfl
set_option maxRecDepth 100000 in
theorem am_kN_31 : Cond.initialized (am_n 31) ∈ am_ws := am_in_1 (List.mem_of_getElem? (i := 24) rfl) rfl
theorem am_kN : ∀ o, o < 32 → o ≠ 21 → Cond.initialized (am_n o) ∈ am_ws := by
  intro o ho h21
  match o, ho, h21 with
  | 0, _, _ => exact am_kN_0
  | 1, _, _ => exact am_kN_1
  | 2, _, _ => exact am_kN_2
  | 3, _, _ => exact am_kN_3
  | 4, _, _ => exact am_kN_4
  | 5, _, _ => exact am_kN_5
  | 6, _, _ => exact am_kN_6
  | 7, _, _ => exact am_kN_7
  | 8, _, _ => exact am_kN_8
  | 9, _, _ => exact am_kN_9
  | 10, _, _ => exact am_kN_10
  | 11, _, _ => exact am_kN_11
  | 12, _, _ => exact am_kN_12
  | 13, _, _ => exact am_kN_13
  | 14, _, _ => exact am_kN_14
  | 15, _, _ => exact am_kN_15
  | 16, _, _ => exact am_kN_16
  | 17, _, _ => exact am_kN_17
  | 18, _, _ => exact am_kN_18
  | 19, _, _ => exact am_kN_19
  | 20, _, _ => exact am_kN_20
  | 21, _, h => exact absurd rfl h
  | 22, _, _ => exact am_kN_22
  | 23, _, _ => exact am_kN_23
  | 24, _, _ => exact am_kN_24
  | 25, _, _ => exact am_kN_25
  | 26, _, _ => exact am_kN_26
  | 27, _, _ => exact am_kN_27
  | 28, _, _ => exact am_kN_28
  | 29, _, _ => exact am_kN_29
  | 30, _, _ => exact am_kN_30
  | 31, _, _ => exact am_kN_31
  | n + 32, h, _ => omega
