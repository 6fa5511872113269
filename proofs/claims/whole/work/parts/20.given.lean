/-! What stands in the old cells, and that the Statement says so. Written by program (wip/gen/gen20.py). -/
def am_txt (k : Nat) : List Int32 := match k with
  | 2 => [48, 49, 50, 51, 52, 53, 54, 55, 56, 57, 43, 45, 42, 47, 63, 58, 40, 41, 120, 121, 122, 60, 62, 94, 36]
  | 3 => [120, 121, 122]
  | 4 => [48, 49, 50, 51, 52, 53, 60, 62, 94, 36]
  | 5 => [101, 109, 112, 116, 121]
  | 6 => [114, 105, 110, 103]
  | 7 => [111, 118, 101, 114]
  | 8 => [100, 105, 118]
  | _ => []
def am_tst (k : Nat) : Term := match k with
  | 2 => .string "ModelSheet$Pad" 13
  | 3 => .string "ModelSheet$Reader" 78
  | 4 => .string "ModelSheet$Reader" 90
  | 5 => .string "ModelSheet$Amount" 63
  | 6 => .string "ModelSheet$Amount" 69
  | 7 => .string "ModelSheet$Amount" 71
  | 8 => .string "ModelSheet$Amount" 73
  | _ => .null
def am_olt (a : Nat) : Term := if a = 1 then .static "ModelSheet" "SPAN" "[I" else if a = 19 then .static "java/lang/Integer" "DigitOnes" "[B" else if a = 20 then .static "java/lang/Integer" "DigitTens" "[B" else .field (am_tst (a - 10)) "java/lang/String" "value" "[B"
def am_oll (a : Nat) : List Int32 := if a = 1 then [36, 6, 1] else if a = 19 then (List.range 100).map (fun j => Int32.ofNat (48 + j % 10)) else if a = 20 then (List.range 100).map (fun j => Int32.ofNat (48 + j / 10)) else am_txt (a - 10)
def am_old1 : List Nat := [1, 12, 13, 14, 15, 16, 17, 18, 19, 20]
def am_fl0 : List Cond := flatC (Jvm.Cond.and given_1 narrow_1)
def am_olp (a : Nat) : Nat × Nat × List Nat := match a with
  | 1 => (12, 13, [14, 15, 16])
  | 12 => (270, 271, [272, 273, 274, 275, 276, 277, 278, 279, 280, 281, 282, 283, 284, 285, 286, 287, 288, 289, 290, 291, 292, 293, 294, 295, 296])
  | 13 => (299, 300, [301, 302, 303])
  | 14 => (307, 308, [309, 310, 311, 312, 313, 314, 315, 316, 317, 318])
  | 15 => (323, 324, [325, 326, 327, 328, 329])
  | 16 => (335, 336, [337, 338, 339, 340])
  | 17 => (347, 348, [349, 350, 351, 352])
  | 18 => (360, 361, [362, 363, 364])
  | 19 => (18, 19, [20, 21, 22, 23, 24, 25, 26, 27, 28, 29, 30, 31, 32, 33, 34, 35, 36, 37, 38, 39, 40, 41, 42, 43, 44, 45, 46, 47, 48, 49, 50, 51, 52, 53, 54, 55, 56, 57, 58, 59, 60, 61, 62, 63, 64, 65, 66, 67, 68, 69, 70, 71, 72, 73, 74, 75, 76, 77, 78, 79, 80, 81, 82, 83, 84, 85, 86, 87, 88, 89, 90, 91, 92, 93, 94, 95, 96, 97, 98, 99, 100, 101, 102, 103, 104, 105, 106, 107, 108, 109, 110, 111, 112, 113, 114, 115, 116, 117, 118, 119])
  | 20 => (121, 122, [123, 124, 125, 126, 127, 128, 129, 130, 131, 132, 133, 134, 135, 136, 137, 138, 139, 140, 141, 142, 143, 144, 145, 146, 147, 148, 149, 150, 151, 152, 153, 154, 155, 156, 157, 158, 159, 160, 161, 162, 163, 164, 165, 166, 167, 168, 169, 170, 171, 172, 173, 174, 175, 176, 177, 178, 179, 180, 181, 182, 183, 184, 185, 186, 187, 188, 189, 190, 191, 192, 193, 194, 195, 196, 197, 198, 199, 200, 201, 202, 203, 204, 205, 206, 207, 208, 209, 210, 211, 212, 213, 214, 215, 216, 217, 218, 219, 220, 221, 222])
  | _ => (0, 0, [])
def am_ckO (a : Nat) : Bool := decide (am_fl0[(am_olp a).1]? = some (Cond.arrayOf (am_olt a) (am_oty a))) && decide (am_fl0[(am_olp a).2.1]? = some (Cond.eq (.length (am_olt a)) (.int (Int32.ofNat (am_oll a).length))))
def am_ckE (a j : Nat) : Bool := decide (am_fl0[(am_olp a).2.2.getD j 0]? = some (Cond.eq (.elem (am_olt a) (.int (Int32.ofNat j))) (.int ((am_oll a).getD j 0))))
set_option maxRecDepth 100000 in
theorem am_kO_1 : am_ckO 1 = true := by decide +kernel
set_option maxRecDepth 100000 in
theorem am_kE_1_0 : ∀ j, j < 3 → am_ckE 1 (0 + j) = true := by decide +kernel
theorem am_kE_1 : ∀ j, j < (am_oll 1).length → am_ckE 1 j = true := by
  intro j hj
  have hj : j < 3 := hj
  have := am_kE_1_0 (j - 0) (by omega)
  rwa [show 0 + (j - 0) = j by omega] at this
set_option maxRecDepth 100000 in
theorem am_kO_12 : am_ckO 12 = true := by decide +kernel
set_option maxRecDepth 100000 in
theorem am_kE_12_0 : ∀ j, j < 20 → am_ckE 12 (0 + j) = true := by decide +kernel
set_option maxRecDepth 100000 in
theorem am_kE_12_20 : ∀ j, j < 5 → am_ckE 12 (20 + j) = true := by decide +kernel
theorem am_kE_12 : ∀ j, j < (am_oll 12).length → am_ckE 12 j = true := by
  intro j hj
  have hj : j < 25 := hj
  by_cases h0 : j < 20
  · have := am_kE_12_0 (j - 0) (by omega)
    rwa [show 0 + (j - 0) = j by omega] at this
  have := am_kE_12_20 (j - 20) (by omega)
  rwa [show 20 + (j - 20) = j by omega] at this
set_option maxRecDepth 100000 in
theorem am_kO_13 : am_ckO 13 = true := by decide +kernel
set_option maxRecDepth 100000 in
theorem am_kE_13_0 : ∀ j, j < 3 → am_ckE 13 (0 + j) = true := by decide +kernel
theorem am_kE_13 : ∀ j, j < (am_oll 13).length → am_ckE 13 j = true := by
  intro j hj
  have hj : j < 3 := hj
  have := am_kE_13_0 (j - 0) (by omega)
  rwa [show 0 + (j - 0) = j by omega] at this
set_option maxRecDepth 100000 in
theorem am_kO_14 : am_ckO 14 = true := by decide +kernel
set_option maxRecDepth 100000 in
theorem am_kE_14_0 : ∀ j, j < 10 → am_ckE 14 (0 + j) = true := by decide +kernel
theorem am_kE_14 : ∀ j, j < (am_oll 14).length → am_ckE 14 j = true := by
  intro j hj
  have hj : j < 10 := hj
  have := am_kE_14_0 (j - 0) (by omega)
  rwa [show 0 + (j - 0) = j by omega] at this
set_option maxRecDepth 100000 in
theorem am_kO_15 : am_ckO 15 = true := by decide +kernel
set_option maxRecDepth 100000 in
theorem am_kE_15_0 : ∀ j, j < 5 → am_ckE 15 (0 + j) = true := by decide +kernel
theorem am_kE_15 : ∀ j, j < (am_oll 15).length → am_ckE 15 j = true := by
  intro j hj
  have hj : j < 5 := hj
  have := am_kE_15_0 (j - 0) (by omega)
  rwa [show 0 + (j - 0) = j by omega] at this
set_option maxRecDepth 100000 in
theorem am_kO_16 : am_ckO 16 = true := by decide +kernel
set_option maxRecDepth 100000 in
theorem am_kE_16_0 : ∀ j, j < 4 → am_ckE 16 (0 + j) = true := by decide +kernel
theorem am_kE_16 : ∀ j, j < (am_oll 16).length → am_ckE 16 j = true := by
  intro j hj
  have hj : j < 4 := hj
  have := am_kE_16_0 (j - 0) (by omega)
  rwa [show 0 + (j - 0) = j by omega] at this
set_option maxRecDepth 100000 in
theorem am_kO_17 : am_ckO 17 = true := by decide +kernel
set_option maxRecDepth 100000 in
theorem am_kE_17_0 : ∀ j, j < 4 → am_ckE 17 (0 + j) = true := by decide +kernel
theorem am_kE_17 : ∀ j, j < (am_oll 17).length → am_ckE 17 j = true := by
  intro j hj
  have hj : j < 4 := hj
  have := am_kE_17_0 (j - 0) (by omega)
  rwa [show 0 + (j - 0) = j by omega] at this
set_option maxRecDepth 100000 in
theorem am_kO_18 : am_ckO 18 = true := by decide +kernel
set_option maxRecDepth 100000 in
theorem am_kE_18_0 : ∀ j, j < 3 → am_ckE 18 (0 + j) = true := by decide +kernel
theorem am_kE_18 : ∀ j, j < (am_oll 18).length → am_ckE 18 j = true := by
  intro j hj
  have hj : j < 3 := hj
  have := am_kE_18_0 (j - 0) (by omega)
  rwa [show 0 + (j - 0) = j by omega] at this
set_option maxRecDepth 100000 in
theorem am_kO_19 : am_ckO 19 = true := by decide +kernel
set_option maxRecDepth 100000 in
theorem am_kE_19_0 : ∀ j, j < 20 → am_ckE 19 (0 + j) = true := by decide +kernel
set_option maxRecDepth 100000 in
theorem am_kE_19_20 : ∀ j, j < 20 → am_ckE 19 (20 + j) = true := by decide +kernel
set_option maxRecDepth 100000 in
theorem am_kE_19_40 : ∀ j, j < 20 → am_ckE 19 (40 + j) = true := by decide +kernel
set_option maxRecDepth 100000 in
theorem am_kE_19_60 : ∀ j, j < 20 → am_ckE 19 (60 + j) = true := by decide +kernel
set_option maxRecDepth 100000 in
theorem am_kE_19_80 : ∀ j, j < 20 → am_ckE 19 (80 + j) = true := by decide +kernel
theorem am_kE_19 : ∀ j, j < (am_oll 19).length → am_ckE 19 j = true := by
  intro j hj
  have hj : j < 100 := hj
  by_cases h0 : j < 20
  · have := am_kE_19_0 (j - 0) (by omega)
    rwa [show 0 + (j - 0) = j by omega] at this
  by_cases h20 : j < 40
  · have := am_kE_19_20 (j - 20) (by omega)
    rwa [show 20 + (j - 20) = j by omega] at this
  by_cases h40 : j < 60
  · have := am_kE_19_40 (j - 40) (by omega)
    rwa [show 40 + (j - 40) = j by omega] at this
  by_cases h60 : j < 80
  · have := am_kE_19_60 (j - 60) (by omega)
    rwa [show 60 + (j - 60) = j by omega] at this
  have := am_kE_19_80 (j - 80) (by omega)
  rwa [show 80 + (j - 80) = j by omega] at this
set_option maxRecDepth 100000 in
theorem am_kO_20 : am_ckO 20 = true := by decide +kernel
set_option maxRecDepth 100000 in
theorem am_kE_20_0 : ∀ j, j < 20 → am_ckE 20 (0 + j) = true := by decide +kernel
set_option maxRecDepth 100000 in
theorem am_kE_20_20 : ∀ j, j < 20 → am_ckE 20 (20 + j) = true := by decide +kernel
set_option maxRecDepth 100000 in
theorem am_kE_20_40 : ∀ j, j < 20 → am_ckE 20 (40 + j) = true := by decide +kernel
set_option maxRecDepth 100000 in
theorem am_kE_20_60 : ∀ j, j < 20 → am_ckE 20 (60 + j) = true := by decide +kernel
set_option maxRecDepth 100000 in
theorem am_kE_20_80 : ∀ j, j < 20 → am_ckE 20 (80 + j) = true := by decide +kernel
theorem am_kE_20 : ∀ j, j < (am_oll 20).length → am_ckE 20 j = true := by
  intro j hj
  have hj : j < 100 := hj
  by_cases h0 : j < 20
  · have := am_kE_20_0 (j - 0) (by omega)
    rwa [show 0 + (j - 0) = j by omega] at this
  by_cases h20 : j < 40
  · have := am_kE_20_20 (j - 20) (by omega)
    rwa [show 20 + (j - 20) = j by omega] at this
  by_cases h40 : j < 60
  · have := am_kE_20_40 (j - 40) (by omega)
    rwa [show 40 + (j - 40) = j by omega] at this
  by_cases h60 : j < 80
  · have := am_kE_20_60 (j - 60) (by omega)
    rwa [show 60 + (j - 60) = j by omega] at this
  have := am_kE_20_80 (j - 80) (by omega)
  rwa [show 80 + (j - 80) = j by omega] at this
theorem am_kE : ∀ a ∈ am_old1, ∀ j, j < (am_oll a).length → am_ckE a j = true := by
  intro a ha
  simp only [am_old1, List.mem_cons, List.not_mem_nil, or_false] at ha
  rcases ha with rfl | rfl | rfl | rfl | rfl | rfl | rfl | rfl | rfl | rfl
  · exact am_kE_1
  · exact am_kE_12
  · exact am_kE_13
  · exact am_kE_14
  · exact am_kE_15
  · exact am_kE_16
  · exact am_kE_17
  · exact am_kE_18
  · exact am_kE_19
  · exact am_kE_20
theorem am_kO : ∀ a ∈ am_old1, am_ckO a = true := by
  intro a ha
  simp only [am_old1, List.mem_cons, List.not_mem_nil, or_false] at ha
  rcases ha with rfl | rfl | rfl | rfl | rfl | rfl | rfl | rfl | rfl | rfl
  · exact am_kO_1
  · exact am_kO_12
  · exact am_kO_13
  · exact am_kO_14
  · exact am_kO_15
  · exact am_kO_16
  · exact am_kO_17
  · exact am_kO_18
  · exact am_kO_19
  · exact am_kO_20
def am_ckT (k : Nat) : Bool := decide (Cond.exactly (am_tst k) "java/lang/String" ∈ am_fl0) && decide (Cond.eq (.field (am_tst k) "java/lang/String" "coder" "B") (.int 0) ∈ am_fl0) && am_strl.any fun q => q.2.2.2 == k && decide (am_tst k = .string q.1 q.2.1) && decide (Cond.stringRef q.1 q.2.1 q.2.2.1 ∈ lw_tbl)
set_option maxRecDepth 100000 in
theorem am_kT : ∀ k ∈ [2, 3, 4, 5, 6, 7, 8], am_ckT k = true := by decide +kernel
set_option maxRecDepth 100000 in
theorem am_kT2 : ∀ q ∈ am_strl, q.2.2.2 ∈ [2, 3, 4, 5, 6, 7, 8] ∧ am_tst q.2.2.2 = .string q.1 q.2.1 ∧ Cond.stringRef q.1 q.2.1 q.2.2.1 ∈ lw_tbl := by decide +kernel
set_option maxRecDepth 100000 in
theorem am_kS1 : ∀ q ∈ am_stl, Cond.laysStatic q.2.1 q.2.2.1 q.2.2.2 ∈ lw_tbl ∧ Cond.initialized q.2.1 ∈ lw_tbl := by decide +kernel
set_option maxRecDepth 100000 in
theorem am_kS2 : Cond.eq (.static "java/lang/String" "COMPACT_STRINGS" "Z") (.int 1) ∈ am_fl0 ∧ Cond.isRef (.static "jdk/internal/util/Preconditions" "SIOOBE_FORMATTER" "Ljava/util/function/BiFunction;") ∈ am_fl0 ∧ Cond.isRef (.static "java/lang/Throwable" "UNASSIGNED_STACK" "[Ljava/lang/StackTraceElement;") ∈ am_fl0 ∧ Cond.isRef (.static "java/lang/Throwable" "SUPPRESSED_SENTINEL" "Ljava/util/List;") ∈ am_fl0 := by decide +kernel
set_option maxRecDepth 100000 in
theorem am_kS3 : Cond.laysStatic "java/lang/Throwable" "UNASSIGNED_STACK" "[Ljava/lang/StackTraceElement;" ∈ lw_tbl ∧ Cond.laysStatic "java/lang/Throwable" "SUPPRESSED_SENTINEL" "Ljava/util/List;" ∈ lw_tbl := by decide +kernel
set_option maxRecDepth 100000 in
theorem am_kX1 : (∀ x ∈ [(⟨"java/lang/RuntimeException", "<init>", "()V"⟩ : MethodName), ⟨"java/lang/Exception", "<init>", "()V"⟩, ⟨"java/lang/Throwable", "<init>", "()V"⟩], Cond.declares x ∈ lw_tbl) ∧ ∀ k, k < 3 → Cond.castable (am_xn k) (am_xn k) ∈ lw_tbl := by decide +kernel
set_option maxRecDepth 100000 in
theorem am_kX2 : ∀ j, j < 3 → ∀ k, k < 3 → j ≠ k → Cond.not (.castable (am_xn j) (am_xn k)) ∈ am_fl0 := by decide +kernel
set_option maxRecDepth 100000 in
theorem am_kW1 : Cond.arrayOver (.object "ModelSheet$Tree") ∈ lw_tbl ∧ Cond.arrayOver (.object "ModelSheet$Rule") ∈ lw_tbl ∧ Cond.arrayOver (.array .int) ∈ lw_tbl ∧ (∀ q ∈ am_nests, Cond.methodLinkNest q.1 q.2.1 q.2.2 "ModelSheet" ∈ lw_tbl) ∧ ∀ q ∈ am_spn, Cond.fieldLinkNest q.1 q.2 "ModelSheet" "SPAN" "[I" "ModelSheet" ∈ lw_tbl := by decide +kernel
set_option maxRecDepth 100000 in
theorem am_kW2 : ∀ M ∈ am_pvt, Cond.privateMethod (am_y M) ∈ lw_tbl ∧ Cond.instanceMethod (am_y M) ∈ lw_tbl ∧ (am_y M).cls = "java/lang/AbstractStringBuilder" := by decide +kernel
set_option maxRecDepth 100000 in
theorem am_kW3 : Cond.selects "java/lang/StringBuilder" ⟨"java/lang/AbstractStringBuilder", "isLatin1", "()Z"⟩ ⟨"java/lang/AbstractStringBuilder", "isLatin1", "()Z"⟩ ∈ lw_tbl := by decide +kernel
set_option maxRecDepth 100000 in
theorem am_kW4 : ∀ q, q < 13 → Cond.instantiable (am_cn q) (am_uN q) ∈ lw_tbl := by decide +kernel
