/-! The relation of a changed memory, part by part; a call of both sides. -/
def K_t : List Nat := [35, 36, 37, 38, 39, 40, 41, 42, 43, 44, 45, 46, 47, 48, 49, 50, 51, 52, 130, 131, 132, 133, 134]
def K_r : List Nat := [55, 56, 57, 58, 59, 60, 61, 62, 63, 64, 65, 66, 67, 68, 69, 70, 71, 72, 73, 74, 75, 76, 77, 78, 79, 80, 81, 82, 83, 84, 85, 86, 87, 88, 89, 90, 91, 92, 93, 94]
def K_p : List Nat := [53, 54, 139, 140, 130, 131] ++ K_r
def K_g : List Nat := [95, 97, 98, 99, 137, 138]
def K_f : List Nat := [54, 141, 142, 143, 144, 145, 146, 147] ++ K_r
def K_d : List Nat := [102, 103, 104, 148, 149, 130, 131]
def K_h : List Nat := [107, 109, 110, 111, 112, 113, 114, 115, 116, 117, 118, 119, 120, 121, 95, 97, 98, 99, 157, 158, 159, 160, 161, 162, 163]
section JM
variable {μ μ' : mm_M} {e m l c v r : Int}
theorem K_t_m : ∀ b, (35 ≤ b ∧ b ≤ 52) ∨ (130 ≤ b ∧ b ≤ 134) → b ∈ K_t := by
  intro b h
  rcases h with h | h
  · have : ∀ b, b < 53 → 35 ≤ b → b ∈ K_t := by decide
    exact this b (by omega) h.1
  · rcases (by omega : b = 130 ∨ b = 131 ∨ b = 132 ∨ b = 133 ∨ b = 134) with rfl | rfl | rfl | rfl | rfl <;> decide
theorem K_r_m : ∀ b, 55 ≤ b → b ≤ 94 → b ∈ K_r := by
  intro b h1 h2
  have : ∀ b, b < 95 → 55 ≤ b → b ∈ K_r := by decide
  exact this b (by omega) h1
theorem K_h_m : ∀ b, (109 ≤ b ∧ b ≤ 121) ∨ (97 ≤ b ∧ b ≤ 99) ∨ (157 ≤ b ∧ b ≤ 163) → b ∈ K_h := by
  intro b h
  rcases h with h | h | h
  · rcases (by omega : b = 109 ∨ b = 110 ∨ b = 111 ∨ b = 112 ∨ b = 113 ∨ b = 114 ∨ b = 115 ∨ b = 116 ∨ b = 117 ∨ b = 118 ∨ b = 119 ∨ b = 120 ∨ b = 121) with rfl | rfl | rfl | rfl | rfl | rfl | rfl | rfl | rfl | rfl | rfl | rfl | rfl <;> decide
  · rcases (by omega : b = 97 ∨ b = 98 ∨ b = 99) with rfl | rfl | rfl <;> decide
  · rcases (by omega : b = 157 ∨ b = 158 ∨ b = 159 ∨ b = 160 ∨ b = 161 ∨ b = 162 ∨ b = 163) with rfl | rfl | rfl | rfl | rfl | rfl | rfl <;> decide
theorem J_mk (L : List Nat) (F : List Int) (hb : ∀ b, b < 178 → b ≠ 129 → b ∉ L → μ' b = μ b) (h9 : ∀ j, j ∉ F → μ' 129 j = μ 129 j) (h : J μ)
    (t : (∀ b, b ∈ K_t → b ∉ L) ∨ J_t μ') (p : ((∀ b, b ∈ K_p → b ∉ L) ∧ (11 : Int) ∉ F) ∨ J_p μ') (g : (∀ b, b ∈ K_g → b ∉ L) ∨ J_g μ') (f : ((∀ b, b ∈ K_f → b ∉ L) ∧ (11 : Int) ∉ F) ∨ J_f μ') (u : 54 ∉ L ∨ J_u μ') (cu : (128 ∉ L ∧ 136 ∉ L) ∨ J_c μ') (d : (∀ b, b ∈ K_d → b ∉ L) ∨ J_d μ') (x : ((100 ∉ L ∧ 101 ∉ L ∧ 150 ∉ L) ∧ (23 : Int) ∉ F) ∨ J_x μ') (n : ((95 ∉ L ∧ 122 ∉ L) ∧ (8 : Int) ∉ F ∧ (65 : Int) ∉ F ∧ (64 : Int) ∉ F ∧ (46 : Int) ∉ F) ∨ J_n μ') (cf : (∀ b, b ∈ K_r → b ∉ L) ∨ cf_r μ') (o : 132 ∉ L ∨ (∀ j, 0 ≤ j → j < 18 → 0 ≤ μ' 132 j ∧ μ' 132 j ≤ 4)) (hh : ((∀ b, b ∈ K_h → b ∉ L) ∧ (37 : Int) ∉ F ∧ (38 : Int) ∉ F) ∨ J_h μ') : J μ' := by
  obtain ⟨j1, j2, j3, j4, j5, j6, j7, j8, j9, j10, j11, j12⟩ := h
  have rpe : 130 ∉ L → 131 ∉ L → ∀ e, rp μ' e = rp μ e := fun a b e => rp_c (hb 130 (by decide) (by decide) a) (hb 131 (by decide) (by decide) b)
  refine ⟨?_, ?_, ?_, ?_, ?_, ?_, ?_, ?_, ?_, ?_, ?_, ?_⟩
  · rcases t with t | t
    · exact J_t_c (fun b b1 b2 => hb b (by omega) (by omega) (t b (K_t_m b (Or.inl ⟨b1, b2⟩)))) (fun b b1 b2 => hb b (by omega) (by omega) (t b (K_t_m b (Or.inr ⟨b1, b2⟩)))) j1
    · exact t
  · rcases p with ⟨p, q⟩ | p
    · exact J_p_c (by rw [hb 53 (by decide) (by decide) (p 53 (by decide))]) (hb 54 (by decide) (by decide) (p 54 (by decide))) (fun b b1 b2 => hb b (by omega) (by omega) (p b (List.mem_append_right _ (K_r_m b b1 b2)))) (h9 11 q) (hb 139 (by decide) (by decide) (p 139 (by decide))) (hb 140 (by decide) (by decide) (p 140 (by decide))) (fun r e _ _ _ _ _ z => by rw [rpe (p 130 (by decide)) (p 131 (by decide))]; exact z) j2
    · exact p
  · rcases g with g | g
    · exact J_g_c (by rw [hb 95 (by decide) (by decide) (g 95 (by decide))]) (fun b b1 b2 => hb b (by omega) (by omega) (g b (by rcases (by omega : b = 97 ∨ b = 98 ∨ b = 99) with rfl | rfl | rfl <;> decide))) (hb 137 (by decide) (by decide) (g 137 (by decide))) (hb 138 (by decide) (by decide) (g 138 (by decide))) j3
    · exact g
  · rcases f with ⟨f, q⟩ | f
    · exact J_f_c (hb 54 (by decide) (by decide) (f 54 (by decide))) (fun b b1 b2 => hb b (by omega) (by omega) (f b (List.mem_append_right _ (K_r_m b b1 b2)))) (h9 11 q) (fun b b1 b2 => hb b (by omega) (by omega) (f b (by rcases (by omega : b = 141 ∨ b = 142 ∨ b = 143 ∨ b = 144 ∨ b = 145 ∨ b = 146 ∨ b = 147) with rfl | rfl | rfl | rfl | rfl | rfl | rfl <;> decide))) j4
    · exact f
  · rcases u with u | u
    · exact J_u_c (hb 54 (by decide) (by decide) u) j5
    · exact u
  · rcases cu with cu | cu
    · exact J_c_c (hb 128 (by decide) (by decide) cu.1) (hb 136 (by decide) (by decide) cu.2) j6
    · exact cu
  · rcases d with d | d
    · exact J_d_c (by rw [hb 102 (by decide) (by decide) (d 102 (by decide))]) (hb 103 (by decide) (by decide) (d 103 (by decide))) (hb 104 (by decide) (by decide) (d 104 (by decide))) (hb 148 (by decide) (by decide) (d 148 (by decide))) (hb 149 (by decide) (by decide) (d 149 (by decide))) (fun e _ _ _ z => by rw [rpe (d 130 (by decide)) (d 131 (by decide))]; exact z) j7
    · exact d
  · rcases x with ⟨x, q⟩ | x
    · exact J_x_c (h9 23 q) (by rw [hb 100 (by decide) (by decide) x.1]) (hb 101 (by decide) (by decide) x.2.1) (hb 150 (by decide) (by decide) x.2.2) j8
    · exact x
  · rcases n with ⟨n, q1, q2, q3, q4⟩ | n
    · exact J_n_c (h9 8 q1) (by rw [hb 95 (by decide) (by decide) n.1]) (h9 65 q2) (by rw [hb 122 (by decide) (by decide) n.2]) (h9 64 q3) (by rw [hb 122 (by decide) (by decide) n.2]) (by rw [h9 46 q4]; exact j9.2.2.2.2) j9
    · exact n
  · rcases cf with cf | cf
    · exact cf_r_c (fun b b1 b2 => hb b (by omega) (by omega) (cf b (K_r_m b b1 b2))) j10
    · exact cf
  · rcases o with o | o
    · rw [hb 132 (by decide) (by decide) o]; exact j11
    · exact o
  · rcases hh with ⟨q, q1, q2⟩ | hh
    · exact J_h_c (fun j _ _ => by rw [hb 107 (by decide) (by decide) (q 107 (by decide))]) (hb 121 (by decide) (by decide) (q 121 (by decide))) (fun b b1 b2 => hb b (by omega) (by omega) (q b (K_h_m b (Or.inl ⟨b1, by omega⟩)))) (by rw [hb 95 (by decide) (by decide) (q 95 (by decide))]) (fun b b1 b2 => hb b (by omega) (by omega) (q b (K_h_m b (Or.inr (Or.inl ⟨b1, b2⟩))))) (h9 37 q1) (h9 38 q2) (fun b b1 b2 => hb b (by omega) (by omega) (q b (K_h_m b (Or.inr (Or.inr ⟨b1, b2⟩))))) j12
    · exact hh
theorem J_th {k : Int} (h : J μ) : J (mm_u μ 129 0 k) := J_cg (fun b b1 b2 => mm_uu b2) (fun j hj => mm_un (by omega)) h
theorem J_o {k v : Int} (h : J μ) : J (mm_u μ 178 k v) := J_cg (fun b b1 b2 => mm_uu (by omega)) (fun j hj => by rw [mm_uu (by decide)]) h
theorem J_o9 {k v : Int} (h : J μ) : J (mm_u μ 179 k v) := J_cg (fun b b1 b2 => mm_uu (by omega)) (fun j hj => by rw [mm_uu (by decide)]) h
end JM
/-- the room that a call may take -/
def nr (n n1 : mm_N) : Prop := n.1 ≤ n1.1 ∧ n.2.1 ≤ n1.2.1 + 2 ∧ n.2.2 ≤ n1.2.2 + 20
def n0 (n : mm_N) : Prop := 180 ≤ n.1 ∧ 2 ≤ n.2.1 ∧ 20 ≤ n.2.2
/-- a call of both sides: the class's (by the law's wrapper, P1), which answers k (what was thrown), then the reference's (P2), which answers b -/
def PRI (w : mm_Z) (X : mm_X) (n : mm_N) (D P1 : Nat) (as1 : List Value) (P2 : Nat) (as2 : List Value) (μ : mm_M) : Prop :=
  ∀ Q1 : am_Ou → am_G → Prop, (∀ (k : Int) (μ1 : mm_M) (X1 : mm_X) (n1 : mm_N), nr n n1 → (∀ Q2 : am_Ou → am_G → Prop, (∀ (b : Int) (μ2 : mm_M), J μ2 → μ2 129 0 = k → (mm_w k = 0 → μ2 178 0 = mm_w b) → Q2 (.inl (some (.int (Int32.ofInt b)))) (mm_hp w μ2 X1 n1)) → am_C D P2 as2 (mm_hp w μ1 X1 n1) Q2) → Q1 (.inl (some (.int (Int32.ofInt k)))) (mm_hp w μ1 X1 n1)) → am_C D P1 as1 (mm_hp w μ X n) Q1
/-- the same, of a call without an answer -/
def PRV (w : mm_Z) (X : mm_X) (n : mm_N) (D P1 : Nat) (as1 : List Value) (P2 : Nat) (as2 : List Value) (μ : mm_M) : Prop :=
  ∀ Q1 : am_Ou → am_G → Prop, (∀ (k : Int) (μ1 : mm_M) (X1 : mm_X) (n1 : mm_N), nr n n1 → (∀ Q2 : am_Ou → am_G → Prop, (∀ (μ2 : mm_M), J μ2 → μ2 129 0 = k → Q2 (.inl none) (mm_hp w μ2 X1 n1)) → am_C D P2 as2 (mm_hp w μ1 X1 n1) Q2) → Q1 (.inl (some (.int (Int32.ofInt k)))) (mm_hp w μ1 X1 n1)) → am_C D P1 as1 (mm_hp w μ X n) Q1
section PR
variable {μ μ' : mm_M} {n : mm_N} {w : mm_Z}
theorem nr_r : nr n n := ⟨Nat.le_refl _, Nat.le_add_right _ _, Nat.le_add_right _ _⟩
theorem nr_t (h : n0 n) : nr n (mm_th n) := ⟨Nat.le_succ _, by show n.2.1 ≤ n.2.1 - 1 + 2; omega, by show n.2.2 ≤ n.2.2 - 6 + 20; omega⟩
theorem n0_6 (h : n0 n) : 1 ≤ n.2.1 ∧ 6 ≤ n.2.2 := ⟨by have := h.2.1; omega, by have := h.2.2; omega⟩
theorem mm_QP (h : mm_Q w) : mm_P w := fun b b1 b2 => h b b1 (by omega)
end PR
