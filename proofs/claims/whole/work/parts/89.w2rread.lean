/-! The reference's reader: what its memory holds; small steps. -/
def rd_cx (μ : mm_M) : List rd_X → Prop
  | [] => True
  | x :: X => (μ 151 X.length = x.1 ∧ μ 152 X.length = x.2.1 ∧ μ 153 X.length = x.2.2.1 ∧ μ 154 X.length = x.2.2.2.1 ∧ μ 155 X.length = x.2.2.2.2) ∧ rd_cx μ X
def rd_os (v : Int → Int) : List Int → Prop
  | [] => True
  | o :: l => v l.length = o ∧ rd_os v l
def rd_RC (R : Int) (μ : mm_M) (C : rd_C) : Prop := μ 141 R = C.1 ∧ ∀ i : Nat, i < C.1 → μ 142 (64 * R + i) = (C.2 i).1 ∧ μ 143 (64 * R + i) = (C.2 i).2.1 ∧ μ 144 (64 * R + i) = (C.2 i).2.2
def rd_RX (μ : mm_M) (X : List rd_X) : Prop := μ 129 25 = X.length ∧ rd_cx μ X
def rd_RL (μ : mm_M) (l : List Int) : Prop := μ 129 31 = l.length ∧ rd_os (μ 156) l
def rd_RS (R : Int) (μ : mm_M) (S : rd_S) : Prop := μ 145 R = S.1 ∧ ∀ j : Nat, j < S.1 → μ 146 (24 * R + j) = (S.2 j).1 ∧ μ 147 (24 * R + j) = sgd (S.2 j).2
/-- what ends of units and of formulas may change -/
def rd_F1 (R : Int) (μ μ' : mm_M) : Prop := ∀ (a : Nat) (j : Int), ¬ ((a = 129 ∧ (j = 25 ∨ j = 31 ∨ j = 33)) ∨ (a = 141 ∧ j = R) ∨ ((a = 142 ∨ a = 143 ∨ a = 144) ∧ 64 * R ≤ j ∧ j < 64 * R + 64)) → μ' a j = μ a j
section RR
variable {d : Nat} {Q : am_Ou → am_G → Prop} {w : mm_Z} {μ μ' μ0 : mm_M} {X : mm_X} {n : mm_N} {C C' : rd_C} {S S' : rd_S} {a b c o k e z R base least : Int} {L : List rd_X} {l : List Int} {x : rd_X} {q : rd_Q}
theorem rd_F1_r : rd_F1 R μ μ := fun _ _ _ => rfl
theorem rd_F1_t {μ1 μ2 μ3 : mm_M} (h1 : rd_F1 R μ1 μ2) (h2 : rd_F1 R μ2 μ3) : rd_F1 R μ1 μ3 := fun a j h => by rw [h2 a j h, h1 a j h]
theorem rd_F1_u {a : Nat} {i v : Int} (h : rd_F1 R μ μ') (ha : (a = 129 ∧ (i = 25 ∨ i = 31 ∨ i = 33)) ∨ (a = 141 ∧ i = R) ∨ ((a = 142 ∨ a = 143 ∨ a = 144) ∧ 64 * R ≤ i ∧ i < 64 * R + 64)) : rd_F1 R μ (mm_u μ' a i v) := fun b j hb => by
  rw [mm_ux, if_neg (fun z => by rw [z.1, z.2] at hb; exact hb ha), h b j hb]
theorem rd_cx_f (h : ∀ a j, 151 ≤ a → a ≤ 155 → 0 ≤ j → j < L.length → μ' a j = μ a j) (hc : rd_cx μ L) : rd_cx μ' L := by
  induction L with
  | nil => trivial
  | cons x L ih =>
    obtain ⟨⟨c1, c2, c3, c4, c5⟩, h2⟩ := hc
    have hl : ((x :: L).length : Int) = L.length + 1 := by simp
    refine ⟨?_, ih (fun a j a1 a2 j1 j2 => h a j a1 a2 j1 (by omega)) h2⟩
    rw [h 151 _ (by decide) (by decide) (by omega) (by omega), h 152 _ (by decide) (by decide) (by omega) (by omega), h 153 _ (by decide) (by decide) (by omega) (by omega), h 154 _ (by decide) (by decide) (by omega) (by omega), h 155 _ (by decide) (by decide) (by omega) (by omega)]
    exact ⟨c1, c2, c3, c4, c5⟩
theorem rd_os_f {v v' : Int → Int} (h : ∀ j, 0 ≤ j → j < l.length → v' j = v j) (hc : rd_os v l) : rd_os v' l := by
  induction l with
  | nil => trivial
  | cons o l ih =>
    have hl : ((o :: l).length : Int) = l.length + 1 := by simp
    exact ⟨by rw [h _ (by omega) (by omega)]; exact hc.1, ih (fun j j1 j2 => h j j1 (by omega)) hc.2⟩
theorem rd_F1_cx (h : rd_F1 R μ μ') (hc : rd_cx μ L) : rd_cx μ' L := rd_cx_f (fun a j a1 a2 _ _ => h a j (by omega)) hc
theorem rd_F1_os (h : rd_F1 R μ μ') (hc : rd_os (μ 156) l) : rd_os (μ' 156) l := rd_os_f (fun j _ _ => h 156 j (by omega)) hc
theorem rd_F1_RS (h : rd_F1 R μ μ') (hc : rd_RS R μ S) : rd_RS R μ' S := by
  refine ⟨by rw [h 145 _ (by omega)]; exact hc.1, fun j hj => ?_⟩
  rw [h 146 _ (by omega), h 147 _ (by omega)]
  exact hc.2 j hj
/-- an order put behind the rule's others -/
def rd_em (R : Int) (μ : mm_M) (o a b : Int) : mm_M := mm_u (mm_u (mm_u (mm_u μ 142 (64 * R + μ 141 R) o) 143 (64 * R + μ 141 R) a) 144 (64 * R + μ 141 R) b) 141 R (μ 141 R + 1)
theorem c_172 (hq : mm_P w) (hR : μ 129 11 = R) (h0 : 0 ≤ R ∧ R < 8) (h1 : 0 ≤ μ 141 R ∧ μ 141 R < 64) : am_C (d + 1) 172 [.ref 129, .int (Int32.ofInt (o)), .int (Int32.ofInt (a)), .int (Int32.ofInt (b))] (mm_hp w μ X n) Q ↔ Q (.inl (some (.int (Int32.ofInt (μ 141 R))))) (mm_hp w (rd_em R μ o a b) X n) := by
  rw [en_172, b_172_0 hq]
  simp (disch := omega) only [and_self, true_and, mm_ltx, mm_lex, mm_eqx, mm_wv, mm_gd, ↓reduceIte, Int.reduceAdd, Int.reduceSub, Int.reduceNeg, Int.reduceLE, Int.reduceLT, Int.reduceMul, Int.reduceEq, mm_uu (show (129 : Nat) ≠ 142 by decide), mm_uu (show (129 : Nat) ≠ 143 by decide), mm_uu (show (129 : Nat) ≠ 144 by decide), mm_uu (show (129 : Nat) ≠ 141 by decide), mm_uu (show (141 : Nat) ≠ 142 by decide), mm_uu (show (141 : Nat) ≠ 143 by decide), mm_uu (show (141 : Nat) ≠ 144 by decide), hR, mm_us]
  rw [show μ 141 R + 1 - 1 = μ 141 R by omega]
  rfl
theorem rd_em_F (h : rd_F1 R μ μ') (h1 : 0 ≤ μ' 141 R ∧ μ' 141 R < 64) : rd_F1 R μ (rd_em R μ' o a b) := by
  unfold rd_em
  exact rd_F1_u (rd_F1_u (rd_F1_u (rd_F1_u h (by omega)) (by omega)) (by omega)) (by omega)
theorem rd_em_C (h : rd_RC R μ C) : rd_RC R (rd_em R μ o a b) (rd_emit C o a b) := by
  unfold rd_em
  rw [h.1]
  refine ⟨by rw [mm_us]; rfl, fun i hi => ?_⟩
  have hi : i < C.1 + 1 := hi
  rw [mm_uu (show (142 : Nat) ≠ 141 by decide), mm_uu (show (143 : Nat) ≠ 141 by decide), mm_uu (show (144 : Nat) ≠ 141 by decide), mm_uu (show (142 : Nat) ≠ 144 by decide), mm_uu (show (142 : Nat) ≠ 143 by decide), mm_uu (show (143 : Nat) ≠ 144 by decide)]
  by_cases g : i = C.1
  · subst g
    rw [mm_us, mm_us, mm_us, rd_emit_at]
    exact ⟨rfl, rfl, rfl⟩
  · rw [mm_un (by omega), mm_un (by omega), mm_un (by omega), rd_emit_lt (by omega), mm_uu (by decide), mm_uu (by decide), mm_uu (by decide)]
    exact h.2 i (by omega)
theorem rd_em_25 {j : Int} : rd_em R μ o a b 129 j = μ 129 j := by
  unfold rd_em
  rw [mm_uu (by decide), mm_uu (by decide), mm_uu (by decide), mm_uu (by decide)]
theorem rd_RC_a {i v : Int} (h : rd_RC R μ C) (hi : 0 ≤ i) : rd_RC R (mm_u μ 143 (64 * R + i) v) (rd_pa C i v) := by
  refine ⟨by rw [mm_uu (by decide)]; exact h.1, fun j hj => ?_⟩
  have hj : j < C.1 := hj
  have := h.2 j hj
  rw [mm_uu (show (142 : Nat) ≠ 143 by decide), mm_uu (show (144 : Nat) ≠ 143 by decide)]
  by_cases g : (j : Int) = i
  · subst g; rw [mm_us, rd_pa_at]; exact ⟨this.1, rfl, this.2.2⟩
  · rw [mm_un (by omega), rd_pa_lt g]; exact this
theorem rd_RC_b {i v : Int} (h : rd_RC R μ C) (hi : 0 ≤ i) : rd_RC R (mm_u μ 144 (64 * R + i) v) (rd_pb C i v) := by
  refine ⟨by rw [mm_uu (by decide)]; exact h.1, fun j hj => ?_⟩
  have hj : j < C.1 := hj
  have := h.2 j hj
  rw [mm_uu (show (142 : Nat) ≠ 144 by decide), mm_uu (show (143 : Nat) ≠ 144 by decide)]
  by_cases g : (j : Int) = i
  · subst g; rw [mm_us, rd_pb_at]; exact ⟨this.1, this.2.1, rfl⟩
  · rw [mm_un (by omega), rd_pb_lt g]; exact this
theorem rd_RC_9 {j v : Int} (h : rd_RC R μ C) : rd_RC R (mm_u μ 129 j v) C := by
  unfold rd_RC
  rw [mm_uu (by decide), mm_uu (by decide), mm_uu (by decide), mm_uu (by decide)]
  exact h
theorem c_219 (hq : mm_P w) (ho : 2 ≤ o ∧ o ≤ 5) : am_C (d + 1) 219 [.int (Int32.ofInt (o))] (mm_hp w μ X n) Q ↔ Q (.inl (some (.int (Int32.ofInt (rd_rk o))))) (mm_hp w μ X n) := by
  rw [en_219, b_219_0 hq]
  unfold rd_rk
  by_cases g : o < 4
  · simp (disch := omega) only [and_self, true_and, mm_ltx, mm_lex, mm_eqx, mm_wv, mm_gd, ↓reduceIte, Int.reduceAdd, Int.reduceSub, Int.reduceNeg, Int.reduceLE, Int.reduceLT, Int.reduceMul, Int.reduceEq, if_pos, if_neg]
  · simp (disch := omega) only [and_self, true_and, mm_ltx, mm_lex, mm_eqx, mm_wv, mm_gd, ↓reduceIte, Int.reduceAdd, Int.reduceSub, Int.reduceNeg, Int.reduceLE, Int.reduceLT, Int.reduceMul, Int.reduceEq, if_pos, if_neg]
theorem rd_pour_b : ∀ (l : List Int) (C : rd_C), C.1 ≤ (rd_pour least base l C).2.1 ∧ (rd_pour least base l C).2.1 + (rd_pour least base l C).1.length = C.1 + l.length ∧ (∀ o, o ∈ (rd_pour least base l C).1 → o ∈ l) := by
  intro l
  induction l with
  | nil => intro C; exact ⟨Nat.le_refl _, rfl, fun _ h => h⟩
  | cons o l ih =>
    intro C
    unfold rd_pour
    by_cases g : base < (l.length : Int) + 1 ∧ least ≤ rd_rk o
    · rw [if_pos g]
      obtain ⟨i1, i2, i3⟩ := ih (rd_emit C o 0 0)
      have e : (rd_emit C o 0 0).1 = C.1 + 1 := rfl
      rw [e] at i1 i2
      exact ⟨by omega, by rw [i2, List.length_cons]; omega, fun o' h => List.mem_cons_of_mem _ (i3 o' h)⟩
    · rw [if_neg g]
      exact ⟨Nat.le_refl _, rfl, fun _ h => h⟩
theorem c_216_0 (hq : mm_P w) (h0 : 0 ≤ R ∧ R < 8) (hle : least = 1 ∨ least = 2) : ∀ (l : List Int) (C : rd_C) (μ : mm_M) (e2 : Option Value), am_n2 e2 = true → μ 129 11 = R → rd_RC R μ C → rd_RL μ l → C.1 + l.length ≤ 30 → (1 ≤ μ 129 25 ∧ μ 129 25 ≤ 32) → μ 153 (μ 129 25 - 1) = base → (0 ≤ base ∧ base ≤ 100) → (∀ o, o ∈ l → 2 ≤ o ∧ o ≤ 5) →
    (∀ μ', rd_F1 R μ μ' → rd_RC R μ' (rd_pour least base l C).2 → rd_RL μ' (rd_pour least base l C).1 → μ' 129 25 = μ 129 25 → μ' 129 33 = μ 129 33 → Q (.inl none) (mm_hp w (μ') X n)) → am_E (d + 1) 216 Q (0, [some (.ref 129), some (.int (Int32.ofInt (least))), e2], [], mm_hp w μ X n) := by
  intro l
  induction l with
  | nil =>
    intro C μ e2 n2 hR hC hL hb h25 hba hbb hl hQ
    have h31 : μ 129 31 = 0 := hL.1
    rw [b_216_0 hq n2, mm_wv (z := μ 129 25 - 1) (by omega) (by omega), mm_gd (by omega), hba, if_pos (by rw [mm_lex, mm_wv (by omega) (by omega), mm_wv (by omega) (by omega)]; omega)]
    exact hQ μ rd_F1_r hC hL rfl rfl
  | cons o l ih =>
    intro C μ e2 n2 hR hC hL hb h25 hba hbb hl hQ
    have h31 : μ 129 31 = l.length + 1 := by rw [hL.1]; simp
    have hb' : C.1 + l.length + 1 ≤ 30 := by rw [List.length_cons] at hb; omega
    have hob := hl o List.mem_cons_self
    have h56 : μ 156 l.length = o := hL.2.1
    have hrk := @rd_rk_b o
    rw [b_216_0 hq n2, mm_wv (z := μ 129 25 - 1) (by omega) (by omega), mm_gd (by omega), hba, h31]
    unfold rd_pour at hQ
    by_cases g : base < (l.length : Int) + 1
    · rw [if_neg (by rw [mm_lex, mm_wv (by omega) (by omega), mm_wv (by omega) (by omega)]; omega), mm_wv (z := (l.length : Int) + 1 - 1) (by omega) (by omega), mm_gd (by omega), show (l.length : Int) + 1 - 1 = l.length by omega, h56, c_219 (d := d) hq hob, bk_v, b_216_32 hq n2]
      by_cases g2 : least ≤ rd_rk o
      · rw [if_pos ⟨g, g2⟩] at hQ
        rw [if_neg (by rw [mm_ltx, mm_wv (by omega) (by omega), mm_wv (by omega) (by omega)]; omega), mm_us, h31, show (l.length : Int) + 1 - 1 = l.length by omega, mm_uu (show (156 : Nat) ≠ 129 by decide), mm_wv (z := (l.length : Int)) (by omega) (by omega), mm_gd (by omega), h56]
        have hC1 : rd_RC R (mm_u μ 129 31 l.length) C := rd_RC_9 hC
        have h41 : mm_u μ 129 31 l.length 141 R = C.1 := hC1.1
        rw [c_172 (R := R) (d := d) hq (by rw [mm_un (by decide)]; exact hR) h0 (by rw [h41]; omega), bk_v, b_216_61 hq n2]
        have hF : rd_F1 R μ (rd_em R (mm_u μ 129 31 l.length) o 0 0) := rd_em_F (rd_F1_u rd_F1_r (by omega)) (by rw [h41]; omega)
        refine ih (rd_emit C o 0 0) _ _ rfl (by rw [hF 129 11 (by omega)]; exact hR) (rd_em_C hC1) ⟨by rw [rd_em_25, mm_us], rd_F1_os hF hL.2.2⟩ (by show C.1 + 1 + l.length ≤ 30; omega) (by rw [rd_em_25, mm_un (by decide)]; exact h25) (by rw [rd_em_25, mm_un (by decide), hF 153 _ (by omega)]; exact hba) hbb (fun o' h => hl o' (List.mem_cons_of_mem _ h)) fun μ' f1 f2 f3 f4 f5 => hQ μ' (rd_F1_t hF f1) f2 f3 (by rw [f4, rd_em_25, mm_un (by decide)]) (by rw [f5, rd_em_25, mm_un (by decide)])
      · rw [if_neg (fun z => g2 z.2)] at hQ
        rw [if_pos (by rw [mm_ltx, mm_wv (by omega) (by omega), mm_wv (by omega) (by omega)]; omega)]
        exact hQ μ rd_F1_r hC hL rfl rfl
    · rw [if_neg (fun z => g z.1)] at hQ
      rw [if_pos (by rw [mm_lex, mm_wv (by omega) (by omega), mm_wv (by omega) (by omega)]; omega)]
      exact hQ μ rd_F1_r hC hL rfl rfl
theorem c_216 (hq : mm_P w) (h0 : 0 ≤ R ∧ R < 8) (hle : least = 1 ∨ least = 2) (hR : μ 129 11 = R) (hC : rd_RC R μ C) (hL : rd_RL μ l) (hb : C.1 + l.length ≤ 30) (h25 : 1 ≤ μ 129 25 ∧ μ 129 25 ≤ 32) (hba : μ 153 (μ 129 25 - 1) = base) (hbb : 0 ≤ base ∧ base ≤ 100) (hl : ∀ o, o ∈ l → 2 ≤ o ∧ o ≤ 5)
    (hQ : ∀ μ', rd_F1 R μ μ' → rd_RC R μ' (rd_pour least base l C).2 → rd_RL μ' (rd_pour least base l C).1 → μ' 129 25 = μ 129 25 → μ' 129 33 = μ 129 33 → Q (.inl none) (mm_hp w (μ') X n)) : am_C (d + 2) 216 [.ref 129, .int (Int32.ofInt (least))] (mm_hp w μ X n) Q := by
  rw [en_216 (d := d + 1)]
  exact c_216_0 hq h0 hle l C μ none rfl hR hC hL hb h25 hba hbb hl hQ
end RR
