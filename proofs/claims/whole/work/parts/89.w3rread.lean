/-! The reference's reader: the ends of units and of formulas. -/
def rd_bt : List rd_X → Prop
  | [] => False
  | x :: X => (X = [] → x.1 = 0) ∧ (X ≠ [] → rd_bt X)
/-- bounds of a context -/
def rd_xb (n : Nat) (x : rd_X) : Prop := (0 ≤ x.1 ∧ x.1 ≤ 3) ∧ (0 ≤ x.2.1 ∧ x.2.1 ≤ 3) ∧ (0 ≤ x.2.2.1 ∧ x.2.2.1 ≤ 100) ∧ (x.1 = 3 → (0 ≤ x.2.2.2.1 ∧ x.2.2.2.1 < n) ∧ (0 ≤ x.2.2.2.2 ∧ x.2.2.2.2 < n)) ∧ (x.1 = 2 → 0 ≤ x.2.2.2.1 ∧ x.2.2.2.1 < n)
section RR
variable {d : Nat} {Q : am_Ou → am_G → Prop} {w : mm_Z} {μ μ' μ0 : mm_M} {X : mm_X} {n : mm_N} {C C' : rd_C} {S S' : rd_S} {a b c o k e z R base least : Int} {L : List rd_X} {l : List Int} {x : rd_X} {q : rd_Q}
theorem rd_xb_m {i j : Nat} (h : rd_xb i x) (hij : i ≤ j) : rd_xb j x := by
  obtain ⟨h1, h2, h3, h4, h5⟩ := h
  exact ⟨h1, h2, h3, fun g => by have := h4 g; omega, fun g => by have := h5 g; omega⟩
theorem c_173_7 (hq : mm_P w) : ∀ (L : List rd_X), rd_cx μ L → rd_bt L → L.length ≤ 32 → (∀ x, x ∈ L → 0 ≤ x.1 ∧ x.1 ≤ 3) → (am_E d 173 Q (7, [some (.ref 129), some (.int (Int32.ofInt ((L.length : Int) - 1)))], [], mm_hp w μ X n) ↔ Q (.inl (some (.int (Int32.ofInt (rd_enc L))))) (mm_hp w μ X n)) := by
  intro L
  induction L with
  | nil => intro _ h; exact absurd h (fun z => z)
  | cons x L ih =>
    intro hc hb hl hk
    have hl' : (x :: L).length = L.length + 1 := List.length_cons
    have hx := hk x List.mem_cons_self
    have c1 := hc.1.1
    rw [hl', show ((L.length + 1 : Nat) : Int) - 1 = L.length by omega, b_173_7 hq, mm_wv (z := (L.length : Int)) (by omega) (by omega), mm_gd (by omega), c1]
    unfold rd_enc
    by_cases g : x.1 = 3
    · have hne : L ≠ [] := fun z => by have := hb.1 z; omega
      rw [if_pos (by rw [g]), if_pos g, show (L.length : Int) + -1 = L.length - 1 by omega]
      exact ih hc.2 (hb.2 hne) (by omega) (fun y hy => hk y (List.mem_cons_of_mem _ hy))
    · rw [if_neg (by rw [mm_eqx, mm_wv (by omega) (by omega), mm_wv (by omega) (by omega)]; exact g), if_neg g, mm_gd (by omega)]
theorem c_173 (hq : mm_P w) (hX : rd_RX μ L) (hb : rd_bt L) (hl : L.length ≤ 32) (hk : ∀ x, x ∈ L → 0 ≤ x.1 ∧ x.1 ≤ 3) : am_C (d + 1) 173 [.ref 129] (mm_hp w μ X n) Q ↔ Q (.inl (some (.int (Int32.ofInt (rd_enc L))))) (mm_hp w μ X n) := by
  rw [en_173, b_173_0 hq, hX.1]
  exact c_173_7 hq L hX.2 hb hl hk
theorem rd_enc_b (hk : ∀ x, x ∈ L → 0 ≤ x.1 ∧ x.1 ≤ 3) : 0 ≤ rd_enc L ∧ rd_enc L ≤ 3 := by
  induction L with
  | nil => exact ⟨Int.le_refl 0, show (0 : Int) ≤ 3 by decide⟩
  | cons x L ih =>
    unfold rd_enc
    split
    · exact ih (fun y hy => hk y (List.mem_cons_of_mem _ hy))
    · exact hk x List.mem_cons_self
theorem c_174_0 (hq : mm_P w) (h0 : 0 ≤ R ∧ R < 8) : ∀ (L : List rd_X) (l : List Int) (C : rd_C) (μ : mm_M) (e1 : Option Value), am_n2 e1 = true → μ 129 11 = R → rd_RC R μ C → rd_RL μ l → rd_RX μ L → rd_bt L → (∀ x, x ∈ L → rd_xb C.1 x) → C.1 + l.length ≤ 30 → L.length ≤ 32 → (∀ o, o ∈ l → 2 ≤ o ∧ o ≤ 5) →
    (∀ μ', rd_F1 R μ μ' → rd_RC R μ' (rd_ends L l C).2.2 → rd_RL μ' (rd_ends L l C).2.1 → rd_RX μ' (rd_ends L l C).1 → μ' 129 33 = μ 129 33 → Q (.inl none) (mm_hp w (μ') X n)) → am_E (d + 2) 174 Q (0, [some (.ref 129), e1], [], mm_hp w μ X n) := by
  intro L
  induction L with
  | nil => intro l C μ e1 _ _ _ _ _ h; exact absurd h (fun z => z)
  | cons x L ih =>
    intro l C μ e1 n1 hR hC hL hX hb hxb hlen hll hlo hQ
    have hl' : (x :: L).length = L.length + 1 := List.length_cons
    have h25 : μ 129 25 = (L.length : Int) + 1 := by rw [hX.1, hl']; rfl
    obtain ⟨⟨x1, x2, x3, x4, x5⟩, hX2⟩ := hX.2
    obtain ⟨b1, b2, b3, b4, b5⟩ := hxb x List.mem_cons_self
    rw [b_174_0 hq n1, h25, show (L.length : Int) + 1 - 1 = L.length by omega, mm_wv (z := (L.length : Int)) (by omega) (by omega), mm_gd (by omega), x1]
    unfold rd_ends at hQ
    by_cases g : x.1 = 3
    · rw [if_pos g] at hQ
      rw [if_pos (by rw [g])]
      have hne : L ≠ [] := fun z => by have := hb.1 z; omega
      obtain ⟨o1, o2⟩ := b4 g
      refine c_216 (R := R) (C := C) (l := l) (base := x.2.2.1) (d := d) hq h0 (Or.inl rfl) hR hC hL hlen (by omega) (by rw [h25, show (L.length : Int) + 1 - 1 = L.length by omega]; exact x3) b3 hlo fun μ1 f1 f2 f3 f4 f5 => ?_
      have hpb := rd_pour_b (least := 1) (base := x.2.2.1) l C
      revert f2 f3 hpb hQ
      generalize rd_pour 1 x.2.2.1 l C = pr
      intro hQ f2 f3 hpb
      have g25 : μ1 129 25 = (L.length : Int) + 1 := by rw [f4, h25]
      have g11 : μ1 129 11 = R := by rw [f1 129 11 (by omega)]; exact hR
      have g41 : μ1 141 R = pr.2.1 := f2.1
      have g54 : μ1 154 L.length = x.2.2.2.1 := by rw [f1 154 _ (by omega)]; exact x4
      have g55 : μ1 155 L.length = x.2.2.2.2 := by rw [f1 155 _ (by omega)]; exact x5
      rw [bk_n, b_174_20 hq n1, g11]
      simp (disch := omega) only [and_self, true_and, mm_ltx, mm_lex, mm_eqx, mm_wv, mm_gd, ↓reduceIte, Int.reduceAdd, Int.reduceSub, Int.reduceNeg, Int.reduceLE, Int.reduceLT, Int.reduceMul, Int.reduceEq, mm_uu (show (129 : Nat) ≠ 143 by decide), mm_uu (show (129 : Nat) ≠ 144 by decide), mm_uu (show (155 : Nat) ≠ 143 by decide), mm_uu (show (141 : Nat) ≠ 143 by decide), g11, g25, g41, show (L.length : Int) + 1 - 1 = L.length from by omega, g54, g55]
      have r1 := rd_RC_a (i := x.2.2.2.1) (v := (pr.2.1 : Int)) f2 (by omega)
      have r2 := rd_RC_b (i := x.2.2.2.2) (v := (pr.2.1 : Int)) r1 (by omega)
      have r3 := rd_RC_9 (j := 25) (v := (L.length : Int)) r2
      have hF : rd_F1 R μ (mm_u (mm_u (mm_u μ1 143 (64 * R + x.2.2.2.1) pr.2.1) 144 (64 * R + x.2.2.2.2) pr.2.1) 129 25 L.length) := rd_F1_u (rd_F1_u (rd_F1_u f1 (by omega)) (by omega)) (by omega)
      have e31 : mm_u (mm_u (mm_u μ1 143 (64 * R + x.2.2.2.1) pr.2.1) 144 (64 * R + x.2.2.2.2) pr.2.1) 129 25 L.length 129 31 = μ1 129 31 := by rw [mm_un (by decide), mm_uu (by decide), mm_uu (by decide)]
      have e33 : mm_u (mm_u (mm_u μ1 143 (64 * R + x.2.2.2.1) pr.2.1) 144 (64 * R + x.2.2.2.2) pr.2.1) 129 25 L.length 129 33 = μ1 129 33 := by rw [mm_un (by decide), mm_uu (by decide), mm_uu (by decide)]
      refine ih pr.1 (rd_pb (rd_pa pr.2 x.2.2.2.1 pr.2.1) x.2.2.2.2 pr.2.1) _ _ rfl (by rw [hF 129 11 (by omega)]; exact hR) r3 ⟨by rw [e31]; exact f3.1, rd_os_f (fun j _ _ => by rw [mm_uu (by decide), mm_uu (by decide), mm_uu (by decide)]) f3.2⟩ ⟨mm_us, rd_F1_cx hF hX2⟩ (hb.2 hne) (fun y hy => rd_xb_m (hxb y (List.mem_cons_of_mem _ hy)) hpb.1) (by show pr.2.1 + pr.1.length ≤ 30; omega) (by omega) (fun o ho => hlo o (hpb.2.2 o ho)) fun μ' k1 k2 k3 k4 k5 => hQ μ' (rd_F1_t hF k1) k2 k3 k4 (by rw [k5, e33, f5])
    · rw [if_neg g] at hQ
      rw [if_neg (by rw [mm_eqx, mm_wv (by omega) (by omega), mm_wv (by omega) (by omega)]; exact g)]
      exact hQ μ rd_F1_r hC hL hX rfl
theorem c_174 (hq : mm_P w) (h0 : 0 ≤ R ∧ R < 8) (hR : μ 129 11 = R) (hC : rd_RC R μ C) (hL : rd_RL μ l) (hX : rd_RX μ L) (hb : rd_bt L) (hxb : ∀ x, x ∈ L → rd_xb C.1 x) (hlen : C.1 + l.length ≤ 30) (hll : L.length ≤ 32) (hlo : ∀ o, o ∈ l → 2 ≤ o ∧ o ≤ 5)
    (hQ : ∀ μ', rd_F1 R μ μ' → rd_RC R μ' (rd_ends L l C).2.2 → rd_RL μ' (rd_ends L l C).2.1 → rd_RX μ' (rd_ends L l C).1 → μ' 129 33 = μ 129 33 → Q (.inl none) (mm_hp w (μ') X n)) : am_C (d + 3) 174 [.ref 129] (mm_hp w μ X n) Q := by
  rw [en_174 (d := d + 2)]
  exact c_174_0 hq h0 L l C μ none rfl hR hC hL hX hb hxb hlen hll hlo hQ
/-- the part of a unit that is read -/
def rd_RQ (μ : mm_M) (q : rd_Q) : Prop := μ 129 33 = q.1 ∧ (0 ≤ q.1 ∧ q.1 ≤ 4) ∧ (q.1 = 1 → μ 129 34 = q.2.1 ∧ μ 129 35 = q.2.2.1 ∧ (1 ≤ q.2.1 ∧ q.2.1 ≤ 5)) ∧ (q.1 = 2 ∨ q.1 = 3 → μ 129 36 = q.2.2.2.1)
theorem c_175 (hq : mm_P w) (h0 : 0 ≤ R ∧ R < 8) (hR : μ 129 11 = R) (hC : rd_RC R μ C) (hS : μ 145 R = S.1) (hQq : rd_RQ μ q) (hlen : C.1 ≤ 30)
    (hQ : ∀ μ', rd_F1 R μ μ' → rd_RC R μ' (rd_unit q C S) → μ' 129 25 = μ 129 25 → μ' 129 31 = μ 129 31 → μ' 129 33 = 4 → Q (.inl none) (mm_hp w (μ') X n)) : am_C (d + 2) 175 [.ref 129] (mm_hp w μ X n) Q := by
  obtain ⟨q1, q2, q3, q4⟩ := hQq
  have h41 := hC.1
  rw [en_175 (d := d + 1), b_175_0 hq, q1]
  unfold rd_unit at hQ
  by_cases g1 : q.1 = 1
  · rw [if_pos g1] at hQ
    rw [if_pos (by rw [g1]), (q3 g1).2.1, c_172 (R := R) (d := d) hq hR h0 (by rw [h41]; omega), bk_v, b_175_18 hq, b_175_54 hq rfl]
    have hF := rd_em_F (R := R) (μ := μ) (o := 0) (a := q.2.2.1) (b := 0) rd_F1_r (by rw [h41]; omega)
    exact hQ _ (rd_F1_u hF (by omega)) (rd_RC_9 (rd_em_C hC)) (by rw [mm_un (by decide), rd_em_25]) (by rw [mm_un (by decide), rd_em_25]) mm_us
  · rw [if_neg g1] at hQ
    rw [if_neg (by rw [mm_eqx, mm_wv (by omega) (by omega), mm_wv (by omega) (by omega)]; exact g1)]
    by_cases g3 : q.1 = 3
    · rw [if_pos g3] at hQ
      rw [if_pos (by rw [g3]), hR, mm_wv (z := R) (by omega) (by omega), mm_gd (by omega), q4 (Or.inr g3), hS, c_172 (R := R) (d := d) hq hR h0 (by rw [h41]; omega), bk_v, b_175_53 hq, b_175_54 hq rfl]
      have hF := rd_em_F (R := R) (μ := μ) (o := 1) (a := q.2.2.2.1) (b := (S.1 : Int) - q.2.2.2.1) rd_F1_r (by rw [h41]; omega)
      exact hQ _ (rd_F1_u hF (by omega)) (rd_RC_9 (rd_em_C hC)) (by rw [mm_un (by decide), rd_em_25]) (by rw [mm_un (by decide), rd_em_25]) mm_us
    · rw [if_neg g3] at hQ
      rw [if_neg (by rw [mm_eqx, mm_wv (by omega) (by omega), mm_wv (by omega) (by omega)]; exact g3), b_175_54 hq rfl]
      exact hQ _ (rd_F1_u rd_F1_r (by omega)) (rd_RC_9 hC) (by rw [mm_un (by decide)]) (by rw [mm_un (by decide)]) mm_us
/-- a context is opened -/
def rd_opn (μ : mm_M) (k e o : Int) : mm_M := mm_u (mm_u (mm_u (mm_u (mm_u (mm_u μ 151 (μ 129 25) k) 152 (μ 129 25) e) 153 (μ 129 25) (μ 129 31)) 154 (μ 129 25) o) 155 (μ 129 25) (-1)) 129 25 (μ 129 25 + 1)
theorem c_211 (hq : mm_P w) (h : 0 ≤ μ 129 25 ∧ μ 129 25 < 32) : am_C (d + 1) 211 [.ref 129, .int (Int32.ofInt (k)), .int (Int32.ofInt (e)), .int (Int32.ofInt (o))] (mm_hp w μ X n) Q ↔ Q (.inl none) (mm_hp w (rd_opn μ k e o) X n) := by
  rw [en_211, b_211_0 hq]
  simp (disch := omega) only [and_self, true_and, mm_ltx, mm_lex, mm_eqx, mm_wv, mm_gd, ↓reduceIte, Int.reduceAdd, Int.reduceSub, Int.reduceNeg, Int.reduceLE, Int.reduceLT, Int.reduceMul, Int.reduceEq, mm_uu (show (129 : Nat) ≠ 151 by decide), mm_uu (show (129 : Nat) ≠ 152 by decide), mm_uu (show (129 : Nat) ≠ 153 by decide), mm_uu (show (129 : Nat) ≠ 154 by decide), mm_uu (show (129 : Nat) ≠ 155 by decide)]
  rfl
theorem rd_opn_X (h : rd_RX μ L) : rd_RX (rd_opn μ k e o) ((k, e, μ 129 31, o, -1) :: L) := by
  unfold rd_opn
  rw [h.1]
  refine ⟨by rw [mm_us]; simp, ⟨?_, ?_, ?_, ?_, ?_⟩, rd_cx_f (fun a j a1 a2 j1 j2 => ?_) h.2⟩
  · rw [mm_uu (by decide), mm_uu (by decide), mm_uu (by decide), mm_uu (by decide), mm_uu (by decide), mm_us]
  · rw [mm_uu (by decide), mm_uu (by decide), mm_uu (by decide), mm_uu (by decide), mm_us]
  · rw [mm_uu (by decide), mm_uu (by decide), mm_uu (by decide), mm_us]
  · rw [mm_uu (by decide), mm_uu (by decide), mm_us]
  · rw [mm_uu (by decide), mm_us]
  · rw [mm_ux, if_neg (by omega), mm_ux, if_neg (by omega), mm_ux, if_neg (by omega), mm_ux, if_neg (by omega), mm_ux, if_neg (by omega), mm_ux, if_neg (by omega)]
theorem rd_opn_o {a : Nat} (h : a < 151 ∨ 155 < a) (h2 : a ≠ 129) : rd_opn μ k e o a = μ a := by
  unfold rd_opn
  rw [mm_uu h2, mm_uu (by omega), mm_uu (by omega), mm_uu (by omega), mm_uu (by omega), mm_uu (by omega)]
theorem rd_opn_9 {j : Int} (h : j ≠ 25) : rd_opn μ k e o 129 j = μ 129 j := by
  unfold rd_opn
  rw [mm_un h, mm_uu (by decide), mm_uu (by decide), mm_uu (by decide), mm_uu (by decide), mm_uu (by decide)]
end RR
