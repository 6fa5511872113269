/-! The class works a cell out, whole. -/
/-- in the midst of a formula -/
def ce_r (μ μ1 : mm_M) (base t : Int) : Prop := ce_s μ μ1 ∧ μ1 123 = μ 123 ∧ (∀ k, k ≠ 5 → k ≠ 7 → μ1 122 k = μ 122 k) ∧ μ1 122 7 = t ∧ ∀ j, j < base → μ1 124 j = μ 124 j
section CK
variable {d : Nat} {Q : am_Ou → am_G → Prop} {w : mm_Z} {μ μ1 μ2 : mm_M} {X : mm_X} {n : mm_N} {c e m r t t1 v base : Int} {N : ev_N} {G : Int → Prop} {P : List Int}
theorem ce_ss_c {v v' : Int → Int} : ∀ (st : List ev_K), ce_ss v base st → (∀ j, base ≤ j → j < base + st.length → v' j = v j) → ce_ss v' base st := by
  intro st
  induction st with
  | nil => intro _ _; exact trivial
  | cons x st ih =>
    intro h hv
    exact ⟨by rw [hv _ (by omega) (by rw [List.length_cons]; omega)]; exact h.1, ih h.2 (fun j h0 h1 => hv j h0 (by rw [List.length_cons]; omega))⟩
theorem ce_m_r (h : ce_m μ N G P t) (h1 : ce_r μ μ1 base t1) (ht : 0 ≤ t1 ∧ t1 ≤ nv_fu N) (h5 : 0 ≤ μ1 122 5) : ce_m μ1 N G P t1 := by
  obtain ⟨m1, m2, m3, m4, m5, m6⟩ := h
  obtain ⟨a1, a2, a3, a4, a5⟩ := h1
  exact ⟨ce_e_t m1 a1 (a3 6 (by decide) (by decide)), by rw [a2]; exact m2, a4, ht, by rw [a3 8 (by decide) (by decide)]; exact m5, h5⟩
theorem ce_r_a (h1 : ce_r μ μ1 base t) (h2 : ce_a μ1 μ2 t1) (h5 : base ≤ μ1 122 5) : ce_r μ μ2 base t1 := by
  obtain ⟨a1, a2, a3, a4, a5⟩ := h1
  obtain ⟨b1, b2, b3, b4, b5⟩ := h2
  exact ⟨ce_s_t a1 b1, by rw [b2, a2], fun k k5 k7 => by rw [b3 k k7, a3 k k5 k7], b4, fun j hj => by rw [b5 j (by omega), a5 j hj]⟩
theorem ce_r_u {x y : Int} (h1 : ce_r μ μ1 base t) (hx : base ≤ x) : ce_r μ (mm_u (mm_u μ1 124 x y) 122 5 e) base t := by
  obtain ⟨a1, a2, a3, a4, a5⟩ := h1
  refine ⟨fun b g1 g2 g3 => by rw [mm_uu g1, mm_uu g3, a1 b g1 g2 g3], by rw [mm_uu (by decide), mm_uu (by decide), a2], fun k k5 k7 => by rw [mm_un k5, mm_uu (by decide), a3 k k5 k7], by rw [mm_un (by decide), mm_uu (by decide), a4], fun j hj => ?_⟩
  rw [mm_uu (by decide), mm_un (by omega), a5 j hj]
theorem ce_r_p (h1 : ce_r μ μ1 base t) : ce_r μ (mm_u μ1 122 5 e) base t := by
  obtain ⟨a1, a2, a3, a4, a5⟩ := h1
  refine ⟨fun b g1 g2 g3 => by rw [mm_uu g1, a1 b g1 g2 g3], by rw [mm_uu (by decide), a2], fun k k5 k7 => by rw [mm_un k5, a3 k k5 k7], by rw [mm_un (by decide), a4], fun j hj => ?_⟩
  rw [mm_uu (by decide), a5 j hj]
theorem c_65 (hq : mm_P w) {x : ev_K} (hx : ev_ok x) (ht : 1 ≤ μ 122 5 ∧ μ 122 5 ≤ 200) (hs : μ 124 (μ 122 5 - 1) = sp_en x.1 x.2) {p A B : Int} (hp : 0 ≤ p ∧ p < 24) (hA : 1 ≤ A ∧ A ≤ 24) (e1 : μ (mm_rl v + 4) p = A) (e2 : μ (mm_rl v + 4) (A - 1) = B) : am_C (d + 3) 65 [.ref 122, .ref (mm_rl v), .int (Int32.ofInt (p))] (mm_hp w μ X n) Q ↔ if x.1 ≤ 1 then Q (.inl (some (.int (Int32.ofInt (if 0 < sp_pl x.1 x.2 then p + 1 else A))))) (mm_hp w (mm_u μ 122 5 (μ 122 5 - 1)) X n) else Q (.inl (some (.int (Int32.ofInt (B))))) (mm_hp w μ X n) := by
  have hx0 : x.1 = 0 → -1000000000000 ≤ x.2 ∧ x.2 ≤ 1000000000000 := fun _ => by have := hx.2; omega
  have hpl : -2000000000 ≤ sp_pl x.1 x.2 ∧ sp_pl x.1 x.2 ≤ 2000000000 := sp_pl_b (fun _ => hx.2)
  have hrb := mm_rl_b (z := v)
  rw [en_65 (d := d + 2), b_65_0 hq]
  simp (disch := omega) only [and_self, true_and, mm_ltx, mm_lex, mm_eqx, mm_wv, mm_gd, ↓reduceIte, Int.reduceAdd, Int.reduceSub, Int.reduceNeg, Int.reduceLE, Int.reduceLT, Int.reduceMul, Int.reduceEq, if_pos, if_neg]
  rw [show d + 2 = (d + 1) + 1 from rfl, c_69 (d := d + 1) hq ht, bk_v, b_65_11 hq, hs, e1, show d + 1 + 1 = d + 2 from rfl, c_53 (d := d) hq hx.1 hx0, bk_v, b_65_18 hq]
  by_cases g : x.1 ≤ 1
  · rw [if_pos g, if_pos g, if_pos rfl, show d + 2 = (d + 1) + 1 from rfl, c_57 (d := d + 1) hq hx.1 hx0, bk_v, b_65_41 hq]
    by_cases f : 0 < sp_pl x.1 x.2
    · rw [if_neg (by rw [mm_lex8, mm_w8v (by omega) (by omega), mm_w8v (by decide) (by decide)]; omega), if_pos f]
    · rw [if_pos (by rw [mm_lex8, mm_w8v (by omega) (by omega), mm_w8v (by decide) (by decide)]; omega), if_neg f]
  · rw [if_neg g, if_neg g, if_neg (by decide), show d + 2 = (d + 1) + 1 from rfl, c_70 (d := d + 1) hq (by rw [mm_us]; omega), bk_n, b_65_27 hq, mm_us]
    have hback : mm_u (mm_u (mm_u μ 122 5 (μ 122 5 - 1)) 124 (μ 122 5 - 1) (sp_en x.1 x.2)) 122 5 (μ 122 5 - 1 + 1) = μ := by
      funext y j
      simp only [mm_ux]
      by_cases q1 : y = 122 ∧ j = 5
      · obtain ⟨rfl, rfl⟩ := q1
        rw [if_pos ⟨rfl, rfl⟩]; omega
      · rw [if_neg q1]
        by_cases q2 : y = 124 ∧ j = μ 122 5 - 1
        · obtain ⟨rfl, rfl⟩ := q2
          rw [if_pos ⟨rfl, rfl⟩, hs]
        · rw [if_neg q2, if_neg q1]
    rw [hback, mm_wv (by omega) (by omega), e2]
    exact ⟨fun q => q.2, fun q => ⟨⟨by omega, by omega⟩, q⟩⟩
/-- a formula, from one of its places on -/
theorem c_66_6 (hq : mm_P w) (hN : ev_en N G) {f : Nat} (hf : f ≤ 19) (hW : ce_W d w X n N G f) (hc : G c) (hd : 4 ≤ d) (hm : ce_m μ N G P t) (hb : μ 122 5 + 9 * (f + 1) ≤ 180) (hbase : base = μ 122 5)
    {h : Nat → Int} (hco : ev_co N r h) {φ : Nat → Int} (p0 : φ 0 = 0) (pl : φ (nv_code N r).length = μ (mm_rl v) 4) (p24 : μ (mm_rl v) 4 ≤ 24) (pm : ∀ i j, i < j → j ≤ (nv_code N r).length → φ i < φ j)
    (pc : ∀ (i : Nat) (op a b : Int), (nv_code N r)[i]? = some (op, a, b) →
      (op = 0 → μ (mm_rl v + 3) (φ i) = 5 ∧ μ (mm_rl v + 4) (φ i) = 1000 * a ∧ φ (i + 1) = φ i + 1)
      ∧ (op = 1 → μ (mm_rl v + 3) (φ i) = 6 ∧ μ (mm_rl v + 4) (φ i) = (nv_sh N r a b).length ∧ φ (i + 1) = φ i + 1 + (nv_sh N r a b).length ∧ ∀ (j : Nat) (s : Int × Int), (nv_sh N r a b)[j]? = some s → μ (mm_rl v + 4) (φ i + 1 + j) = s.1 * 10 + s.2)
      ∧ (2 ≤ op ∧ op ≤ 5 → μ (mm_rl v + 3) (φ i) = op - 1 ∧ φ (i + 1) = φ i + 1)
      ∧ (op = 6 → μ (mm_rl v + 3) (φ i) = 8 ∧ μ (mm_rl v + 4) (φ i) = φ a.toNat ∧ μ (mm_rl v + 4) (φ a.toNat - 1) = φ b.toNat ∧ φ (i + 1) = φ i + 1)
      ∧ (op = 7 → μ (mm_rl v + 3) (φ i) = 9 ∧ μ (mm_rl v + 4) (φ i) = φ a.toNat ∧ φ (i + 1) = φ i + 1)) :
    ∀ (F i : Nat) (st : List ev_K) (t1 turn : Int) (μ1 : mm_M), i ≤ (nv_code N r).length → (nv_code N r).length < i + F → (st.length : Int) = h i → (∀ x ∈ st, ev_ok x) → ce_r μ μ1 base t1 → (0 ≤ t1 ∧ t1 ≤ nv_fu N) → μ1 122 5 = base + st.length → ce_ss (μ1 124) base st → 0 ≤ turn → turn ≤ φ i →
      (∀ x t', ev_run N (ev N f P) r c F i st t1 = some (x, t') → ∀ μ', ce_a μ μ' t' → Q (.inl (some (.long (Int64.ofInt (sp_en x.1 x.2))))) (mm_hp w (μ') X n)) →
      (ev_run N (ev N f P) r c F i st t1 = none → ∀ μ', ce_x μ μ' → Q (.inr (2, n.1)) (mm_hp w μ' X (mm_th n))) →
      am_E (d + 4) 66 Q (6, [some (.ref 122), some (.ref (mm_rl v)), some (.int (Int32.ofInt (cc c))), some (.int (Int32.ofInt (20 - (f : Int)))), some (.int (Int32.ofInt (φ i))), some (.int (Int32.ofInt (turn)))], [], mm_hp w μ1 X n) := by
  have hrb := mm_rl_b (z := v)
  have h0 := hm.2.2.2.2.2
  have ph : ∀ i, i ≤ (nv_code N r).length → 0 ≤ φ i ∧ φ i ≤ μ (mm_rl v) 4 := by
    intro i hi
    constructor
    · by_cases g : i = 0
      · rw [g, p0]; exact Int.le_refl 0
      · have := pm 0 i (by omega) hi; omega
    · by_cases g : i = (nv_code N r).length
      · rw [g, pl]; exact Int.le_refl _
      · have := pm i _ (Nat.lt_of_le_of_ne hi g) (Nat.le_refl _); omega
  intro F
  induction F with
  | zero => intro i st t1 turn μ1 hi hF; omega
  | succ F ih =>
    intro i st t1 turn μ1 hi hF hst hok hr ht h5 hss tu0 tu1 q1 q2
    have hrow : ∀ k, k ≤ 4 → μ1 (mm_rl v + k) = μ (mm_rl v + k) := fun k hk => hr.1 _ (by omega) (by omega) (by omega)
    have hrow0 : μ1 (mm_rl v) = μ (mm_rl v) := hrow 0 (by decide)
    have hpi := ph i hi
    have hh := hco.2.2.2.1 i
    rw [b_66_6 hq, hrow0]
    by_cases gi : i = (nv_code N r).length
    · subst gi
      have hnone : (nv_code N r)[(nv_code N r).length]? = none := List.getElem?_eq_none (Nat.le_refl _)
      rw [hco.2.2.1] at hst
      obtain ⟨x, rfl⟩ : ∃ x, st = [x] := by
        cases st with
        | nil => exact absurd hst (by decide)
        | cons x st =>
          cases st with
          | nil => exact ⟨x, rfl⟩
          | cons y st => rw [List.length_cons, List.length_cons] at hst; omega
      have hlen : ([x].length : Int) = 1 := rfl
      have fin : am_E (d + 4) 66 Q (39, [some (.ref 122), some (.ref (mm_rl v)), some (.int (Int32.ofInt (cc c))), some (.int (Int32.ofInt (20 - (f : Int)))), some (.int (Int32.ofInt (φ (nv_code N r).length))), some (.int (Int32.ofInt (turn)))], [], mm_hp w μ1 X n) := by
        rw [b_66_39 hq, show d + 4 = (d + 3) + 1 from rfl, c_69 (d := d + 3) hq (by rw [h5, hlen]; omega), bk_v, b_66_43 hq, h5, hlen, Int.add_sub_cancel]
        have hx : μ1 124 base = sp_en x.1 x.2 := by have := hss.1; rw [show (base + (([] : List ev_K).length : Int)) = base from Int.add_zero base] at this; exact this
        rw [hx]
        refine q1 x t1 (by unfold ev_run; rw [hnone]) _ ?_
        obtain ⟨a1, a2, a3, a4, a5⟩ := hr
        refine ⟨fun b g1 g2 g3 => by rw [mm_uu g1, a1 b g1 g2 g3], by rw [mm_uu (by decide), a2], fun k k7 => ?_, by rw [mm_un (by decide), a4], fun j hj => by rw [mm_uu (by decide), a5 j (by omega)]⟩
        by_cases k5 : k = 5
        · rw [k5, mm_us, hbase]
        · rw [mm_un k5, a3 k k5 k7]
      by_cases g : 24 ≤ turn
      · simp (disch := omega) only [and_self, true_and, mm_ltx, mm_lex, mm_eqx, mm_wv, mm_gd, ↓reduceIte, Int.reduceAdd, Int.reduceSub, Int.reduceNeg, Int.reduceLE, Int.reduceLT, Int.reduceMul, Int.reduceEq, if_pos, if_neg]
        exact fin
      · simp (disch := omega) only [and_self, true_and, mm_ltx, mm_lex, mm_eqx, mm_wv, mm_gd, ↓reduceIte, Int.reduceAdd, Int.reduceSub, Int.reduceNeg, Int.reduceLE, Int.reduceLT, Int.reduceMul, Int.reduceEq, if_pos, if_neg]
        exact fin
    · have gi : i < (nv_code N r).length := Nat.lt_of_le_of_ne hi gi
      have hpi2 := pm i _ gi (Nat.le_refl _)
      have hn1 := ph (i + 1) gi
      obtain ⟨⟨op, a, b⟩, hcode⟩ : ∃ q, (nv_code N r)[i]? = some q := ⟨_, List.getElem?_eq_getElem gi⟩
      have hk := hco.2.2.2.2 i op a b hcode
      obtain ⟨k0, k1, k2, k6, k7⟩ := pc i op a b hcode
      unfold ev_run at q1 q2
      rw [hcode] at q1 q2
      dsimp only at q1 q2
      -- the next round
      have nxt : ∀ (i' : Nat) (st' : List ev_K) (t2 : Int) (μ2 : mm_M), i < i' → i' ≤ (nv_code N r).length → (st'.length : Int) = h i' → (∀ x ∈ st', ev_ok x) → ce_r μ μ2 base t2 → (0 ≤ t2 ∧ t2 ≤ nv_fu N) → μ2 122 5 = base + st'.length → ce_ss (μ2 124) base st' →
          (∀ x t', ev_run N (ev N f P) r c F i' st' t2 = some (x, t') → ∀ μ', ce_a μ μ' t' → Q (.inl (some (.long (Int64.ofInt (sp_en x.1 x.2))))) (mm_hp w (μ') X n)) →
          (ev_run N (ev N f P) r c F i' st' t2 = none → ∀ μ', ce_x μ μ' → Q (.inr (2, n.1)) (mm_hp w μ' X (mm_th n))) →
          am_E (d + 4) 66 Q (31, [some (.ref 122), some (.ref (mm_rl v)), some (.int (Int32.ofInt (cc c))), some (.int (Int32.ofInt (20 - (f : Int)))), some (.int (Int32.ofInt (φ i))), some (.int (Int32.ofInt (turn)))], [.int (Int32.ofInt (φ i'))], mm_hp w μ2 X n) := by
        intro i' st' t2 μ2 g1 g2 g3 g4 g5 g6 g7 g8 g9 g10
        rw [b_66_31 hq]
        have := pm i i' g1 g2
        exact ih i' st' t2 (turn + 1) μ2 g2 (by omega) g3 g4 g5 g6 g7 g8 (by omega) (by omega) g9 g10
      have hslen : (st.length : Int) ≤ 9 := by omega
      simp (disch := omega) only [and_self, true_and, mm_ltx, mm_lex, mm_eqx, mm_wv, mm_gd, ↓reduceIte, Int.reduceAdd, Int.reduceSub, Int.reduceNeg, Int.reduceLE, Int.reduceLT, Int.reduceMul, Int.reduceEq, if_pos, if_neg]
      rw [show d + 4 = (d + 3) + 1 from rfl, en_68 (d := d + 3), b_68_0 hq]
      simp (disch := omega) only [mm_wv, mm_gd]
      rw [hrow 3 (by decide), hrow 4 (by decide)]
      by_cases o0 : op = 0
      · obtain ⟨c1, c2, c3⟩ := k0 o0
        rw [if_pos o0] at q1 q2
        have ha : (0 ≤ a ∧ a ≤ 99999) ∧ h (i + 1) = h i + 1 := by
          rcases hk with k | k | k | k | k
          · exact k.2
          · omega
          · omega
          · omega
          · omega
        rw [c1, c2, if_pos (by rw [mm_wv (by decide) (by decide)]), mm_wv (by omega) (by omega), show d + 3 = (d + 2) + 1 from rfl, c_70 (d := d + 2) hq (by rw [h5]; omega), bk_n, b_68_55 hq, bk_v, show d + 2 + 1 + 1 = d + 4 from rfl, ← c3, h5]
        refine nxt (i + 1) ((0, 1000 * a) :: st) t1 _ (by omega) gi (by rw [List.length_cons, ha.2]; omega) ?_ (ce_r_u hr (by omega)) ht (by rw [mm_us, List.length_cons]; omega) ?_ q1 q2
        · intro x hx
          rcases List.mem_cons.mp hx with rfl | hx
          · exact ⟨⟨Int.le_refl 0, show (0 : Int) ≤ 4 by decide⟩, show (-2000000000 : Int) ≤ 1000 * a by omega, show 1000 * a ≤ 2000000000 by omega⟩
          · exact hok x hx
        · rw [mm_uu (by decide)]
          exact ⟨mm_us, ce_ss_c st hss (fun j _ j1 => mm_un (by omega))⟩
      · rw [if_neg o0] at q1 q2
        by_cases o1 : op = 1
        · obtain ⟨c1, c2, c3, c4⟩ := k1 o1
          rw [if_pos o1] at q1 q2
          have ha : h (i + 1) = h i + 1 ∧ (∀ s ∈ nv_sh N r a b, (0 ≤ s.1 ∧ s.1 < 3) ∧ (0 ≤ s.2 ∧ s.2 < 10)) := by
            rcases hk with k | k | k | k | k
            · omega
            · exact k.2
            · omega
            · omega
            · omega
          have hh1 := hco.2.2.2.1 (i + 1)
          have h9 : h i ≤ 8 := by omega
          have hm1 := ce_m_r hm hr ht (by rw [h5]; omega)
          have hE := ev_o hN f P
          rw [c1, c2, if_neg (by rw [mm_wv (by decide) (by decide)]; decide), if_pos (by rw [mm_wv (by decide) (by decide)])]
          refine c_71 (S := nv_sh N r a b) hq hN hf hW hc hd hm1 (by rw [h5]; omega) (by omega) ha.2 (by rw [hrow 4 (by decide)]; exact c2) (fun j s hs => by rw [hrow 4 (by decide)]; exact c4 j s hs) ?_ ?_
          · intro x t' hx μ2 ha2
            have htg := ev_tgto hN (nv_sh N r a b) c hc ha.2
            have hxo := ev_refo hN hE htg.1 htg.2.1 x t' hx
            have h52 : μ2 122 5 = base + st.length := by rw [ha2.2.2.1 5 (by decide), h5]
            rw [hx] at q1 q2
            rw [bk_v, b_68_69 hq, show d + 3 = (d + 2) + 1 from rfl, c_70 (d := d + 2) hq (by rw [h52]; omega), bk_n, b_68_72 hq, bk_v, show d + 2 + 1 + 1 = d + 4 from rfl, ← c3, h52]
            have hr2 : ce_r μ μ2 base t' := ce_r_a hr ha2 (by rw [h5]; omega)
            have hss2 : ce_ss (μ2 124) base st := ce_ss_c st hss (fun j _ j1 => ha2.2.2.2.2 j (by rw [h5]; exact j1))
            refine nxt (i + 1) (x :: st) t' _ (by omega) gi (by rw [List.length_cons, ha.1]; omega) ?_ (ce_r_u hr2 (by omega)) ⟨by omega, hxo.2.2 ht.2⟩ (by rw [mm_us, List.length_cons]; omega) ?_ q1 q2
            · intro y hy
              rcases List.mem_cons.mp hy with rfl | hy
              · exact hxo.1
              · exact hok y hy
            · rw [mm_uu (by decide)]
              exact ⟨mm_us, ce_ss_c st hss2 (fun j _ j1 => mm_un (by omega))⟩
          · intro hx μ2 hx2
            rw [hx] at q2
            rw [bk_e h_68, bk_e h_66]
            exact q2 rfl μ2 (ce_x_t hr.1 hr.2.2.1 hx2)
        · rw [if_neg o1] at q1 q2
          by_cases o7 : op = 7
          · obtain ⟨c1, c2, c3⟩ := k7 o7
            rw [if_pos o7] at q1 q2
            have ha : (i < a ∧ a ≤ (nv_code N r).length) ∧ h a.toNat = h i := by
              rcases hk with k | k | k | k | k
              · omega
              · omega
              · omega
              · omega
              · exact k.2
            rw [c1, c2]
            simp only [mm_wv (show (-2147483648 : Int) ≤ 9 by decide) (by decide)]
            rw [if_neg (by decide), if_neg (by decide), if_neg (by decide), if_neg (by decide), if_pos trivial, bk_v, show d + 3 + 1 = d + 4 from rfl]
            exact nxt a.toNat st t1 μ1 (by omega) (by omega) (by rw [ha.2]; exact hst) hok hr ht h5 hss q1 q2
          · rw [if_neg o7] at q1 q2
            by_cases o6 : op = 6
            · obtain ⟨c1, c2, c3, c4⟩ := k6 o6
              have ha : 1 ≤ h i ∧ h (i + 1) = h i - 1 ∧ (i < a ∧ a ≤ (nv_code N r).length) ∧ (i < b ∧ b ≤ (nv_code N r).length) ∧ h a.toNat = h i - 1 ∧ h b.toNat = h i := by
                rcases hk with k | k | k | k | k
                · omega
                · omega
                · omega
                · exact k.2
                · omega
              cases st with
              | nil => rw [List.length_nil] at hst; omega
              | cons x st1 =>
                dsimp only at q1 q2
                rw [if_pos o6] at q1 q2
                rw [List.length_cons] at hst h5 hslen
                have hxo := hok x List.mem_cons_self
                have hok1 : ∀ y ∈ st1, ev_ok y := fun y hy => hok y (List.mem_cons_of_mem _ hy)
                have hpa := ph a.toNat (by omega)
                have hpa2 := pm i a.toNat (by omega) (by omega)
                have htop : μ1 124 (μ1 122 5 - 1) = sp_en x.1 x.2 := by rw [h5, show base + ((st1.length + 1 : Nat) : Int) - 1 = base + (st1.length : Int) by omega]; exact hss.1
                rw [c1, c2]
                simp only [mm_wv (show (-2147483648 : Int) ≤ 8 by decide) (by decide)]
                rw [if_neg (by decide), if_neg (by decide), if_neg (by decide), if_pos trivial, c_65 (d := d) hq hxo (by rw [h5]; omega) htop (p := φ i) (A := φ a.toNat) (B := φ b.toNat) (by omega) (by omega) (by rw [hrow 4 (by decide)]; exact c2) (by rw [hrow 4 (by decide)]; exact c3)]
                by_cases g : x.1 ≤ 1
                · rw [if_pos g] at q1 q2
                  rw [if_pos g, bk_v, b_68_85 hq, bk_v, show d + 3 + 1 = d + 4 from rfl]
                  have hr1 : ce_r μ (mm_u μ1 122 5 (μ1 122 5 - 1)) base t1 := ce_r_p hr
                  have h51 : mm_u μ1 122 5 (μ1 122 5 - 1) 122 5 = base + st1.length := by rw [mm_us, h5]; omega
                  have hss1 : ce_ss (mm_u μ1 122 5 (μ1 122 5 - 1) 124) base st1 := by rw [mm_uu (by decide)]; exact hss.2
                  by_cases g2 : 0 < sp_pl x.1 x.2
                  · rw [if_pos g2] at q1 q2
                    rw [if_pos g2, ← c4]
                    exact nxt (i + 1) st1 t1 _ (by omega) gi (by rw [ha.2.1]; omega) hok1 hr1 ht h51 hss1 q1 q2
                  · rw [if_neg g2] at q1 q2
                    rw [if_neg g2]
                    exact nxt a.toNat st1 t1 _ (by omega) (by omega) (by rw [ha.2.2.2.2.1]; omega) hok1 hr1 ht h51 hss1 q1 q2
                · rw [if_neg g] at q1 q2
                  rw [if_neg g, bk_v, b_68_85 hq, bk_v, show d + 3 + 1 = d + 4 from rfl]
                  exact nxt b.toNat (x :: st1) t1 μ1 (by omega) (by omega) (by rw [ha.2.2.2.2.2, List.length_cons]; exact hst) hok hr ht (by rw [List.length_cons]; exact h5) hss q1 q2
            · have ha : (2 ≤ op ∧ op ≤ 5) ∧ 2 ≤ h i ∧ h (i + 1) = h i - 1 := by
                rcases hk with k | k | k | k | k
                · omega
                · omega
                · exact k
                · omega
                · omega
              obtain ⟨c1, c3⟩ := k2 ha.1
              cases st with
              | nil => rw [List.length_nil] at hst; omega
              | cons x st1 =>
                dsimp only at q1 q2
                rw [if_neg o6] at q1 q2
                cases st1 with
                | nil => rw [List.length_singleton] at hst; omega
                | cons y st2 =>
                  dsimp only at q1 q2
                  rw [List.length_cons, List.length_cons] at hst h5 hslen
                  have hxo := hok x List.mem_cons_self
                  have hyo := hok y (List.mem_cons_of_mem _ List.mem_cons_self)
                  have hok2 : ∀ z ∈ st2, ev_ok z := fun z hz => hok z (List.mem_cons_of_mem _ (List.mem_cons_of_mem _ hz))
                  have htop : μ1 124 (μ1 122 5 - 1) = sp_en x.1 x.2 := by
                    have := hss.1
                    rw [List.length_cons] at this
                    rw [h5, show base + ((st2.length + 1 + 1 : Nat) : Int) - 1 = base + ((st2.length + 1 : Nat) : Int) by omega]; exact this
                  have htop2 : μ1 124 (μ1 122 5 - 1 - 1) = sp_en y.1 y.2 := by rw [h5, show base + ((st2.length + 1 + 1 : Nat) : Int) - 1 - 1 = base + (st2.length : Int) by omega]; exact hss.2.1
                  have sw : am_C (d + 3) 69 [.ref 122] (mm_hp w μ1 X n) (am_bk 68 90 [some (.ref 122), some (.ref (mm_rl v)), some (.int (Int32.ofInt (φ i))), some (.int (Int32.ofInt (cc c))), some (.int (Int32.ofInt (20 - (f : Int)))), some (.int (Int32.ofInt (μ (mm_rl v + 4) (φ i)))), none, none, none, none] [] (am_E (d + 3) 68 (am_bk 66 28 [some (.ref 122), some (.ref (mm_rl v)), some (.int (Int32.ofInt (cc c))), some (.int (Int32.ofInt (20 - (f : Int)))), some (.int (Int32.ofInt (φ i))), some (.int (Int32.ofInt (turn)))] [] (am_E (d + 3 + 1) 66 Q) Q)) (am_bk 66 28 [some (.ref 122), some (.ref (mm_rl v)), some (.int (Int32.ofInt (cc c))), some (.int (Int32.ofInt (20 - (f : Int)))), some (.int (Int32.ofInt (φ i))), some (.int (Int32.ofInt (turn)))] [] (am_E (d + 3 + 1) 66 Q) Q)) := by
                    rw [show d + 3 = (d + 2) + 1 from rfl, c_69 (d := d + 2) hq (by rw [h5]; omega), bk_v, b_68_93 hq, c_69 (d := d + 2) hq (by rw [mm_us, h5]; omega), bk_v, b_68_99 hq]
                    rw [mm_us, mm_uu (show mm_rl v + 3 ≠ 122 by omega), mm_uu (show mm_rl v + 3 ≠ 122 by omega), mm_uu (show (124 : Nat) ≠ 122 by decide), hrow 3 (by decide), htop, htop2]
                    simp (disch := omega) only [mm_wv, mm_gd]
                    rw [c1, show d + 2 + 1 = d + 3 from rfl, c_51 (d := d) hq (by omega) hyo.1 hxo.1 (fun _ => hyo.2) (fun _ => hxo.2), bk_v, b_68_115 hq, show d + 3 = (d + 2) + 1 from rfl, c_70 (d := d + 2) hq (by rw [mm_us, h5]; omega), bk_n, b_68_118 hq, bk_v, mm_us, show d + 2 + 1 + 1 = d + 4 from rfl, ← c3, h5]
                    have hr2 : ce_r μ (mm_u (mm_u μ1 122 5 (base + ((st2.length + 1 + 1 : Nat) : Int) - 1)) 122 5 (base + ((st2.length + 1 + 1 : Nat) : Int) - 1 - 1)) base t1 := ce_r_p (ce_r_p hr)
                    refine nxt (i + 1) (sp_cmb (op - 1) y.1 y.2 x.1 x.2 :: st2) t1 _ (by omega) gi (by rw [List.length_cons, ha.2.2]; omega) ?_ (ce_r_u hr2 (by omega)) ht (by rw [mm_us, List.length_cons]; omega) ?_ q1 q2
                    · intro z hz
                      rcases List.mem_cons.mp hz with rfl | hz
                      · exact sp_cmb_b hyo.1 hxo.1
                      · exact hok2 z hz
                    · rw [mm_uu (by decide)]
                      refine ⟨?_, ce_ss_c st2 hss.2.2 (fun j _ j1 => by rw [mm_un (by omega), mm_uu (by decide), mm_uu (by decide)])⟩
                      rw [show base + (st2.length : Int) = base + ((st2.length + 1 + 1 : Nat) : Int) - 1 - 1 by omega]
                      exact mm_us
                  rw [c1]
                  rcases (by omega : op = 2 ∨ op = 3 ∨ op = 4 ∨ op = 5) with rfl | rfl | rfl | rfl
                  · rw [if_neg (by decide), if_neg (by decide), if_neg (by decide), if_neg (by decide), if_neg (by decide)]; exact sw
                  · rw [if_neg (by decide), if_neg (by decide), if_neg (by decide), if_neg (by decide), if_neg (by decide)]; exact sw
                  · rw [if_neg (by decide), if_neg (by decide), if_neg (by decide), if_neg (by decide), if_neg (by decide)]; exact sw
                  · rw [if_neg (by decide), if_neg (by decide), if_neg (by decide), if_neg (by decide), if_neg (by decide)]; exact sw
end CK
