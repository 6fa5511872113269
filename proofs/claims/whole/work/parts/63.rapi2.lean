/-! The reference's calls on trees and inputs. -/
section RB
variable {d : Nat} {Q : am_Ou → am_G → Prop} {w : mm_Z} {μ : mm_M} {X : mm_X} {n : mm_N} {e m c l : Int}
def rfgt (μ : mm_M) : mm_M := mm_u (mm_u μ 129 37 0) 129 38 0
/-- the least member that isn't there -/
def rfree (μ : mm_M) (e : Int) : Int := sp_fr (rp μ e)
/-- can this be a parent -/
def rknown (μ : mm_M) (e b : Int) : Prop := (0 ≤ e ∧ e < 3) ∧ (b = -1 ∨ (0 ≤ b ∧ b < 6 ∧ μ 130 (6 * e + b) ≠ 0))
theorem rt_many_b {p : Int → Int} : 0 ≤ rt_many p ∧ rt_many p ≤ 6 := by
  have h : (fo_rg.filter (fun c => decide (p c ≠ -2))).length ≤ fo_rg.length := List.length_filter_le _ _
  have h2 : fo_rg.length = 6 := rfl
  unfold rt_many
  omega
theorem rt_many_fr {p : Int → Int} (h : rt_many p < 6) : p (sp_fr p) = -2 := by
  unfold sp_fr
  by_cases a0 : p 0 = -2
  · rw [if_pos a0]; exact a0
  rw [if_neg a0]
  by_cases a1 : p 1 = -2
  · rw [if_pos a1]; exact a1
  rw [if_neg a1]
  by_cases a2 : p 2 = -2
  · rw [if_pos a2]; exact a2
  rw [if_neg a2]
  by_cases a3 : p 3 = -2
  · rw [if_pos a3]; exact a3
  rw [if_neg a3]
  by_cases a4 : p 4 = -2
  · rw [if_pos a4]; exact a4
  rw [if_neg a4]
  by_cases a5 : p 5 = -2
  · exact a5
  exfalso
  unfold rt_many fo_rg at h
  rw [List.filter_cons_of_pos (by simpa using a0), List.filter_cons_of_pos (by simpa using a1), List.filter_cons_of_pos (by simpa using a2), List.filter_cons_of_pos (by simpa using a3), List.filter_cons_of_pos (by simpa using a4), List.filter_cons_of_pos (by simpa using a5)] at h
  simp at h
theorem c_205_76 (hq : mm_P w) (he : 0 ≤ e ∧ e < 3) (hr : rt_a μ) (hm : rt_many (rp μ e) < 6) {b r x4 : Int} (hw : fo_wf (rp (mm_u (mm_u (mm_u μ 130 (6 * e + rfree μ e) 1) 131 (6 * e + rfree μ e) b) 132 (6 * e + rfree μ e) r) e)) (hb : -1 ≤ b ∧ b ≤ 5) (hQ : ∀ μ', rf_fr e (mm_u (mm_u (mm_u μ 130 (6 * e + rfree μ e) 1) 131 (6 * e + rfree μ e) b) 132 (6 * e + rfree μ e) r) μ' → rt_ok μ' e → Q (.inl (some (.int (Int32.ofInt (rfree μ e))))) (mm_hp w (rfgt μ') X n)) : am_E (d + 3) 205 Q (76, [some (.ref 129), some (.int (Int32.ofInt (e))), some (.int (Int32.ofInt (b))), some (.int (Int32.ofInt (r))), some (.int (Int32.ofInt (x4))), some (.int (Int32.ofInt (0)))], [], mm_hp w μ X n) := by
  have hf := rt_many_fr hm
  have hfb := sp_fr_b (p := rp μ e)
  have hz : ∀ c, 0 ≤ c → c < 6 → (rp μ e c = -2 ↔ μ 130 (6 * e + c) = 0) := by
    intro c h0 h6
    have := rp_th (hr e he.1 he.2) h0 h6
    omega
  have key : ∀ (k : Nat) (i : Int), i + k = rfree μ e → 0 ≤ i → (∀ j, 0 ≤ j → j < rfree μ e → μ 130 (6 * e + j) ≠ 0) → am_E (d + 3) 205 Q (76, [some (.ref 129), some (.int (Int32.ofInt (e))), some (.int (Int32.ofInt (b))), some (.int (Int32.ofInt (r))), some (.int (Int32.ofInt (x4))), some (.int (Int32.ofInt (i)))], [], mm_hp w μ X n) := by
    intro k
    induction k with
    | zero =>
      intro i hi h0 _
      have hi : i = rfree μ e := by omega
      subst hi
      have hfb' : 0 ≤ rfree μ e ∧ rfree μ e ≤ 5 := hfb
      have h0' : μ 130 (6 * e + rfree μ e) = 0 := (hz _ (by omega) (by omega)).mp hf
      rw [b_205_76 hq, mm_b11]
      simp (disch := omega) only [and_self, true_and, mm_ltx, mm_lex, mm_eqx, mm_wv, mm_gd, ↓reduceIte, Int.reduceAdd, Int.reduceSub, Int.reduceNeg, Int.reduceLE, Int.reduceLT, Int.reduceMul, Int.reduceEq, if_pos, if_neg]
      refine c_179 (d := d) hq he hw ?_ ?_
      · intro m h0 h6
        have h1 := hr e he.1 he.2 m h0 h6
        have e130 : ∀ j, mm_u (mm_u (mm_u μ 130 (6 * e + rfree μ e) 1) 131 (6 * e + rfree μ e) b) 132 (6 * e + rfree μ e) r 130 j = if j = 6 * e + rfree μ e then 1 else μ 130 j := by intro j; simp only [mm_ux]; simp
        have e131 : ∀ j, mm_u (mm_u (mm_u μ 130 (6 * e + rfree μ e) 1) 131 (6 * e + rfree μ e) b) 132 (6 * e + rfree μ e) r 131 j = if j = 6 * e + rfree μ e then b else μ 131 j := by intro j; simp only [mm_ux]; simp
        rw [e130, e131]
        constructor
        · split <;> omega
        · split <;> omega
      · intro μ' h1 h2 _ _
        rw [bk_n, b_205_141 hq, c_182 (d := d + 2) hq, bk_n, b_205_145 hq]
        exact hQ μ' h1 h2
    | succ k ih =>
      intro i hi h0 hall
      have hfb' : 0 ≤ rfree μ e ∧ rfree μ e ≤ 5 := hfb
      have h1 := hall i h0 (by omega)
      have h2 := (hr e he.1 he.2 i h0 (by omega)).1
      rw [b_205_76 hq]
      simp (disch := omega) only [and_self, true_and, mm_ltx, mm_lex, mm_eqx, mm_wv, mm_gd, ↓reduceIte, Int.reduceAdd, Int.reduceSub, Int.reduceNeg, Int.reduceLE, Int.reduceLT, Int.reduceMul, Int.reduceEq, if_pos, if_neg]
      exact ih (i + 1) (by omega) (by omega) hall
  refine key (rfree μ e).toNat 0 (by have : 0 ≤ rfree μ e ∧ rfree μ e ≤ 5 := hfb; omega) (by decide) ?_
  intro j j0 jf hj
  have hj2 := (hz j j0 (by have : rfree μ e ≤ 5 := hfb.2; omega)).mpr hj
  have : rfree μ e = sp_fr (rp μ e) := rfl
  unfold sp_fr at this
  have hc : j = 0 ∨ j = 1 ∨ j = 2 ∨ j = 3 ∨ j = 4 := by have : rfree μ e ≤ 5 := hfb.2; omega
  rcases hc with rfl | rfl | rfl | rfl | rfl <;> (repeat' split at this) <;> first | omega | contradiction
theorem c_205 (hq : mm_P w) (hr : rt_a μ) {b r : Int} (h1 : -2147483648 ≤ e) (h2 : e ≤ 2147483647) (g1 : -2147483648 ≤ b) (g2 : b ≤ 2147483647) (k1 : -2147483648 ≤ r) (k2 : r ≤ 2147483647)
    (q1 : ¬ rknown μ e b → Q (.inl (some (.int (Int32.ofInt (0))))) (mm_hp w (rth μ 1) X n)) (q2 : rknown μ e b → ¬ (0 ≤ r ∧ r ≤ 4) → Q (.inl (some (.int (Int32.ofInt (0))))) (mm_hp w (rth μ 2) X n)) (q3 : rknown μ e b → (0 ≤ r ∧ r ≤ 4) → ¬ rt_many (rp μ e) < 6 → Q (.inl (some (.int (Int32.ofInt (0))))) (mm_hp w (rth μ 3) X n))
    (q4 : rknown μ e b → (0 ≤ r ∧ r ≤ 4) → rt_many (rp μ e) < 6 → fo_wf (rp (mm_u (mm_u (mm_u (rth μ 0) 130 (6 * e + rfree μ e) 1) 131 (6 * e + rfree μ e) b) 132 (6 * e + rfree μ e) r) e) ∧ ∀ μ', rf_fr e (mm_u (mm_u (mm_u (rth μ 0) 130 (6 * e + rfree μ e) 1) 131 (6 * e + rfree μ e) b) 132 (6 * e + rfree μ e) r) μ' → rt_ok μ' e → Q (.inl (some (.int (Int32.ofInt (rfree μ e))))) (mm_hp w (rfgt μ') X n)) : am_C (d + 4) 205 [.ref 129, .int (Int32.ofInt (e)), .int (Int32.ofInt (b)), .int (Int32.ofInt (r))] (mm_hp w μ X n) Q := by
  -- behind 'known'
  have tail : ∀ s : Int, (rknown μ e b → s = 1) → (¬ rknown μ e b → s = 0) → am_E (d + 3) 205 Q (26, [some (.ref 129), some (.int (Int32.ofInt (e))), some (.int (Int32.ofInt (b))), some (.int (Int32.ofInt (r))), none, none], [.int (Int32.ofInt (s))], mm_hp w μ X n) := by
    intro s s1 s0
    have t45 : ∀ y : Int, (0 ≤ r ∧ r ≤ 4 → y = 1) → (¬ (0 ≤ r ∧ r ≤ 4) → y = 0) → am_E (d + 3) 205 Q (45, [some (.ref 129), some (.int (Int32.ofInt (e))), some (.int (Int32.ofInt (b))), some (.int (Int32.ofInt (r))), some (.int (Int32.ofInt (s))), none], [.int (Int32.ofInt (y)), .int (Int32.ofInt (s)), .ref 129], mm_hp w μ X n) := by
      intro y y1 y0
      rw [b_205_45 hq]
      by_cases k : rknown μ e b
      · have s1 := s1 k
        subst s1
        have hmb := rt_many_b (p := rp μ e)
        rw [if_neg (by decide), c_204 (d := d + 2) hq k.1 (hr e k.1.1 k.1.2), bk_v, b_205_55 hq]
        by_cases f : rt_many (rp μ e) < 6
        · rw [if_neg (by rw [mm_lex, mm_wv (by decide) (by decide), mm_wv (by omega) (by omega)]; omega), b_205_60 hq, b_205_65 hq]
          by_cases g : 0 ≤ r ∧ r ≤ 4
          · have y1 := y1 g
            subst y1
            obtain ⟨q5, q6⟩ := q4 k g f
            rw [d_185x (d := d + 2) hq (by decide) (by decide) (by decide), bk_v, show rwhy 1 1 1 = 0 from rfl, if_pos rfl, b_205_68 hq, if_neg (by decide)]
            have ef : rfree (rth μ 0) e = rfree μ e := by unfold rfree; rw [rth_rp]
            refine c_205_76 hq k.1 (rth_a hr) (by rw [rth_rp]; exact f) (by rw [ef]; exact q5) ?_ (by rw [ef]; exact q6)
            rcases k.2 with k | k <;> omega
          · have y0 := y0 g
            subst y0
            rw [d_185x (d := d + 2) hq (by decide) (by decide) (by decide), bk_v, show rwhy 1 0 1 = 2 from rfl, if_neg (by decide), b_205_68 hq, if_pos (by decide)]
            exact q2 k g
        · rw [if_pos (by rw [mm_lex, mm_wv (by decide) (by decide), mm_wv (by omega) (by omega)]; omega), b_205_65 hq]
          by_cases g : 0 ≤ r ∧ r ≤ 4
          · have y1 := y1 g
            subst y1
            rw [d_185x (d := d + 2) hq (by decide) (by decide) (by decide), bk_v, show rwhy 1 1 0 = 3 from rfl, if_neg (by decide), b_205_68 hq, if_pos (by decide)]
            exact q3 k g f
          · have y0 := y0 g
            subst y0
            rw [d_185x (d := d + 2) hq (by decide) (by decide) (by decide), bk_v, show rwhy 1 0 0 = 2 from rfl, if_neg (by decide), b_205_68 hq, if_pos (by decide)]
            exact q2 k g
      · have s0 := s0 k
        subst s0
        have hy : y = 0 ∨ y = 1 := by
          by_cases g : 0 ≤ r ∧ r ≤ 4
          · exact Or.inr (y1 g)
          · exact Or.inl (y0 g)
        rw [if_pos (by decide), b_205_60 hq, b_205_65 hq, d_185x (d := d + 2) hq (by decide) hy (by decide), bk_v, show rwhy 0 y 1 = 1 from rfl, if_neg (by decide), b_205_68 hq, if_pos (by decide)]
        exact q1 k
    rw [b_205_26 hq]
    by_cases a : r < 0
    · simp (disch := omega) only [and_self, true_and, mm_ltx, mm_lex, mm_eqx, mm_wv, mm_gd, ↓reduceIte, Int.reduceAdd, Int.reduceSub, Int.reduceNeg, Int.reduceLE, Int.reduceLT, Int.reduceMul, Int.reduceEq, if_pos, if_neg]
      rw [b_205_44 hq]
      exact t45 0 (fun q => by omega) (fun _ => rfl)
    · by_cases a2 : 4 < r
      · simp (disch := omega) only [and_self, true_and, mm_ltx, mm_lex, mm_eqx, mm_wv, mm_gd, ↓reduceIte, Int.reduceAdd, Int.reduceSub, Int.reduceNeg, Int.reduceLE, Int.reduceLT, Int.reduceMul, Int.reduceEq, if_pos, if_neg]
        rw [b_205_44 hq]
        exact t45 0 (fun q => by omega) (fun _ => rfl)
      · simp (disch := omega) only [and_self, true_and, mm_ltx, mm_lex, mm_eqx, mm_wv, mm_gd, ↓reduceIte, Int.reduceAdd, Int.reduceSub, Int.reduceNeg, Int.reduceLE, Int.reduceLT, Int.reduceMul, Int.reduceEq, if_pos, if_neg]
        exact t45 1 (fun _ => rfl) (fun q => by omega)
  rw [en_205 (d := d + 3), b_205_0 hq, d_192 (d := d + 2) h1 h2 hq, bk_v, b_205_4 hq]
  by_cases a : 0 ≤ e ∧ e < 3
  · rw [if_pos a, if_neg (by decide)]
    by_cases b1 : b = -1
    · rw [if_pos (by rw [b1]), b_205_21 hq]
      exact tail 1 (fun _ => rfl) (fun q => absurd ⟨a, Or.inl b1⟩ q)
    · rw [if_neg (by rw [mm_eqx, mm_wv g1 g2, mm_wv (by decide) (by decide)]; exact b1), d_196 (d := d + 1) h1 h2 g1 g2 hq hr, bk_v, b_205_18 hq]
      by_cases f : 0 ≤ e ∧ e < 3 ∧ 0 ≤ b ∧ b < 6 ∧ μ 130 (6 * e + b) ≠ 0
      · rw [if_pos f, if_neg (by decide), b_205_21 hq]
        exact tail 1 (fun _ => rfl) (fun q => absurd ⟨a, Or.inr f.2.2⟩ q)
      · rw [if_neg f, if_pos (by decide), b_205_25 hq]
        refine tail 0 (fun q => ?_) (fun _ => rfl)
        rcases q.2 with q | q
        · exact absurd q b1
        · exact absurd ⟨a.1, a.2, q⟩ f
  · rw [if_neg a, if_pos (by decide), b_205_25 hq]
    exact tail 0 (fun q => absurd q.1 a) (fun _ => rfl)
theorem c_206 (hq : mm_P w) (hr : rt_a μ) {b : Int} (h1 : -2147483648 ≤ e) (h2 : e ≤ 2147483647) (g1 : -2147483648 ≤ b) (g2 : b ≤ 2147483647) (k1 : -2147483648 ≤ m) (k2 : m ≤ 2147483647)
    (q1 : ¬ ((0 ≤ m ∧ m < 6 ∧ μ 130 (6 * e + m) ≠ 0) ∧ rknown μ e b) → Q (.inl (some (.int (Int32.ofInt (0))))) (mm_hp w (rth μ 1) X n))
    (q2 : (0 ≤ m ∧ m < 6 ∧ μ 130 (6 * e + m) ≠ 0) → rknown μ e b → b ≠ -1 → rt_u (rq μ e) m 6 b = m → Q (.inl (some (.int (Int32.ofInt (0))))) (mm_hp w (rth μ 2) X n))
    (q3 : (0 ≤ m ∧ m < 6 ∧ μ 130 (6 * e + m) ≠ 0) → rknown μ e b → (b = -1 ∨ ¬ rt_u (rq μ e) m 6 b = m) → fo_wf (rp (mm_u (rth μ 0) 131 (6 * e + m) b) e) ∧ ∀ μ', rf_fr e (mm_u (rth μ 0) 131 (6 * e + m) b) μ' → rt_ok μ' e → Q (.inl (some (.int (Int32.ofInt (fo_dp (rq (mm_u (rth μ 0) 131 (6 * e + m) b) e) 6 m))))) (mm_hp w (rfgt μ') X n)) : am_C (d + 4) 206 [.ref 129, .int (Int32.ofInt (e)), .int (Int32.ofInt (m)), .int (Int32.ofInt (b))] (mm_hp w μ X n) Q := by
  have fin : (0 ≤ m ∧ m < 6 ∧ μ 130 (6 * e + m) ≠ 0) → rknown μ e b → (b = -1 ∨ ¬ rt_u (rq μ e) m 6 b = m) → am_E (d + 3) 206 Q (53, [some (.ref 129), some (.int (Int32.ofInt (e))), some (.int (Int32.ofInt (m))), some (.int (Int32.ofInt (b))), some (.int (Int32.ofInt (1)))], [.int (Int32.ofInt (1)), .ref 129], mm_hp w μ X n) := by
    intro hm hk hb
    obtain ⟨q5, q6⟩ := q3 hm hk hb
    have hbb : -1 ≤ b ∧ b ≤ 5 := by rcases hk.2 with k | k <;> omega
    have hr0 := rth_a (k := 0) hr
    rw [b_206_53 hq, b_206_58 hq, d_185x (d := d + 2) hq (by decide) (by decide) (by decide), bk_v, show rwhy 1 1 1 = 0 from rfl, if_pos rfl, b_206_62 hq, if_neg (by decide)]
    have he := hk.1
    simp (disch := omega) only [and_self, true_and, mm_ltx, mm_lex, mm_eqx, mm_wv, mm_gd, ↓reduceIte, Int.reduceAdd, Int.reduceSub, Int.reduceNeg, Int.reduceLE, Int.reduceLT, Int.reduceMul, Int.reduceEq, if_pos, if_neg]
    refine c_179 (d := d) hq hk.1 q5 ?_ ?_
    · intro j j0 j6
      have h1 := hr0 e he.1 he.2 j j0 j6
      rw [mm_uu (show (130 : Nat) ≠ 131 by decide), mm_ux]
      refine ⟨h1.1, ?_⟩
      split <;> omega
    · intro μ' f1 f2 f3 _
      rw [bk_n, b_206_84 hq, c_182 (d := d + 2) hq, bk_n, b_206_88 hq]
      have f4 : rt_r (rfgt μ') e := by
        intro j j0 j6
        have := f2.2.1 j j0 j6
        unfold rfgt
        rw [mm_uu (show (130 : Nat) ≠ 129 by decide), mm_uu (show (130 : Nat) ≠ 129 by decide), mm_uu (show (131 : Nat) ≠ 129 by decide), mm_uu (show (131 : Nat) ≠ 129 by decide)]
        exact this
      show am_C (d + 3) 168 _ (mm_hp w (rfgt μ') X n) _
      rw [c_168 (d := d + 2) hq hk.1 (by omega) (by omega) f4, bk_v, b_206_94 hq]
      have e1 : rq (rfgt μ') e = rq (mm_u (rth μ 0) 131 (6 * e + m) b) e := by
        unfold rq rfgt
        rw [mm_uu (show (131 : Nat) ≠ 129 by decide), mm_uu (show (131 : Nat) ≠ 129 by decide), f1.1 131 (by decide) (by decide) (by decide)]
      rw [e1]
      exact q6 μ' f1 f2
  have tail : ∀ s : Int, ((0 ≤ m ∧ m < 6 ∧ μ 130 (6 * e + m) ≠ 0) ∧ rknown μ e b → s = 1) → (¬ ((0 ≤ m ∧ m < 6 ∧ μ 130 (6 * e + m) ≠ 0) ∧ rknown μ e b) → s = 0) → am_E (d + 3) 206 Q (28, [some (.ref 129), some (.int (Int32.ofInt (e))), some (.int (Int32.ofInt (m))), some (.int (Int32.ofInt (b))), none], [.int (Int32.ofInt (s))], mm_hp w μ X n) := by
    intro s s1 s0
    by_cases k : (0 ≤ m ∧ m < 6 ∧ μ 130 (6 * e + m) ≠ 0) ∧ rknown μ e b
    · have s1 := s1 k
      subst s1
      rw [b_206_28 hq, if_neg (by decide)]
      by_cases b1 : b = -1
      · rw [if_pos (by rw [b1])]
        exact fin k.1 k.2 (Or.inl b1)
      · have hbb : 0 ≤ b ∧ b < 6 := by rcases k.2.2 with q | q <;> omega
        rw [if_neg (by rw [mm_eqx, mm_wv g1 g2, mm_wv (by decide) (by decide)]; exact b1), d_238 (d := d + 2) hq k.2.1 (by omega) (by omega) (by omega) (hr e k.2.1.1 k.2.1.2), bk_v, b_206_50 hq]
        by_cases u : rt_u (rq μ e) m 6 b = m
        · rw [if_pos u, if_neg (by decide), b_206_58 hq, d_185x (d := d + 2) hq (by decide) (by decide) (by decide), bk_v, show rwhy 1 0 1 = 2 from rfl, if_neg (by decide), b_206_62 hq, if_pos (by decide)]
          exact q2 k.1 k.2 b1 u
        · rw [if_neg u, if_pos (by decide)]
          exact fin k.1 k.2 (Or.inr u)
    · have s0 := s0 k
      subst s0
      rw [b_206_28 hq, if_pos (by decide), b_206_53 hq, b_206_58 hq, d_185x (d := d + 2) hq (by decide) (by decide) (by decide), bk_v, show rwhy 0 1 1 = 1 from rfl, if_neg (by decide), b_206_62 hq, if_pos (by decide)]
      exact q1 k
  rw [en_206 (d := d + 3), b_206_0 hq, d_196 (d := d + 1) h1 h2 k1 k2 hq hr, bk_v, b_206_6 hq]
  by_cases a : 0 ≤ e ∧ e < 3 ∧ 0 ≤ m ∧ m < 6 ∧ μ 130 (6 * e + m) ≠ 0
  · rw [if_pos a, if_neg (by decide)]
    by_cases b1 : b = -1
    · rw [if_pos (by rw [b1]), b_206_23 hq]
      exact tail 1 (fun _ => rfl) (fun q => absurd ⟨a.2.2, ⟨⟨a.1, a.2.1⟩, Or.inl b1⟩⟩ q)
    · rw [if_neg (by rw [mm_eqx, mm_wv g1 g2, mm_wv (by decide) (by decide)]; exact b1), d_196 (d := d + 1) h1 h2 g1 g2 hq hr, bk_v, b_206_20 hq]
      by_cases f : 0 ≤ e ∧ e < 3 ∧ 0 ≤ b ∧ b < 6 ∧ μ 130 (6 * e + b) ≠ 0
      · rw [if_pos f, if_neg (by decide), b_206_23 hq]
        exact tail 1 (fun _ => rfl) (fun q => absurd ⟨a.2.2, ⟨⟨a.1, a.2.1⟩, Or.inr f.2.2⟩⟩ q)
      · rw [if_neg f, if_pos (by decide), b_206_27 hq]
        refine tail 0 (fun q => ?_) (fun _ => rfl)
        rcases q.2.2 with q' | q'
        · exact absurd q' b1
        · exact absurd ⟨a.1, a.2.1, q'⟩ f
  · rw [if_neg a, if_pos (by decide), b_206_27 hq]
    exact tail 0 (fun q => absurd ⟨q.2.1.1, q.2.1.2, q.1⟩ a) (fun _ => rfl)
end RB
