/-! Calls of both sides: member, move. -/
def LT : List Nat := [107, 35, 36, 37, 38, 39, 40, 41, 42, 43, 44, 45, 46, 47, 48, 49, 50, 51, 52, 130, 131, 132, 133, 134, 135]
section LC
variable {d : Nat} {w : mm_Z} {μ μ' : mm_M} {X : mm_X} {n : mm_N} {e m l k v b s x z : Int} {p p' : Int → Int}
theorem LT_m {a : Nat} (h : a ∉ LT) : a ≠ 107 ∧ (a < 35 ∨ 52 < a) ∧ a ≠ 130 ∧ a ≠ 131 ∧ a ≠ 132 ∧ a ≠ 133 ∧ a ≠ 134 ∧ a ≠ 135 := by
  simp only [LT, List.mem_cons, List.not_mem_nil, or_false, not_or] at h
  omega
theorem mm_tr_v : mm_tr 0 = 35 ∧ mm_tr 1 = 41 ∧ mm_tr 2 = 47 := by decide
theorem ag_fr (h : fo_ag p p') : sp_fr p = sp_fr p' := by
  unfold sp_fr
  rw [h 0 (by decide) (by decide), h 1 (by decide) (by decide), h 2 (by decide) (by decide), h 3 (by decide) (by decide), h 4 (by decide) (by decide)]
theorem fl_up {q q' : Int → Bool} (h : ∀ x, x ≠ s → q' x = q x) (h0 : q s = false) (h1 : q' s = true) : ∀ l : List Int, l.Nodup → (l.filter q').length = (l.filter q).length + if s ∈ l then 1 else 0 := by
  intro l
  induction l with
  | nil => intro _; rfl
  | cons a l ih =>
    intro hn
    obtain ⟨n1, n2⟩ := List.nodup_cons.mp hn
    have := ih n2
    by_cases z : a = s
    · rw [if_neg (by rw [← z]; exact n1)] at this
      rw [if_pos (by rw [z]; exact List.mem_cons_self), List.filter_cons_of_pos (by rw [z]; exact h1), List.filter_cons_of_neg (by rw [z, h0]; decide), List.length_cons, this]
    · have hm : (s ∈ a :: l) ↔ s ∈ l := ⟨fun y => by rcases List.mem_cons.mp y with y | y; exact absurd y.symm z; exact y, fun y => List.mem_cons_of_mem _ y⟩
      cases hq : q a with
      | true => rw [List.filter_cons_of_pos (by rw [h a z, hq]), List.filter_cons_of_pos hq, List.length_cons, List.length_cons, this]; simp only [hm]; omega
      | false => rw [List.filter_cons_of_neg (by rw [h a z, hq]; decide), List.filter_cons_of_neg (by rw [hq]; decide), this]; simp only [hm]
theorem rt_many_ag (h : fo_ag p p') : rt_many p = rt_many p' := by
  unfold rt_many
  refine congrArg (fun l : List Int => (l.length : Int)) (List.filter_congr fun m hm => ?_)
  have := fo_mem_rg.mp hm
  rw [h m this.1 this.2]
theorem rt_many_up (hs : 0 ≤ s ∧ s < 6) (hps : p s = -2) (hb : b ≠ -2) (h : ∀ x, 0 ≤ x → x < 6 → p' x = if x = s then b else p x) : rt_many p' = rt_many p + 1 := by
  have e : rt_many p' = rt_many (fun x => if x = s then b else p x) := rt_many_ag h
  rw [e]
  unfold rt_many
  rw [fl_up (s := s) (q := fun c => decide (p c ≠ -2)) (q' := fun c => decide ((if c = s then b else p c) ≠ -2)) (fun x hx => by rw [if_neg hx]) (by simp [hps]) (by simp [hb]) fo_rg (by decide), if_pos (fo_mem_rg.mpr hs)]
  rfl
theorem rt_many_sm (hps : p s ≠ -2) (hb : b ≠ -2) (h : ∀ x, 0 ≤ x → x < 6 → p' x = if x = s then b else p x) : rt_many p' = rt_many p := by
  unfold rt_many
  refine congrArg (fun l : List Int => (l.length : Int)) (List.filter_congr fun m hm => ?_)
  have := fo_mem_rg.mp hm
  rw [h m this.1 this.2]
  by_cases z : m = s
  · rw [if_pos z, z]
    simp [hps, hb]
  · rw [if_neg z]
theorem tr_ok_c (h : ∀ k, k ≤ 5 → μ' (mm_tr e + k) = μ (mm_tr e + k)) (ho : tr_ok μ e) : tr_ok μ' e := by
  have e0 := h 0 (by omega)
  rw [Nat.add_zero] at e0
  unfold tr_ok
  rw [e0, h 1 (by omega), h 3 (by omega), h 4 (by omega), h 5 (by omega)]
  exact ho
theorem mm_tw_c (h : ∀ k, k ≤ 5 → μ' (mm_tr e + k) = μ (mm_tr e + k)) (ho : mm_tw μ e) : mm_tw μ' e := by
  have e0 := h 0 (by omega)
  rw [Nat.add_zero] at e0
  unfold mm_tw
  rw [e0, h 1 (by omega), h 2 (by omega), h 3 (by omega), h 4 (by omega), h 5 (by omega)]
  exact ho
theorem rt_ok_c (h : ∀ a, a = 130 ∨ a = 131 ∨ a = 133 ∨ a = 134 → μ' a = μ a) (ho : rt_ok μ e) : rt_ok μ' e := by
  unfold rt_ok rt_r
  rw [rp_c (h 130 (by decide)) (h 131 (by decide)), h 130 (by decide), h 131 (by decide), h 133 (by decide), h 134 (by decide)]
  exact ho
/-- a tree of both sides changed, and the history is forgotten: no member went -/
theorem J_tree (he : 0 ≤ e ∧ e < 3) (hJ : J μ) (hb : ∀ a, a < 178 → a ≠ 129 → a ∉ LT → μ' a = μ a) (hc : ∀ a, 35 ≤ a → a ≤ 52 → (a < mm_tr e ∨ mm_tr e + 5 < a) → μ' a = μ a) (h0 : ∀ j, j < 6 * e ∨ 6 * e + 6 ≤ j → μ' 130 j = μ 130 j ∧ μ' 131 j = μ 131 j ∧ μ' 132 j = μ 132 j ∧ μ' 133 j = μ 133 j) (h4 : ∀ j, j ≠ e → μ' 134 j = μ 134 j) (h9 : ∀ j, j ∉ [(0 : Int), 37, 38] → μ' 129 j = μ 129 j) (h7 : μ' 107 = chf μ 107) (h37 : μ' 129 37 = 0) (h38 : μ' 129 38 = 0)
    (hn : tr_ok μ' e ∧ mm_tw μ' e ∧ rt_ok μ' e ∧ fo_ag (μ' (mm_tr e + 1)) (rp μ' e) ∧ (∀ m, 0 ≤ m → m < 6 → rp μ' e m ≠ -2 → μ' (mm_tr e + 2) m = μ' 132 (6 * e + m)) ∧ μ' (mm_tr e) 6 = rt_many (rp μ' e)) (ho : ∀ m, 0 ≤ m → m < 6 → 0 ≤ μ' 132 (6 * e + m) ∧ μ' 132 (6 * e + m) ≤ 4) (hk : ∀ m, 0 ≤ m → m < 6 → rp μ e m ≠ -2 → rp μ' e m ≠ -2) : J μ' := by
  have hp' : ∀ x m, 0 ≤ x → x < 3 → 0 ≤ m → m < 6 → rp μ x m ≠ -2 → rp μ' x m ≠ -2 := fun x m x0 x1 m0 m6 q => by
    by_cases y : x = e
    · rw [y] at q ⊢; exact hk m m0 m6 q
    · unfold rp at q ⊢
      rw [(h0 (6 * x + m) (by omega)).1, (h0 (6 * x + m) (by omega)).2.1]
      exact q
  have hrr := (J_rr hJ)
  refine J_mk LT [0, 37, 38] hb h9 hJ (Or.inr (J_t_1 he hJ.1 hc h0 h4 hn)) (Or.inr (J_p_c (by rw [hb 53 (by decide) (by decide) (by decide)]) (hb 54 (by decide) (by decide) (by decide)) (fun b b1 b2 => hb b (by omega) (by omega) (fun q => ?_)) (h9 11 (by decide)) (hb 139 (by decide) (by decide) (by decide)) (hb 140 (by decide) (by decide) (by decide)) (fun r x r0 r1 x0 x1 g q => ?_) hJ.2.1)) (Or.inl (by decide)) (Or.inl (by decide)) (Or.inl (by decide)) (Or.inl (by decide)) (Or.inr (J_d_c (by rw [hb 102 (by decide) (by decide) (by decide)]) (hb 103 (by decide) (by decide) (by decide)) (hb 104 (by decide) (by decide) (by decide)) (hb 148 (by decide) (by decide) (by decide)) (hb 149 (by decide) (by decide) (by decide)) (fun x x0 x1 _ q => ?_) (J_jd hJ))) (Or.inl (by decide)) (Or.inl (by decide)) (Or.inl (by decide)) (Or.inr fun j j0 j1 => ?_) (Or.inr (J_h_f ?_ ?_ ?_ (hb 121 (by decide) (by decide) (by decide)) h37 h38 (fun b b1 b2 => hb b (by omega) (by omega) (fun q => ?_)) (J_jh hJ)))
  · simp only [LT, List.mem_cons, List.not_mem_nil, or_false] at q
    omega
  · have h1 := hJ.2.1.2.2.2 r x r0 r1 x0 x1
    have h2 := hrr.2 (3 * r + x) (by omega) (by have := hrr.1; omega)
    exact hp' x _ x0 x1 (by omega) (by omega) q
  · have := (J_jd hJ).2 x x0 x1
    exact hp' x _ x0 x1 (by omega) (by omega) q
  · by_cases y : j < 6 * e ∨ 6 * e + 6 ≤ j
    · rw [(h0 j y).2.2.1]
      exact hJ.2.2.2.2.2.2.2.2.2.2.1 j j0 j1
    · have := ho (j - 6 * e) (by omega) (by omega)
      rw [show 6 * e + (j - 6 * e) = j by omega] at this
      exact this
  · rw [h7, chf_7]
    exact if_neg (by decide)
  · rw [h7, chf_7]
    exact if_pos (by decide)
  · rw [h7, chf_7]
    exact if_pos (by decide)
  · simp only [LT, List.mem_cons, List.not_mem_nil, or_false] at q
    omega
theorem rfgt_x {a : Nat} (h : a ≠ 129) : rfgt μ a = μ a := by
  unfold rfgt
  rw [mm_uu h, mm_uu h]
theorem J_tree2 {A B : mm_M} {z6 : Int} (he : 0 ≤ e ∧ e < 3) (hJ : J μ) (hA : ∀ a, a ≠ 107 → a ≠ mm_tr e → a ≠ mm_tr e + 1 → a ≠ mm_tr e + 2 → A a = μ a) (hA7 : A 107 = chf μ 107) (hA6 : A (mm_tr e) 6 = z6) (hz : 0 ≤ z6 ∧ z6 ≤ 6) (hw : fo_wf (A (mm_tr e + 1))) (hA2 : ∀ j, 0 ≤ j → j < 6 → 0 ≤ A (mm_tr e + 2) j ∧ A (mm_tr e + 2) j ≤ 4)
    (hB : ∀ a, a ≠ 129 → a ≠ 130 → a ≠ 131 → a ≠ 132 → B a = mm_u (tr_arr e A) 178 0 v a) (hB9 : ∀ j, j ≠ 0 → B 129 j = μ 129 j) (hB0 : ∀ j, j < 6 * e ∨ 6 * e + 6 ≤ j → B 130 j = μ 130 j ∧ B 131 j = μ 131 j ∧ B 132 j = μ 132 j) (hag : fo_ag (A (mm_tr e + 1)) (rp B e)) (hki : ∀ m, 0 ≤ m → m < 6 → rp B e m ≠ -2 → A (mm_tr e + 2) m = B 132 (6 * e + m)) (hm : z6 = rt_many (rp B e)) (ho : ∀ m, 0 ≤ m → m < 6 → 0 ≤ B 132 (6 * e + m) ∧ B 132 (6 * e + m) ≤ 4) (hk : ∀ m, 0 ≤ m → m < 6 → rp μ e m ≠ -2 → rp B e m ≠ -2) (f : rf_fr e B μ') (fo : rt_ok μ' e) : J (rfgt μ') ∧ rfgt μ' 178 0 = v ∧ rfgt μ' 129 0 = B 129 0 := by
  have hr := mm_tr_r he
  have htw := J_ct hJ e he.1 he.2
  have eA : ∀ a, 3 ≤ a → a ≤ 5 → A (mm_tr e + a) = μ (mm_tr e + a) := fun a a1 a2 => hA _ (by omega) (by omega) (by omega) (by omega)
  have k1 := tr_arr_ok hw
  have k2 : mm_tw (tr_arr e A) e := tr_arr_tw hw hA2 (fun j j0 j6 => by rw [eA 3 (by omega) (by omega)]; exact (htw.1 j j0 j6).2.2.1) (fun j j0 j6 => by rw [eA 5 (by omega) (by omega)]; exact (htw.1 j j0 j6).2.2.2.2) (by rw [hA6]; exact hz)
  have eN : ∀ a, a ≠ 129 → a ≠ 130 → a ≠ 131 → a ≠ 132 → a ≠ 133 → a ≠ 134 → a ≠ 135 → a ≠ 178 → rfgt μ' a = tr_arr e A a := fun a b1 b2 b3 b4 b5 b6 b7 b8 => by
    rw [rfgt_x b1, f.1 a b5 b6 b7, hB a b1 b2 b3 b4, mm_uu b8]
  have eK : ∀ k, k ≤ 5 → rfgt μ' (mm_tr e + k) = tr_arr e A (mm_tr e + k) := fun k hk => eN _ (by omega) (by omega) (by omega) (by omega) (by omega) (by omega) (by omega) (by omega)
  have er : rp (rfgt μ') e = rp B e := rp_c (by rw [rfgt_x (by decide), f.1 130 (by decide) (by decide) (by decide)]) (by rw [rfgt_x (by decide), f.1 131 (by decide) (by decide) (by decide)])
  have e9 : ∀ j, j ≠ 37 → j ≠ 38 → rfgt μ' 129 j = B 129 j := fun j j1 j2 => by
    unfold rfgt
    rw [mm_un j2, mm_un j1, f.1 129 (by decide) (by decide) (by decide)]
  have eO : ∀ a, a ≠ 129 → a ≠ 130 → a ≠ 131 → a ≠ 132 → a ≠ 133 → a ≠ 134 → a ≠ 135 → a ≠ 178 → a ≠ 107 → (a < mm_tr e ∨ mm_tr e + 5 < a) → rfgt μ' a = μ a := fun a b1 b2 b3 b4 b5 b6 b7 b8 b9 b10 => by
    rw [eN a b1 b2 b3 b4 b5 b6 b7 b8, tr_arr_row hw (by omega) (by omega) (by omega) (by omega), hA a b9 (by omega) (by omega) (by omega)]
  have e2 : rfgt μ' 132 = B 132 := by rw [rfgt_x (by decide), f.1 132 (by decide) (by decide) (by decide)]
  refine ⟨J_tree he hJ (fun a a1 a2 a3 => ?_) (fun a a1 a2 a3 => eO a (by omega) (by omega) (by omega) (by omega) (by omega) (by omega) (by omega) (by omega) (by omega) a3) (fun j hj => ?_) (fun j hj => ?_) (fun j hj => ?_) ?_ ?_ ?_ ⟨tr_ok_c eK k1, mm_tw_c eK k2, rt_ok_c (fun a ha => rfgt_x (by omega)) fo, ?_, fun m m0 m6 q => ?_, ?_⟩ (fun m m0 m6 => by rw [e2]; exact ho m m0 m6) (fun m m0 m6 q => by rw [er]; exact hk m m0 m6 q), ?_, ?_⟩
  · have := LT_m a3
    exact eO a a2 (by omega) (by omega) (by omega) (by omega) (by omega) (by omega) (by omega) (by omega) (by omega)
  · rw [rfgt_x (by decide), rfgt_x (by decide), rfgt_x (by decide), rfgt_x (by decide), f.1 130 (by decide) (by decide) (by decide), f.1 131 (by decide) (by decide) (by decide), f.1 132 (by decide) (by decide) (by decide), f.2.1 j hj, hB 133 (by decide) (by decide) (by decide) (by decide), mm_uu (by decide), tr_arr_row hw (by omega) (by omega) (by omega) (by omega), hA 133 (by omega) (by omega) (by omega) (by omega)]
    have := hB0 j hj
    exact ⟨this.1, this.2.1, this.2.2, rfl⟩
  · rw [rfgt_x (by decide), f.2.2 j hj, hB 134 (by decide) (by decide) (by decide) (by decide), mm_uu (by decide), tr_arr_row hw (by omega) (by omega) (by omega) (by omega), hA 134 (by omega) (by omega) (by omega) (by omega)]
  · simp only [List.mem_cons, List.not_mem_nil, or_false, not_or] at hj
    rw [e9 j hj.2.1 hj.2.2, hB9 j hj.1]
  · rw [eN 107 (by decide) (by decide) (by decide) (by decide) (by decide) (by decide) (by decide) (by decide), tr_arr_row hw (by omega) (by omega) (by omega) (by omega), hA7]
  · unfold rfgt
    rw [mm_un (by decide), mm_us]
  · unfold rfgt
    rw [mm_us]
  · rw [eK 1 (by decide), tr_arr_row hw (by omega) (by omega) (by omega) (by omega), er]
    exact hag
  · rw [er] at q
    rw [eK 2 (by decide), tr_arr_row hw (by omega) (by omega) (by omega) (by omega), e2]
    exact hki m m0 m6 q
  · have := eK 0 (by decide)
    rw [Nat.add_zero] at this
    rw [this, tr_arr_fld hw (by decide), hA6, er]
    exact hm
  · rw [rfgt_x (by decide), f.1 178 (by decide) (by decide) (by decide), hB 178 (by decide) (by decide) (by decide) (by decide), mm_us]
  · rw [e9 0 (by decide) (by decide)]
theorem L_member (hq : mm_Q w) (hJ : J μ) (hn : n0 n) (h1 : -2147483648 ≤ e) (h2 : e ≤ 2147483647) (k1 : -2147483648 ≤ b) (k2 : b ≤ 2147483647) (g1 : -2147483648 ≤ k) (g2 : k ≤ 2147483647) : PRI w X n (d + 200) 11 [.ref 32, .int (Int32.ofInt (e)), .int (Int32.ofInt (b)), .int (Int32.ofInt (k)), .ref 178] 205 [.ref 129, .int (Int32.ofInt (e)), .int (Int32.ofInt (b)), .int (Int32.ofInt (k))] μ := by
  intro Q1 hQ
  have hp := mm_QP hq
  have hwf : ∀ e b, 0 ≤ e → e < 3 → μ (mm_tr e) 6 < 6 → (b = -1 ∨ (0 ≤ b ∧ b < 6 ∧ μ (mm_tr e + 1) b ≠ -2)) → fo_wf (mm_u μ (mm_tr e + 1) (sp_fr (μ (mm_tr e + 1))) b (mm_tr e + 1)) := fun e b e0 e1 hm hb => by
    obtain ⟨a1, a2, a3, a4, a5, a6⟩ := hJ.1 e e0 e1
    have hf := sp_fr_b (p := μ (mm_tr e + 1))
    refine fo_wf_add a1.1 (s := sp_fr (μ (mm_tr e + 1))) (b := b) ⟨hf.1, by omega⟩ (sp_fr_n (by rw [rt_many_ag a4, ← a6]; exact hm)) hb (fun x _ _ => ?_)
    rw [mm_ux]
    by_cases z : x = sp_fr (μ (mm_tr e + 1))
    · rw [if_pos ⟨rfl, z⟩, if_pos z]
    · rw [if_neg (fun q => z q.2), if_neg z]
  rw [en_11 (d := d + 199), b_11_0 hq, c_37 (d := d + 188) hp (J_ct hJ) hwf h1 h2 k1 k2 g1 g2]
  have hiff : ((0 ≤ e ∧ e < 3) ∧ (b = -1 ∨ (0 ≤ b ∧ b < 6 ∧ μ (mm_tr e + 1) b ≠ -2))) ↔ rknown μ e b := by
    unfold rknown
    constructor
    · rintro ⟨a, c | c⟩
      · exact ⟨a, Or.inl c⟩
      · exact ⟨a, Or.inr ⟨c.1, c.2.1, (J_there hJ a ⟨c.1, c.2.1⟩).mp c.2.2⟩⟩
    · rintro ⟨a, c | c⟩
      · exact ⟨a, Or.inl c⟩
      · exact ⟨a, Or.inr ⟨c.1, c.2.1, (J_there hJ a ⟨c.1, c.2.1⟩).mpr c.2.2⟩⟩
  by_cases a : (0 ≤ e ∧ e < 3) ∧ (b = -1 ∨ (0 ≤ b ∧ b < 6 ∧ μ (mm_tr e + 1) b ≠ -2))
  · rw [if_neg (fun z => z a)]
    by_cases c : 0 ≤ k ∧ k < 5
    · rw [if_neg (fun z => z c)]
      have he := a.1
      obtain ⟨t1, t2, t3, t4, t5, t6⟩ := hJ.1 e he.1 he.2
      by_cases g : μ (mm_tr e) 6 < 6
      · rw [if_neg (fun z => z g), bk_v, b_11_10 hq, mm_w0, mm_gd (by decide)]
        refine hQ 0 _ X n nr_r fun Q2 hQ2 => ?_
        have hr := mm_tr_r he
        have hs := sp_fr_b (p := μ (mm_tr e + 1))
        have hw := hwf e b he.1 he.2 g a.2
        have hsr : sp_fr (μ (mm_tr e + 1)) = sp_fr (rp μ e) := ag_fr t4
        generalize es : sp_fr (μ (mm_tr e + 1)) = s at *
        have hps : rp μ e s = -2 := by rw [hsr]; exact sp_fr_n (by rw [← t6]; exact g)
        generalize hA : mm_u (mm_u (mm_u (chf μ) (mm_tr e + 1) s b) (mm_tr e + 2) s k) (mm_tr e) 6 (μ (mm_tr e) 6 + 1) = A
        have A1 : A (mm_tr e + 1) = mm_u μ (mm_tr e + 1) s b (mm_tr e + 1) := by
          funext j
          rw [← hA, mm_uu (by omega), mm_uu (by omega), mm_ux, mm_ux, chf_x (by omega)]
        have A2 : ∀ j, A (mm_tr e + 2) j = if j = s then k else μ (mm_tr e + 2) j := fun j => by
          rw [← hA, mm_uu (by omega), mm_ux, mm_uu (by omega), chf_x (by omega)]
          by_cases z : j = s
          · rw [if_pos ⟨rfl, z⟩, if_pos z]
          · rw [if_neg (fun q => z q.2), if_neg z]
        have A0 : ∀ a, a ≠ 107 → a ≠ mm_tr e → a ≠ mm_tr e + 1 → a ≠ mm_tr e + 2 → A a = μ a := fun a b1 b2 b3 b4 => by
          rw [← hA, mm_uu b2, mm_uu b4, mm_uu b3, chf_x b1]
        have A7 : A 107 = chf μ 107 := by rw [← hA, mm_uu (by omega), mm_uu (by omega), mm_uu (by omega)]
        have A6 : A (mm_tr e) 6 = μ (mm_tr e) 6 + 1 := by rw [← hA, mm_us]
        have hwA : fo_wf (A (mm_tr e + 1)) := by rw [A1]; exact hw
        generalize hM : mm_u (tr_arr e A) 178 0 (mm_w s) = M
        have eM : ∀ a, 129 ≤ a → a ≠ 178 → M a = μ a := fun a a1 a2 => by
          rw [← hM, mm_uu a2, tr_arr_row hwA (by omega) (by omega) (by omega) (by omega), A0 a (by omega) (by omega) (by omega) (by omega)]
        have erp : rp M = rp μ := by funext x; exact rp_c (eM 130 (by decide) (by decide)) (eM 131 (by decide) (by decide))
        have hrt : rt_a M := fun x x0 x1 m m0 m1 => by rw [eM 130 (by decide) (by decide), eM 131 (by decide) (by decide)]; exact J_rt hJ x x0 x1 m m0 m1
        have hkn : rknown M e b := by unfold rknown; rw [eM 130 (by decide) (by decide)]; exact hiff.mp a
        have hrs : rfree M e = s := by unfold rfree; rw [erp, ← hsr]
        have htm : rt_many (rp M e) < 6 := by rw [erp, ← t6]; exact g
        refine c_205 (d := d + 196) hp hrt h1 h2 k1 k2 g1 g2 (fun z => absurd hkn z) (fun _ z => absurd ⟨c.1, by omega⟩ z) (fun _ _ z => absurd htm z) (fun _ _ _ => ?_)
        rw [hrs]
        generalize hB : mm_u (mm_u (mm_u (rth M 0) 130 (6 * e + s) 1) 131 (6 * e + s) b) 132 (6 * e + s) k = B
        have B0 : ∀ x, B 130 (6 * e + x) = if x = s then 1 else μ 130 (6 * e + x) := fun x => by
          rw [← hB, mm_uu (show (130 : Nat) ≠ 132 by decide), mm_uu (show (130 : Nat) ≠ 131 by decide), mm_ux, rth_row (by decide), eM 130 (by decide) (by decide)]
          by_cases z : x = s
          · rw [if_pos ⟨rfl, by rw [z]⟩, if_pos z]
          · rw [if_neg (fun q => z (by have := q.2; omega)), if_neg z]
        have B1 : ∀ x, B 131 (6 * e + x) = if x = s then b else μ 131 (6 * e + x) := fun x => by
          rw [← hB, mm_uu (show (131 : Nat) ≠ 132 by decide), mm_ux, mm_uu (show (131 : Nat) ≠ 130 by decide), rth_row (by decide), eM 131 (by decide) (by decide)]
          by_cases z : x = s
          · rw [if_pos ⟨rfl, by rw [z]⟩, if_pos z]
          · rw [if_neg (fun q => z (by have := q.2; omega)), if_neg z]
        have rpB : ∀ x, 0 ≤ x → x < 6 → rp B e x = if x = s then b else rp μ e x := fun x x0 x1 => by
          unfold rp
          rw [B0, B1]
          by_cases z : x = s
          · simp only [if_pos z, if_true]
          · simp only [if_neg z]
        have hb2 : b ≠ -2 := by rcases a.2 with q | q <;> omega
        have hbr : b = -1 ∨ (0 ≤ b ∧ b < 6 ∧ rp μ e b ≠ -2) := by
          rcases a.2 with q | q
          · exact Or.inl q
          · exact Or.inr ⟨q.1, q.2.1, by rw [← t4 b q.1 q.2.1]; exact q.2.2⟩
        refine ⟨fo_wf_add t3.1 ⟨hs.1, by omega⟩ hps hbr rpB, fun μ' f fo => ?_⟩
        have B2 : ∀ j, B 132 j = if j = 6 * e + s then k else μ 132 j := fun j => by
          rw [← hB, mm_ux, mm_uu (by decide), mm_uu (by decide), rth_row (by decide), eM 132 (by decide) (by decide)]
          by_cases z : j = 6 * e + s
          · rw [if_pos ⟨rfl, z⟩, if_pos z]
          · rw [if_neg (fun q => z q.2), if_neg z]
        have hk132 := hJ.2.2.2.2.2.2.2.2.2.2.1
        obtain ⟨r1, r2, r3⟩ := J_tree2 (A := A) (B := B) (v := mm_w s) (z6 := μ (mm_tr e) 6 + 1) (μ' := μ') he hJ A0 A7 A6 (by have := t2.2.2; omega) hwA (fun j j0 j6 => by rw [A2]; split; omega; exact (t2.1 j j0 j6).2.1) (fun a b1 b2 b3 b4 => by rw [← hB, mm_uu b4, mm_uu b3, mm_uu b2, rth_row b1, ← hM]) (fun j hj => by rw [← hB, mm_uu (by decide), mm_uu (by decide), mm_uu (by decide)]; unfold rth; rw [mm_un hj, eM 129 (by decide) (by decide)]) (fun j hj => by
            rw [B2, if_neg (by omega), ← hB, mm_uu (show (130 : Nat) ≠ 132 by decide), mm_uu (show (130 : Nat) ≠ 131 by decide), mm_uu (show (131 : Nat) ≠ 132 by decide), mm_un (by omega), mm_un (by omega), mm_uu (show (131 : Nat) ≠ 130 by decide), rth_row (by decide), rth_row (by decide), eM 130 (by decide) (by decide), eM 131 (by decide) (by decide)]
            exact ⟨rfl, rfl, rfl⟩) (fun x x0 x6 => by
            rw [A1, rpB x x0 x6, mm_ux]
            by_cases z : x = s
            · rw [if_pos ⟨rfl, z⟩, if_pos z]
            · rw [if_neg (fun q => z q.2), if_neg z]; exact t4 x x0 x6) (fun x x0 x6 q => by
            rw [A2, B2]
            rw [rpB x x0 x6] at q
            by_cases z : x = s
            · rw [if_pos z, if_pos (by rw [z])]
            · rw [if_neg z] at q
              rw [if_neg z, if_neg (by omega)]; exact t5 x x0 x6 q) (by rw [t6]; exact (rt_many_up ⟨hs.1, by omega⟩ hps hb2 rpB).symm) (fun x x0 x6 => by rw [B2]; split; omega; exact hk132 _ (by omega) (by omega)) (fun x x0 x6 q => by
            rw [rpB x x0 x6]
            split
            · exact hb2
            · exact q) f fo
        refine hQ2 _ _ r1 ?_ (fun _ => r2)
        rw [r3, ← hB, mm_uu (by decide), mm_uu (by decide), mm_uu (by decide)]
        exact mm_us
      · rw [if_pos g]
        refine ⟨n0_6 hn, ?_⟩
        rw [bk_h (hp := 23) (by decide +kernel), b_11_23 hq]
        refine hQ 3 _ X _ (nr_t hn) fun Q2 hQ2 => ?_
        exact c_205 (d := d + 196) hp (J_rt hJ) h1 h2 k1 k2 g1 g2 (fun z => absurd (hiff.mp a) z) (fun _ z => absurd ⟨c.1, by omega⟩ z) (fun _ _ _ => hQ2 0 _ (J_th hJ) mm_us (fun z => absurd z (by decide))) (fun _ _ z => absurd (by rw [t6]; exact z) g)
    · rw [if_pos c]
      refine ⟨n0_6 hn, ?_⟩
      rw [bk_h (hp := 19) (by decide +kernel), b_11_19 hq]
      refine hQ 2 _ X _ (nr_t hn) fun Q2 hQ2 => ?_
      exact c_205 (d := d + 196) hp (J_rt hJ) h1 h2 k1 k2 g1 g2 (fun z => absurd (hiff.mp a) z) (fun _ _ => hQ2 0 _ (J_th hJ) mm_us (fun z => absurd z (by decide))) (fun _ z _ => absurd ⟨z.1, by omega⟩ c) (fun _ z _ => absurd ⟨z.1, by omega⟩ c)
  · rw [if_pos a]
    refine ⟨n0_6 hn, ?_⟩
    rw [bk_h (hp := 15) (by decide +kernel), b_11_15 hq]
    refine hQ 1 _ X _ (nr_t hn) fun Q2 hQ2 => ?_
    exact c_205 (d := d + 196) hp (J_rt hJ) h1 h2 k1 k2 g1 g2 (fun _ => hQ2 0 _ (J_th hJ) mm_us (fun z => absurd z (by decide))) (fun z _ => absurd (hiff.mpr z) a) (fun z _ _ => absurd (hiff.mpr z) a) (fun z _ _ => absurd (hiff.mpr z) a)
theorem L_move (hq : mm_Q w) (hJ : J μ) (hn : n0 n) (h1 : -2147483648 ≤ e) (h2 : e ≤ 2147483647) (g1 : -2147483648 ≤ m) (g2 : m ≤ 2147483647) (k1 : -2147483648 ≤ b) (k2 : b ≤ 2147483647) : PRI w X n (d + 200) 12 [.ref 32, .int (Int32.ofInt (e)), .int (Int32.ofInt (m)), .int (Int32.ofInt (b)), .ref 178] 206 [.ref 129, .int (Int32.ofInt (e)), .int (Int32.ofInt (m)), .int (Int32.ofInt (b))] μ := by
  intro Q1 hQ
  have hp := mm_QP hq
  have hwf : (0 ≤ e ∧ e < 3 ∧ 0 ≤ m ∧ m < 6 ∧ μ (mm_tr e + 1) m ≠ -2) → ((0 ≤ e ∧ e < 3) ∧ (b = -1 ∨ (0 ≤ b ∧ b < 6 ∧ μ (mm_tr e + 1) b ≠ -2))) → ¬ sp_in (μ (mm_tr e + 1)) m 6 b = true → fo_wf (mm_u μ (mm_tr e + 1) m b (mm_tr e + 1)) := fun hm hb hi => by
    obtain ⟨a1, a2, a3, a4, a5, a6⟩ := hJ.1 e hb.1.1 hb.1.2
    refine fo_wf_mv a1.1 (s := m) (b := b) ⟨hm.2.2.1, hm.2.2.2.1⟩ hb.2 hi (fun x _ _ => ?_)
    rw [mm_ux]
    by_cases z : x = m
    · rw [if_pos ⟨rfl, z⟩, if_pos z]
    · rw [if_neg (fun q => z q.2), if_neg z]
  rw [en_12 (d := d + 199), b_12_0 hq, c_38 (d := d + 188) hp (J_ct hJ) hwf h1 h2 g1 g2 k1 k2]
  have hkn : ((0 ≤ e ∧ e < 3) ∧ (b = -1 ∨ (0 ≤ b ∧ b < 6 ∧ μ (mm_tr e + 1) b ≠ -2))) ↔ rknown μ e b := by
    unfold rknown
    constructor
    · rintro ⟨a, c | c⟩
      · exact ⟨a, Or.inl c⟩
      · exact ⟨a, Or.inr ⟨c.1, c.2.1, (J_there hJ a ⟨c.1, c.2.1⟩).mp c.2.2⟩⟩
    · rintro ⟨a, c | c⟩
      · exact ⟨a, Or.inl c⟩
      · exact ⟨a, Or.inr ⟨c.1, c.2.1, (J_there hJ a ⟨c.1, c.2.1⟩).mpr c.2.2⟩⟩
  have hiff : ((0 ≤ e ∧ e < 3 ∧ 0 ≤ m ∧ m < 6 ∧ μ (mm_tr e + 1) m ≠ -2) ∧ ((0 ≤ e ∧ e < 3) ∧ (b = -1 ∨ (0 ≤ b ∧ b < 6 ∧ μ (mm_tr e + 1) b ≠ -2)))) ↔ ((0 ≤ m ∧ m < 6 ∧ μ 130 (6 * e + m) ≠ 0) ∧ rknown μ e b) :=
    ⟨fun ⟨y, z⟩ => ⟨⟨y.2.2.1, y.2.2.2.1, (J_there hJ z.1 ⟨y.2.2.1, y.2.2.2.1⟩).mp y.2.2.2.2⟩, hkn.mp z⟩, fun ⟨y, z⟩ => ⟨⟨z.1.1, z.1.2, y.1, y.2.1, (J_there hJ z.1 ⟨y.1, y.2.1⟩).mpr y.2.2⟩, hkn.mpr z⟩⟩
  by_cases a : (0 ≤ e ∧ e < 3 ∧ 0 ≤ m ∧ m < 6 ∧ μ (mm_tr e + 1) m ≠ -2) ∧ ((0 ≤ e ∧ e < 3) ∧ (b = -1 ∨ (0 ≤ b ∧ b < 6 ∧ μ (mm_tr e + 1) b ≠ -2)))
  · rw [if_neg (fun z => z a)]
    have he := a.2.1
    have a' := hiff.mp a
    obtain ⟨t1, t2, t3, t4, t5, t6⟩ := hJ.1 e he.1 he.2
    have hs : 0 ≤ m ∧ m < 6 := ⟨a'.1.1, a'.1.2.1⟩
    have hps : rp μ e m ≠ -2 := by rw [← t4 m hs.1 hs.2]; exact a.1.2.2.2.2
    have hin0 : b = -1 → ¬ sp_in (μ (mm_tr e + 1)) m 6 b = true := fun z q => by
      rw [z] at q
      unfold sp_in at q
      rw [if_pos (by decide)] at q
      exact absurd q (by decide)
    have hini : b ≠ -1 → (rt_u (rq μ e) m 6 b = m ↔ sp_in (μ (mm_tr e + 1)) m 6 b = true) := fun z => by
      rcases a.2.2 with y | y
      · exact absurd y z
      · exact J_in hJ.1 he y.1 y.2.1 (by rw [← t4 b y.1 y.2.1]; exact y.2.2) hs.1
    by_cases c : sp_in (μ (mm_tr e + 1)) m 6 b = true
    · rw [if_pos c]
      have cb : b ≠ -1 := fun z => hin0 z c
      refine ⟨n0_6 hn, ?_⟩
      rw [bk_h (hp := 19) (by decide +kernel), b_12_19 hq]
      refine hQ 2 _ X _ (nr_t hn) fun Q2 hQ2 => ?_
      exact c_206 (d := d + 196) hp (J_rt hJ) h1 h2 k1 k2 g1 g2 (fun z => absurd a' z) (fun _ _ _ _ => hQ2 0 _ (J_th hJ) mm_us (fun z => absurd z (by decide))) (fun _ _ z => by
        rcases z with z | z
        · exact absurd z cb
        · exact absurd ((hini cb).mpr c) z)
    · rw [if_neg c, bk_v, b_12_10 hq, mm_w0, mm_gd (by decide)]
      refine hQ 0 _ X n nr_r fun Q2 hQ2 => ?_
      have hr := mm_tr_r he
      have hw := hwf a.1 a.2 c
      generalize hA : mm_u (chf μ) (mm_tr e + 1) m b = A
      have A1 : A (mm_tr e + 1) = mm_u μ (mm_tr e + 1) m b (mm_tr e + 1) := by
        funext j
        rw [← hA, mm_ux, mm_ux, chf_x (by omega)]
      have A0 : ∀ a, a ≠ 107 → a ≠ mm_tr e + 1 → A a = μ a := fun a b1 b3 => by
        rw [← hA, mm_uu b3, chf_x b1]
      have A7 : A 107 = chf μ 107 := by rw [← hA, mm_uu (by omega)]
      have A6 : A (mm_tr e) 6 = μ (mm_tr e) 6 := by rw [A0 (mm_tr e) (by omega) (by omega)]
      have hwA : fo_wf (A (mm_tr e + 1)) := by rw [A1]; exact hw
      have hdep : tr_arr e A (mm_tr e + 3) m = fo_dp (A (mm_tr e + 1)) 6 m := by
        obtain ⟨_, _, _, _, k5⟩ := tr_arr_ok hwA
        have hrow := tr_arr_row (z := e) (μ := A) hwA (b := mm_tr e + 1) (by omega) (by omega) (by omega) (by omega)
        rw [hrow] at k5
        refine k5 m hs.1 hs.2 ?_
        rw [A1, mm_us]
        rcases a.2.2 with q | q <;> omega
      generalize hv : tr_arr e A (mm_tr e + 3) m = v at *
      generalize hM : mm_u (tr_arr e A) 178 0 (mm_w v) = M
      have eM : ∀ a, 129 ≤ a → a ≠ 178 → M a = μ a := fun a a1 a2 => by
        rw [← hM, mm_uu a2, tr_arr_row hwA (by omega) (by omega) (by omega) (by omega), A0 a (by omega) (by omega)]
      have hrt : rt_a M := fun x x0 x1 m m0 m1 => by rw [eM 130 (by decide) (by decide), eM 131 (by decide) (by decide)]; exact J_rt hJ x x0 x1 m m0 m1
      have hknM : rknown M e b := by unfold rknown; rw [eM 130 (by decide) (by decide)]; exact a'.2
      have hmM : 0 ≤ m ∧ m < 6 ∧ M 130 (6 * e + m) ≠ 0 := by rw [eM 130 (by decide) (by decide)]; exact a'.1
      have hrq : rq M e = rq μ e := by unfold rq; rw [eM 131 (by decide) (by decide)]
      have hnin : b = -1 ∨ ¬ rt_u (rq M e) m 6 b = m := by
        rw [hrq]
        by_cases z : b = -1
        · exact Or.inl z
        · exact Or.inr fun q => c ((hini z).mp q)
      refine c_206 (d := d + 196) hp hrt h1 h2 k1 k2 g1 g2 (fun z => absurd ⟨hmM, hknM⟩ z) (fun _ _ z y => by
        rcases hnin with q | q
        · exact absurd q z
        · exact absurd y q) (fun _ _ _ => ?_)
      generalize hB : mm_u (rth M 0) 131 (6 * e + m) b = B
      have B0 : B 130 = μ 130 := by rw [← hB, mm_uu (by decide), rth_row (by decide), eM 130 (by decide) (by decide)]
      have B1 : ∀ x, B 131 (6 * e + x) = if x = m then b else μ 131 (6 * e + x) := fun x => by
        rw [← hB, mm_ux, rth_row (by decide), eM 131 (by decide) (by decide)]
        by_cases z : x = m
        · rw [if_pos ⟨rfl, by rw [z]⟩, if_pos z]
        · rw [if_neg (fun q => z (by have := q.2; omega)), if_neg z]
      have h1m := (J_rt hJ e he.1 he.2 m hs.1 hs.2).1
      have h130 : μ 130 (6 * e + m) = 1 := by have := a'.1.2.2; omega
      have rpB : ∀ x, 0 ≤ x → x < 6 → rp B e x = if x = m then b else rp μ e x := fun x x0 x1 => by
        unfold rp
        rw [B0, B1]
        by_cases z : x = m
        · rw [z, if_pos h130, if_pos rfl, if_pos rfl]
        · simp only [if_neg z]
      have hb2 : b ≠ -2 := by rcases a.2.2 with q | q <;> omega
      have hag : fo_ag (A (mm_tr e + 1)) (rp B e) := fun x x0 x6 => by
        rw [A1, rpB x x0 x6, mm_ux]
        by_cases z : x = m
        · rw [if_pos ⟨rfl, z⟩, if_pos z]
        · rw [if_neg (fun q => z q.2), if_neg z]; exact t4 x x0 x6
      have hwB : fo_wf (rp B e) := fo_wf_ag hag hwA
      refine ⟨hwB, fun μ' f fo => ?_⟩
      have B2 : B 132 = μ 132 := by rw [← hB, mm_uu (by decide), rth_row (by decide), eM 132 (by decide) (by decide)]
      have hk132 := hJ.2.2.2.2.2.2.2.2.2.2.1
      obtain ⟨r1, r2, r3⟩ := J_tree2 (A := A) (B := B) (v := mm_w v) (z6 := μ (mm_tr e) 6) (μ' := μ') he hJ (fun a b1 b2 b3 b4 => A0 a b1 b3) A7 A6 t2.2.2 hwA (fun j j0 j6 => by rw [A0 _ (by omega) (by omega)]; exact (t2.1 j j0 j6).2.1) (fun a b1 b2 b3 b4 => by rw [← hB, mm_uu b3, rth_row b1, ← hM]) (fun j hj => by rw [← hB, mm_uu (by decide)]; unfold rth; rw [mm_un hj, eM 129 (by decide) (by decide)]) (fun j hj => by
          rw [B2, B0, ← hB, mm_un (by omega), rth_row (by decide), eM 131 (by decide) (by decide)]
          exact ⟨rfl, rfl, rfl⟩) hag (fun x x0 x6 q => by
          rw [A0 _ (by omega) (by omega), B2]
          refine t5 x x0 x6 ?_
          rw [rpB x x0 x6] at q
          by_cases z : x = m
          · rw [z]; exact hps
          · rw [if_neg z] at q; exact q) (by rw [t6]; exact (rt_many_sm hps hb2 rpB).symm) (fun x x0 x6 => by rw [B2]; exact hk132 _ (by omega) (by omega)) (fun x x0 x6 q => by
          rw [rpB x x0 x6]
          split
          · exact hb2
          · exact q) f fo
      refine hQ2 _ _ r1 ?_ (fun _ => ?_)
      · rw [r3, ← hB, mm_uu (by decide)]
        exact mm_us
      · rw [r2, hdep, ag_dp hag (fun x x0 x6 => by have := (hwA x x0 x6).1; omega) 6 m hs.1 hs.2, q_dp hwB 6 m hs.1 hs.2 (by rw [rpB m hs.1 hs.2, if_pos rfl]; exact hb2)]
  · rw [if_pos a]
    refine ⟨n0_6 hn, ?_⟩
    rw [bk_h (hp := 15) (by decide +kernel), b_12_15 hq]
    refine hQ 1 _ X _ (nr_t hn) fun Q2 hQ2 => ?_
    exact c_206 (d := d + 196) hp (J_rt hJ) h1 h2 k1 k2 g1 g2 (fun _ => hQ2 0 _ (J_th hJ) mm_us (fun z => absurd z (by decide))) (fun y z _ _ => absurd (hiff.mpr ⟨y, z⟩) a) (fun y z _ => absurd (hiff.mpr ⟨y, z⟩) a)
end LC
