/-! Spread: the class asks whether it can. -/
section SC
variable {d : Nat} {Q : am_Ou → am_G → Prop} {w : mm_Z} {μ : mm_M} {X : mm_X} {n : mm_N} {e m c v i l a : Int} {W V : Int → Int}
theorem cwt_b (hg : cg_r μ) (hc : 0 ≤ c ∧ c < 216) (hl : 0 ≤ l ∧ l < 3) : -2147483648 ≤ cwt μ l c ∧ cwt μ l c ≤ 2147483647 := by
  have hb := csee_b hg hc (l + 1).toNat (by omega)
  unfold cwt
  split <;> omega
theorem csee_c {μ' : mm_M} (h : ∀ a, 97 ≤ a → a ≤ 99 → μ' a = μ a) : ∀ k : Nat, csee μ' c k = csee μ c k := by
  intro k
  induction k with
  | zero => rfl
  | succ k ih =>
    have := mm_inr_r k
    unfold csee
    rw [ih, h (mm_inr k) (by omega) (by omega)]
theorem cwt_c {μ' : mm_M} (h : ∀ a, 97 ≤ a → a ≤ 99 → μ' a = μ a) : cwt μ' l c = cwt μ l c := by
  unfold cwt
  rw [csee_c h]
theorem mm_uo {x : Nat} {j y z : Int} : mm_u (mm_u μ x j y) x j z = mm_u μ x j z := by
  funext b i
  rw [mm_ux, mm_ux, mm_ux]
  by_cases h : b = x ∧ i = j
  · rw [if_pos h, if_pos h]
  · rw [if_neg h, if_neg h, if_neg h]
theorem c_135 (hq : mm_P w) (hg : cg_r μ) (hl : 0 ≤ l ∧ l < 3) {s : Nat} (hs : μ 125 5 = s) (hs2 : s ≤ 216) (hc : ∀ j : Int, 0 ≤ j → j < s → 0 ≤ μ 126 j ∧ μ 126 j < 216) (h1 : bl (fun j => decide (0 ≤ cwt μ l (μ 126 j))) s 0 = true → Q (.inl (some (.int (Int32.ofInt (if -2000000000 ≤ tot (fun j => cwt μ l (μ 126 j)) s 0 ∧ tot (fun j => cwt μ l (μ 126 j)) s 0 ≤ 2000000000 then 1 else 0))))) (mm_hp w (mm_u μ 125 4 (tot (fun j => cwt μ l (μ 126 j)) s 0)) X n)) (h2 : bl (fun j => decide (0 ≤ cwt μ l (μ 126 j))) s 0 = false → ∀ a, Q (.inl (some (.int (Int32.ofInt (0))))) (mm_hp w (mm_u μ 125 4 a) X n)) : am_C (d + 3) 135 [.ref 125, .int (Int32.ofInt (l))] (mm_hp w μ X n) Q := by
  obtain ⟨W, hW⟩ : ∃ W : Int → Int, W = fun j => cwt μ l (μ 126 j) := ⟨_, rfl⟩
  have hWb : ∀ j : Int, 0 ≤ j → j < s → -2147483648 ≤ W j ∧ W j ≤ 2147483647 := fun j j0 j1 => by rw [hW]; exact cwt_b hg (hc j j0 j1) hl
  have eP : (fun j => decide (0 ≤ cwt μ l (μ 126 j))) = fun j => decide (0 ≤ W j) := by rw [hW]
  rw [eP] at h1 h2
  rw [← hW] at h1
  have key : ∀ (k i : Nat) (e3 : Option Value), i + k = s → ∀ a : Int, (-2147483648 * (i : Int) ≤ a ∧ a ≤ 2147483648 * (i : Int)) → (bl (fun j => decide (0 ≤ W j)) k i = true → Q (.inl (some (.int (Int32.ofInt (if -2000000000 ≤ a + tot W k i ∧ a + tot W k i ≤ 2000000000 then 1 else 0))))) (mm_hp w (mm_u μ 125 4 (a + tot W k i)) X n)) → (bl (fun j => decide (0 ≤ W j)) k i = false → ∀ a, Q (.inl (some (.int (Int32.ofInt (0))))) (mm_hp w (mm_u μ 125 4 a) X n)) → am_E (d + 2) 135 Q (7, [some (.ref 125), some (.int (Int32.ofInt (l))), some (.int (Int32.ofInt ((i : Int)))), e3, none], [], mm_hp w (mm_u μ 125 4 a) X n) := by
    intro k
    induction k with
    | zero =>
      intro i e3 hi a ha h1 h2
      have e5 : mm_u μ 125 4 a 125 5 = s := by rw [mm_un (by decide), hs]
      have e4 : mm_u μ 125 4 a 125 4 = a := mm_us
      have h1 := h1 rfl
      rw [show a + tot W 0 i = a from Int.add_zero a] at h1
      rw [b_135_7 hq, e5, e4, if_pos (by rw [mm_lex, mm_wv (by omega) (by omega), mm_wv (by omega) (by omega)]; omega), c_54 (d := d + 1) hq (by omega) (by omega), bk_v, b_135_58 hq]
      by_cases z : -2000000000 ≤ a ∧ a ≤ 2000000000
      · rw [if_pos z] at h1 ⊢
        rw [if_pos (by decide)]
        exact h1
      · rw [if_neg z] at h1 ⊢
        rw [if_pos (by decide)]
        exact h1
    | succ k ih =>
      intro i e3 hi a ha h1 h2
      have e5 : mm_u μ 125 4 a 125 5 = s := by rw [mm_un (by decide), hs]
      have e4 : mm_u μ 125 4 a 125 4 = a := mm_us
      have hci := hc i (by omega) (by omega)
      have hwi := hWb i (by omega) (by omega)
      have hg' : cg_r (mm_u μ 125 4 a) := cg_r_c (by rw [mm_uu (by decide)]) (fun b b1 b2 => mm_uu (by omega)) hg
      have ew : cwt (mm_u μ 125 4 a) l (μ 126 i) = W i := by rw [hW]; exact cwt_c (fun b b1 b2 => mm_uu (by omega))
      have hbl : bl (fun j => decide (0 ≤ W j)) (k + 1) i = (decide (0 ≤ W i) && bl (fun j => decide (0 ≤ W j)) k (i + 1)) := rfl
      rw [b_135_7 hq, e5, mm_uu (show (126 : Nat) ≠ 125 by decide), if_neg (by rw [mm_lex, mm_wv (by omega) (by omega), mm_wv (by omega) (by omega)]; omega)]
      simp (disch := omega) only [and_self, true_and, mm_ltx, mm_lex, mm_eqx, mm_wv, mm_gd, ↓reduceIte, Int.reduceAdd, Int.reduceSub, Int.reduceNeg, Int.reduceLE, Int.reduceLT, Int.reduceMul, Int.reduceEq]
      rw [c_141 (d := d) hq hg' hci hl, ew, bk_v, b_135_26 hq]
      by_cases z : 0 ≤ W i
      · rw [if_pos (by rw [mm_lex8, mm_w8v (by omega) (by omega), mm_w8v (by omega) (by omega)]; exact z), e4, mm_uo]
        rw [hbl, decide_eq_true z, Bool.true_and] at h1 h2
        have := ih (i + 1) (some (.long (Int64.ofInt (W i)))) (by omega) (a + W i) (by omega) (fun h => by
          rw [show a + W i + tot W k ((i + 1 : Nat) : Int) = a + tot W (k + 1) i by show _ = a + (W i + tot W k (i + 1)); rw [show ((i + 1 : Nat) : Int) = (i : Int) + 1 by omega]; omega]
          exact h1 (by rw [show (i : Int) + 1 = ((i + 1 : Nat) : Int) by omega]; exact h)) (fun h => h2 (by rw [show (i : Int) + 1 = ((i + 1 : Nat) : Int) by omega]; exact h))
        rw [show (i : Int) + 1 = ((i + 1 : Nat) : Int) by omega]
        exact this
      · rw [if_neg (by rw [mm_lex8, mm_w8v (by omega) (by omega), mm_w8v (by omega) (by omega)]; exact z)]
        exact h2 (by rw [hbl, decide_eq_false z, Bool.false_and]) a
  rw [en_135 (d := d + 2), b_135_0 hq]
  have := key s 0 none (by omega) 0 (by decide) (fun h => by rw [Int.zero_add]; exact h1 h) h2
  exact this
/-- the class may spread upon the cursor's cell from layer l -/
def cok (μ : mm_M) (l : Int) : Prop := ((cgs μ).length : Int) ≤ μ 122 8 ∧ bl (cpl1 μ) 216 0 = true ∧ cpln μ = true ∧ bl (fun j => decide (0 ≤ cwt μ l ((cgs μ).getD j.toNat 0))) (cgs μ).length 0 = true ∧ (-2000000000 ≤ tot (fun j => cwt μ l ((cgs μ).getD j.toNat 0)) (cgs μ).length 0 ∧ tot (fun j => cwt μ l ((cgs μ).getD j.toNat 0)) (cgs μ).length 0 ≤ 2000000000)
theorem ls_in {f : Int → List Int} {P : Int → Prop} : ∀ (k : Nat) (i : Int), (∀ j, i ≤ j → j < i + k → ∀ x ∈ f j, P x) → ∀ x ∈ ls f k i, P x := by
  intro k
  induction k with
  | zero => intro i _ x hx; exact absurd hx List.not_mem_nil
  | succ k ih =>
    intro i h x hx
    rcases List.mem_append.mp (show x ∈ f i ++ ls f k (i + 1) from hx) with hx | hx
    · exact h i (by omega) (by omega) x hx
    · exact ih (i + 1) (fun j j0 j1 => h j (by omega) (by omega)) x hx
theorem cgs_b (ht : ct_a μ) : ∀ x ∈ cgs μ, 0 ≤ x ∧ x < 216 := by
  refine ls_in 216 0 fun j j0 j1 x hx => ?_
  have := cla_b ht j0 (show j < 216 by omega)
  unfold cgt at hx
  split at hx
  · rename_i h
    have : x = cla μ j := by simpa using hx
    omega
  · exact absurd hx List.not_mem_nil
theorem cgs_l : (cgs μ).length ≤ 216 := by
  have := ls_len (f := cgt μ) 1 (fun j => cgt_l) 216 0
  unfold cgs
  omega
theorem cgs_at (ht : ct_a μ) (h0 : 0 ≤ i) (h1 : i < (cgs μ).length) : 0 ≤ (cgs μ).getD i.toNat 0 ∧ (cgs μ).getD i.toNat 0 < 216 := by
  have hlt : i.toNat < (cgs μ).length := by omega
  rw [List.getD_eq_getElem?_getD, List.getElem?_eq_getElem hlt]
  exact cgs_b ht _ (List.getElem_mem hlt)
theorem bl_c {P R : Int → Bool} : ∀ (k : Nat) (i : Int), (∀ j, i ≤ j → j < i + k → P j = R j) → bl P k i = bl R k i := by
  intro k
  induction k with
  | zero => intro i _; rfl
  | succ k ih =>
    intro i h
    unfold bl
    rw [h i (by omega) (by omega), ih (i + 1) (fun j j0 j1 => h j (by omega) (by omega))]
theorem cfits_c {μ' : mm_M} (h : ∀ a, 35 ≤ a → a ≤ 94 → μ' a = μ a) : cfits μ' v c = cfits μ v c ∧ crank μ' v = crank μ v := by
  have hv := mm_rl_r v
  have ht := mm_tr_v
  unfold cfits crank cfit cpat cdep
  rw [h (mm_rl v + 1) (by omega) (by omega), h (mm_rl v + 2) (by omega) (by omega), h (mm_tr 0 + 1) (by omega) (by omega), h (mm_tr 1 + 1) (by omega) (by omega), h (mm_tr 2 + 1) (by omega) (by omega), h (mm_tr 0 + 3) (by omega) (by omega), h (mm_tr 1 + 3) (by omega) (by omega), h (mm_tr 2 + 3) (by omega) (by omega), h (mm_tr 0 + 4) (by omega) (by omega), h (mm_tr 1 + 4) (by omega) (by omega), h (mm_tr 2 + 4) (by omega) (by omega)]
  exact ⟨rfl, rfl⟩
theorem cbest_c {μ' : mm_M} (h : ∀ a, 35 ≤ a → a ≤ 94 → μ' a = μ a) : ∀ k : Nat, cbest μ' c k = cbest μ c k := by
  intro k
  induction k with
  | zero => rfl
  | succ k ih =>
    unfold cbest
    rw [h 54 (by decide) (by decide), (cfits_c (v := μ 54 k) (c := c) h).1, (cfits_c (v := μ 54 k) (c := c) h).2, ih]
theorem c_134 (hq : mm_P w) (ht : ct_a μ) (hr : cr_r μ) (hc : cc_r μ) (hg : cg_r μ) (hl : 0 ≤ l ∧ l < 3) (h8 : 1 ≤ μ 122 8 ∧ μ 122 8 ≤ 2000)
    (q0 : ¬ cok μ l → ∀ μ', (∀ a, a ≠ 125 → a ≠ 126 → μ' a = μ a) → Q (.inl (some (.int (Int32.ofInt (0))))) (mm_hp w (μ') X n))
    (q1 : cok μ l → ∀ μ', (∀ a, a ≠ 125 → a ≠ 126 → μ' a = μ a) → μ' 125 5 = ((cgs μ).length : Int) → μ' 125 4 = tot (fun j => cwt μ l ((cgs μ).getD j.toNat 0)) (cgs μ).length 0 → (∀ j : Int, 0 ≤ j → j < (cgs μ).length → μ' 126 j = (cgs μ).getD j.toNat 0) → Q (.inl (some (.int (Int32.ofInt (1))))) (mm_hp w (μ') X n)) : am_C (d + 6) 134 [.ref 125, .int (Int32.ofInt (l)), .ref 128, .int (Int32.ofInt (μ 122 8))] (mm_hp w μ X n) Q := by
  have hlen := cgs_l (μ := μ)
  rw [en_134 (d := d + 5), b_134_0 hq, c_136 (d := d + 1) hq ht hc, bk_n, b_134_5 hq]
  have e5 : cgm μ (cgs μ) 125 5 = ((cgs μ).length : Int) := mm_us
  have fr : ∀ a, a ≠ 125 → a ≠ 126 → cgm μ (cgs μ) a = μ a := fun a a0 a1 => cgm_o ⟨a0, a1⟩
  have ht' := cgm_ct (l := cgs μ) ht
  have hc' : cc_r (cgm μ (cgs μ)) := by unfold cc_r; rw [fr 128 (by decide) (by decide)]; exact hc
  have hr' : cr_r (cgm μ (cgs μ)) := cr_r_c (by rw [fr 53 (by decide) (by decide)]) (fr 54 (by decide) (by decide)) (fun b b1 b2 => fr b (by omega) (by omega)) hr
  have hg' : cg_r (cgm μ (cgs μ)) := cg_r_c (by rw [fr 95 (by decide) (by decide)]) (fun b b1 b2 => fr b (by omega) (by omega)) hg
  have p1 : cpl1 (cgm μ (cgs μ)) = cpl1 μ := by
    funext c
    have hin : cin (cgm μ (cgs μ)) c = cin μ c := cin_c (fun a a0 a1 => fr a (by omega) (by omega)) (fr 128 (by decide) (by decide))
    unfold cpl1
    rw [hin, fr 53 (by decide) (by decide), cbest_c (fun a a0 a1 => fr a (by omega) (by omega))]
  have p2 : ∀ e, 0 ≤ e ∧ e < 3 → cpl2 (cgm μ (cgs μ)) e = cpl2 μ e := fun e he => by
    have := mm_tr_r he
    funext m
    unfold cpl2
    rw [fr 128 (by decide) (by decide), fr (mm_tr e + 1) (by omega) (by omega), fr (mm_tr e + 2) (by omega) (by omega), fr (mm_tr e + 4) (by omega) (by omega)]
  have p3 : cpln (cgm μ (cgs μ)) = cpln μ := by
    unfold cpln
    rw [p2 0 (by decide), p2 1 (by decide), p2 2 (by decide)]
  have e6 : ∀ j : Int, 0 ≤ j → j < (cgs μ).length → cgm μ (cgs μ) 126 j = (cgs μ).getD j.toNat 0 := fun j j0 j1 => by
    unfold cgm mm_pl
    rw [mm_uu (by decide)]
    exact if_pos ⟨rfl, j0, j1⟩
  have ew : ∀ j : Int, 0 ≤ j → j < (0 : Int) + (cgs μ).length → cwt (cgm μ (cgs μ)) l (cgm μ (cgs μ) 126 j) = cwt μ l ((cgs μ).getD j.toNat 0) := fun j j0 j1 => by
    rw [e6 j j0 (by omega)]
    exact cwt_c (fun a a0 a1 => fr a (by omega) (by omega))
  have e7 : bl (fun j => decide (0 ≤ cwt (cgm μ (cgs μ)) l (cgm μ (cgs μ) 126 j))) (cgs μ).length 0 = bl (fun j => decide (0 ≤ cwt μ l ((cgs μ).getD j.toNat 0))) (cgs μ).length 0 := bl_c _ _ fun j j0 j1 => by show decide (0 ≤ _) = decide (0 ≤ _); rw [ew j j0 j1]
  have e8 : tot (fun j => cwt (cgm μ (cgs μ)) l (cgm μ (cgs μ) 126 j)) (cgs μ).length 0 = tot (fun j => cwt μ l ((cgs μ).getD j.toNat 0)) (cgs μ).length 0 := tot_c _ _ ew
  rw [e5]
  by_cases a : ((cgs μ).length : Int) ≤ μ 122 8
  · rw [if_neg (by rw [mm_ltx, mm_wv (by omega) (by omega), mm_wv (by omega) (by omega)]; omega), c_137 (d := d) hq ht' hr' hc', p1, bk_v, b_134_18 hq]
    by_cases b : bl (cpl1 μ) 216 0 = true
    · rw [if_pos b, if_pos (by decide), c_138 (d := d + 3) hq ht' hc', p3, bk_v, b_134_26 hq]
      by_cases c : cpln μ = true
      · rw [if_pos c, if_neg (by decide)]
        refine c_135 (d := d + 2) hq hg' hl (s := (cgs μ).length) e5 hlen (fun j j0 j1 => by rw [e6 j j0 j1]; exact cgs_at ht j0 j1) (fun g => ?_) (fun g a' => ?_)
        · rw [e7] at g
          rw [e8, bk_v, b_134_34 hq]
          have fr2 : ∀ a, a ≠ 125 → a ≠ 126 → mm_u (cgm μ (cgs μ)) 125 4 (tot (fun j => cwt μ l ((cgs μ).getD j.toNat 0)) (cgs μ).length 0) a = μ a := fun a a0 a1 => by rw [mm_uu a0, fr a a0 a1]
          by_cases z : -2000000000 ≤ tot (fun j => cwt μ l ((cgs μ).getD j.toNat 0)) (cgs μ).length 0 ∧ tot (fun j => cwt μ l ((cgs μ).getD j.toNat 0)) (cgs μ).length 0 ≤ 2000000000
          · rw [if_pos z, if_neg (by decide)]
            exact q1 ⟨a, b, c, g, z⟩ _ fr2 (by rw [mm_un (by decide)]; exact e5) mm_us (fun j j0 j1 => by rw [mm_uu (by decide)]; exact e6 j j0 j1)
          · rw [if_neg z, if_pos (by decide)]
            exact q0 (fun q => z q.2.2.2.2) _ fr2
        · rw [e7] at g
          rw [bk_v, b_134_34 hq, if_pos (by decide)]
          exact q0 (fun q => by rw [q.2.2.2.1] at g; exact absurd g (by decide)) _ (fun a a0 a1 => by rw [mm_uu a0, fr a a0 a1])
      · rw [if_neg c, if_pos (by decide)]
        exact q0 (fun q => c q.2.2.1) _ fr
    · rw [if_neg b, if_neg (by decide)]
      exact q0 (fun q => b q.2.1) _ fr
  · rw [if_pos (by rw [mm_ltx, mm_wv (by omega) (by omega), mm_wv (by omega) (by omega)]; omega)]
    exact q0 (fun q => a q.1) _ fr
end SC
