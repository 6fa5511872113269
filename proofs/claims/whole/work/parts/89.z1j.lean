/-! Calls of both sides: rule. -/
section RU
variable {d : Nat} {Q : am_Ou → am_G → Prop} {w : mm_Z} {μ μ' : mm_M} {X : mm_X} {n : mm_N} {e m l k v b s x z r c i R : Int} {T : Nat → Int} {N : Nat}
/-- the draft's pattern goes into slot R of the reference's rules, up to dimension k -/
def rpat (μ : mm_M) (R k : Int) : mm_M := fun x j => if x = 139 ∧ 3 * R ≤ j ∧ j < 3 * R + k then μ 148 (j - 3 * R) else if x = 140 ∧ 3 * R ≤ j ∧ j < 3 * R + k then μ 149 (j - 3 * R) else if x = 148 ∧ 0 ≤ j ∧ j < k then 0 else μ x j
theorem rpat_s (h : 0 ≤ k) : mm_u (mm_u (mm_u (rpat μ R k) 139 (3 * R + k) (rpat μ R k 148 k)) 140 (3 * R + k) (rpat μ R k 149 k)) 148 k 0 = rpat μ R (k + 1) := by
  have e1 : rpat μ R k 148 k = μ 148 k := by
    unfold rpat
    rw [if_neg (by omega), if_neg (by omega), if_neg (by omega)]
  have e2 : rpat μ R k 149 k = μ 149 k := by
    unfold rpat
    rw [if_neg (by omega), if_neg (by omega), if_neg (by omega)]
  rw [e1, e2]
  funext x j
  rw [mm_ux, mm_ux, mm_ux]
  unfold rpat
  by_cases a : x = 148 ∧ j = k
  · rw [if_pos a, if_neg (by omega), if_neg (by omega), if_pos (by omega)]
  · rw [if_neg a]
    by_cases a2 : x = 140 ∧ j = 3 * R + k
    · rw [if_pos a2, if_neg (by omega), if_pos (by omega), show j - 3 * R = k by omega]
    · rw [if_neg a2]
      by_cases a3 : x = 139 ∧ j = 3 * R + k
      · rw [if_pos a3, if_pos (by omega), show j - 3 * R = k by omega]
      · rw [if_neg a3]
        by_cases b1 : x = 139 ∧ 3 * R ≤ j ∧ j < 3 * R + k
        · rw [if_pos b1, if_pos (by omega)]
        · rw [if_neg b1]
          by_cases b2 : x = 140 ∧ 3 * R ≤ j ∧ j < 3 * R + k
          · rw [if_pos b2, if_neg (by omega), if_pos (by omega)]
          · rw [if_neg b2]
            by_cases b3 : x = 148 ∧ 0 ≤ j ∧ j < k
            · rw [if_pos b3, if_neg (by omega), if_neg (by omega), if_pos (by omega)]
            · rw [if_neg b3, if_neg (by omega), if_neg (by omega), if_neg (by omega)]
theorem rpat_0 : rpat μ R 0 = μ := by
  funext x j
  unfold rpat
  rw [if_neg (by omega), if_neg (by omega), if_neg (by omega)]
theorem rpat_o {a : Nat} (h : a ≠ 139 ∧ a ≠ 140 ∧ a ≠ 148) : rpat μ R k a = μ a := by
  funext j
  unfold rpat
  rw [if_neg (fun q => h.1 q.1), if_neg (fun q => h.2.1 q.1), if_neg (fun q => h.2.2 q.1)]
theorem rpat_139 {j : Int} : rpat μ R k 139 j = if 3 * R ≤ j ∧ j < 3 * R + k then μ 148 (j - 3 * R) else μ 139 j := by
  unfold rpat
  by_cases a : 3 * R ≤ j ∧ j < 3 * R + k
  · rw [if_pos ⟨rfl, a⟩, if_pos a]
  · rw [if_neg (fun q => a q.2), if_neg a, if_neg (by omega), if_neg (by omega)]
theorem rpat_140 {j : Int} : rpat μ R k 140 j = if 3 * R ≤ j ∧ j < 3 * R + k then μ 149 (j - 3 * R) else μ 140 j := by
  unfold rpat
  by_cases a : 3 * R ≤ j ∧ j < 3 * R + k
  · rw [if_neg (by omega), if_pos ⟨rfl, a⟩, if_pos a]
  · rw [if_neg (by omega), if_neg (fun q => a q.2), if_neg a, if_neg (by omega)]
theorem rpat_148 {j : Int} : rpat μ R k 148 j = if 0 ≤ j ∧ j < k then 0 else μ 148 j := by
  unfold rpat
  by_cases a : 0 ≤ j ∧ j < k
  · rw [if_neg (by omega), if_neg (by omega), if_pos ⟨rfl, a⟩, if_pos a]
  · rw [if_neg (by omega), if_neg (by omega), if_neg (fun q => a q.2), if_neg a]
theorem c_225_32 (hq : mm_P w) (h0 : 0 ≤ R ∧ R < 8) (hR : μ 129 11 = R) {x1 : Int} : ∀ (f : Nat) (k : Int), 0 ≤ k → k + f = 3 → (am_E (d + 1) 225 Q (32, [some (.ref 129), some (.int (Int32.ofInt (x1))), some (.int (Int32.ofInt (k)))], [], mm_hp w (rpat μ R k) X n) ↔ am_E (d + 1) 225 Q (32, [some (.ref 129), some (.int (Int32.ofInt (x1))), some (.int (Int32.ofInt (3)))], [], mm_hp w (rpat μ R 3) X n)) := by
  intro f
  induction f with
  | zero =>
    intro k k0 k1
    obtain rfl : k = 3 := by omega
    exact Iff.rfl
  | succ f ih =>
    intro k k0 k1
    have e9 : rpat μ R k 129 11 = R := by rw [rpat_o (by decide), hR]
    rw [b_225_32 hq]
    rw [if_neg (by rw [mm_lex, mm_wv (by omega) (by omega), mm_wv (by omega) (by omega)]; omega)]
    simp (disch := omega) only [and_self, true_and, mm_ltx, mm_lex, mm_eqx, mm_wv, mm_gd, ↓reduceIte, Int.reduceAdd, Int.reduceSub, Int.reduceNeg, Int.reduceLE, Int.reduceLT, Int.reduceMul, Int.reduceEq, mm_uu (show (129 : Nat) ≠ 139 by decide), mm_uu (show (149 : Nat) ≠ 139 by decide), e9]
    rw [rpat_s k0]
    exact ih (k + 1) (by omega) (by omega)
theorem c_225 (hq : mm_P w) (h11 : 0 ≤ μ 129 11 ∧ μ 129 11 ≤ 8) (ht : rd_tr T N μ)
    (q1 : μ 129 11 = 8 → Q (.inl (some (.int (Int32.ofInt (0))))) (mm_hp w (rth μ 1) X n))
    (q2 : μ 129 11 < 8 → ∀ v : Nat, rd_R T N (rd_q0, [(0, 0, 0, 0, -1)], [], rd_C0, rd_S0) 0 = (none, (v : Int)) → v ≤ 24 → ∀ μ', rd_F2 (μ 129 11) (rth μ 0) μ' → Q (.inl (some (.int (Int32.ofInt (1 + (v : Int)))))) (mm_hp w (mm_u (rpat μ' (μ 129 11) 3) 129 23 0) X n))
    (q3 : μ 129 11 < 8 → ∀ C' S' v, rd_R T N (rd_q0, [(0, 0, 0, 0, -1)], [], rd_C0, rd_S0) 0 = (some (C', S'), v) → ∀ μ', rd_F2 (μ 129 11) (rth μ 0) μ' → rd_RC (μ 129 11) μ' C' → rd_RS (μ 129 11) μ' S' → Q (.inl (some (.int (Int32.ofInt (1 + -1))))) (mm_hp w (rfgt (mm_u (mm_u (rpat μ' (μ 129 11) 3) 129 23 0) 129 11 (μ 129 11 + 1))) X n))
    (hv : μ 129 11 < 8 → ∀ v, rd_R T N (rd_q0, [(0, 0, 0, 0, -1)], [], rd_C0, rd_S0) 0 = (none, v) → ∃ u : Nat, v = u ∧ u ≤ 24) : am_C (d + 8) 225 [.ref 129] (mm_hp w μ X n) Q := by
  rw [en_225 (d := d + 7), b_225_0 hq]
  by_cases a : μ 129 11 = 8
  · rw [if_pos (by rw [mm_lex, mm_wv (by omega) (by omega), mm_wv (by omega) (by omega)]; omega), b_225_15 hq, d_185x (d := d + 6) hq (by decide) (by decide) (by decide), bk_v, show rwhy 0 1 1 = 1 from rfl, if_neg (by decide), b_225_20 hq, if_pos (by decide)]
    exact q1 a
  · have a8 : μ 129 11 < 8 := by omega
    rw [if_neg (by rw [mm_lex, mm_wv (by omega) (by omega), mm_wv (by omega) (by omega)]; omega), b_225_15 hq, d_185x (d := d + 6) hq (by decide) (by decide) (by decide), bk_v, show rwhy 1 1 1 = 0 from rfl, if_pos rfl, b_225_20 hq, if_neg (by decide)]
    have e11 : rth μ 0 129 11 = μ 129 11 := by unfold rth; rw [mm_un (by decide)]
    have ht' : rd_tr T N (rth μ 0) := ⟨ht.1, by unfold rth; rw [mm_un (by decide)]; exact ht.2.1, by rw [rth_row (by decide)]; exact ht.2.2⟩
    have loop : ∀ (x1 : Int) (μ' : mm_M), rd_F2 (μ 129 11) (rth μ 0) μ' → (am_E (d + 7) 225 Q (32, [some (.ref 129), some (.int (Int32.ofInt (x1))), some (.int (Int32.ofInt (0)))], [], mm_hp w μ' X n) ↔ am_E (d + 7) 225 Q (32, [some (.ref 129), some (.int (Int32.ofInt (x1))), some (.int (Int32.ofInt (3)))], [], mm_hp w (rpat μ' (μ 129 11) 3) X n)) := fun x1 μ' hf => by
      have := c_225_32 (d := d + 6) (Q := Q) (X := X) (n := n) (x1 := x1) (μ := μ') (R := μ 129 11) hq ⟨h11.1, a8⟩ (by rw [hf 129 11 (by omega), e11]) 3 0 (by decide) (by decide)
      rw [rpat_0] at this
      exact this
    refine c_220 (d := d + 1) (R := μ 129 11) hq ⟨h11.1, a8⟩ ht' e11 (fun v hv' μ' hf => ?_) (fun C' S' v hv' μ' hf hC hS => ?_)
    · obtain ⟨u, rfl, u2⟩ := hv a8 v hv'
      rw [bk_v, b_225_29 hq, loop _ _ hf, b_225_32 hq, if_pos (by decide), if_pos (by rw [mm_lex, mm_wv (by omega) (by omega), mm_wv (by omega) (by omega)]; omega), b_225_111 hq]
      exact q2 a8 u hv' u2 μ' hf
    · rw [bk_v, b_225_29 hq, loop _ _ hf, b_225_32 hq, if_pos (by decide), if_neg (by decide), c_182 (d := d + 6) hq, bk_n, b_225_111 hq, mm_un (by decide), rpat_o (by decide), hf 129 11 (by omega), e11]
      exact q3 a8 C' S' v hv' μ' hf hC hS
end RU
