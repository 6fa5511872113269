/-! The class's pattern. -/
section PT
variable {d : Nat} {Q : am_Ou → am_G → Prop} {w : mm_Z} {μ : mm_M} {X : mm_X} {n : mm_N} {e m k : Int}
theorem c_39 (hq : mm_P w) (ht : ct_a μ) (h1 : -2147483648 ≤ e) (h2 : e ≤ 2147483647) (k1 : -2147483648 ≤ k) (k2 : k ≤ 2147483647) (g1 : -2147483648 ≤ m) (g2 : m ≤ 2147483647) : am_C (d + 3) 39 [.ref 32, .int (Int32.ofInt (e)), .int (Int32.ofInt (k)), .int (Int32.ofInt (m))] (mm_hp w μ X n) Q ↔ if ¬ ((0 ≤ e ∧ e < 3) ∧ ((k = 1 ∨ k = 2) → (0 ≤ e ∧ e < 3 ∧ 0 ≤ m ∧ m < 6 ∧ μ (mm_tr e + 1) m ≠ -2))) then mm_thr Q w μ X n 0 else if ¬ (0 ≤ k ∧ k ≤ 2) then mm_thr Q w μ X n 1 else Q (.inl none) (mm_hp w (mm_u (mm_u μ 103 e k) 104 e (if k = 0 then 0 else m)) X n) := by
  rw [en_39 (d := d + 2), b_39_0 hq]
  have s43 : ¬ ((0 ≤ e ∧ e < 3) ∧ ((k = 1 ∨ k = 2) → (0 ≤ e ∧ e < 3 ∧ 0 ≤ m ∧ m < 6 ∧ μ (mm_tr e + 1) m ≠ -2))) → ∀ x4 : Int, (am_E (d + 2) 39 Q (43, [some (.ref 32), some (.int (Int32.ofInt (e))), some (.int (Int32.ofInt (k))), some (.int (Int32.ofInt (m))), some (.int (Int32.ofInt (x4)))], [], mm_hp w μ X n) ↔ if ¬ ((0 ≤ e ∧ e < 3) ∧ ((k = 1 ∨ k = 2) → (0 ≤ e ∧ e < 3 ∧ 0 ≤ m ∧ m < 6 ∧ μ (mm_tr e + 1) m ≠ -2))) then mm_thr Q w μ X n 0 else if ¬ (0 ≤ k ∧ k ≤ 2) then mm_thr Q w μ X n 1 else Q (.inl none) (mm_hp w (mm_u (mm_u μ 103 e k) 104 e (if k = 0 then 0 else m)) X n)) := by
    intro hp x4
    rw [b_39_43 hq, if_pos hp]
    rfl
  have s51 : ((0 ≤ e ∧ e < 3) ∧ ((k = 1 ∨ k = 2) → (0 ≤ e ∧ e < 3 ∧ 0 ≤ m ∧ m < 6 ∧ μ (mm_tr e + 1) m ≠ -2))) → ∀ x4 : Int, (x4 = 0 ∨ x4 = 1) → (x4 = 0 → ¬ (k = 1 ∨ k = 2)) → (x4 = 1 → k = 1 ∨ k = 2) → (am_E (d + 2) 39 Q (51, [some (.ref 32), some (.int (Int32.ofInt (e))), some (.int (Int32.ofInt (k))), some (.int (Int32.ofInt (m))), some (.int (Int32.ofInt (x4)))], [], mm_hp w μ X n) ↔ if ¬ ((0 ≤ e ∧ e < 3) ∧ ((k = 1 ∨ k = 2) → (0 ≤ e ∧ e < 3 ∧ 0 ≤ m ∧ m < 6 ∧ μ (mm_tr e + 1) m ≠ -2))) then mm_thr Q w μ X n 0 else if ¬ (0 ≤ k ∧ k ≤ 2) then mm_thr Q w μ X n 1 else Q (.inl none) (mm_hp w (mm_u (mm_u μ 103 e k) 104 e (if k = 0 then 0 else m)) X n)) := by
    intro hp x4 hx h0 h1'
    obtain ⟨he, _⟩ := id hp
    rw [b_39_51 hq, if_neg (show ¬ ¬ ((0 ≤ e ∧ e < 3) ∧ ((k = 1 ∨ k = 2) → (0 ≤ e ∧ e < 3 ∧ 0 ≤ m ∧ m < 6 ∧ μ (mm_tr e + 1) m ≠ -2))) from fun q => q hp)]
    by_cases a : k < 0
    · rw [if_pos (by rw [mm_ltx, mm_wv (by omega) (by omega), mm_wv (by omega) (by omega)]; exact a), if_pos (show ¬ (0 ≤ k ∧ k ≤ 2) by omega), b_39_60 hq]
      rfl
    · rw [if_neg (by rw [mm_ltx, mm_wv (by omega) (by omega), mm_wv (by omega) (by omega)]; exact a)]
      by_cases b : k < 3
      · rw [if_pos (by rw [mm_ltx, mm_wv (by omega) (by omega), mm_wv (by omega) (by omega)]; exact b), if_neg (show ¬ ¬ (0 ≤ k ∧ k ≤ 2) by omega)]
        simp (disch := omega) only [mm_gd, mm_wv]
        rcases hx with rfl | rfl
        · rw [if_pos rfl, b_39_96 hq, if_pos (show k = 0 by have := h0 rfl; omega)]
          simp (disch := omega) only [mm_gd, mm_wv]
        · rw [if_neg (by decide), b_39_96 hq, if_neg (show ¬ k = 0 by have := h1' rfl; omega)]
          simp (disch := omega) only [mm_gd, mm_wv]
      · rw [if_neg (by rw [mm_ltx, mm_wv (by omega) (by omega), mm_wv (by omega) (by omega)]; exact b), if_pos (show ¬ (0 ≤ k ∧ k ≤ 2) by omega), b_39_60 hq]
        rfl
  have s15 : ∀ s : Int, (s = 0 ∨ s = 1) → (s = 0 → ¬ (k = 1 ∨ k = 2)) → (s = 1 → k = 1 ∨ k = 2) → (am_E (d + 2) 39 Q (15, [some (.ref 32), some (.int (Int32.ofInt (e))), some (.int (Int32.ofInt (k))), some (.int (Int32.ofInt (m))), none], [.int (Int32.ofInt (s))], mm_hp w μ X n) ↔ if ¬ ((0 ≤ e ∧ e < 3) ∧ ((k = 1 ∨ k = 2) → (0 ≤ e ∧ e < 3 ∧ 0 ≤ m ∧ m < 6 ∧ μ (mm_tr e + 1) m ≠ -2))) then mm_thr Q w μ X n 0 else if ¬ (0 ≤ k ∧ k ≤ 2) then mm_thr Q w μ X n 1 else Q (.inl none) (mm_hp w (mm_u (mm_u μ 103 e k) 104 e (if k = 0 then 0 else m)) X n)) := by
    intro s hs h0 h1'
    rw [b_39_15 hq]
    by_cases a : e < 0
    · rw [if_pos (by rw [mm_ltx, mm_wv (by omega) (by omega), mm_wv (by omega) (by omega)]; exact a)]
      exact s43 (fun q => by have := q.1; omega) _
    · rw [if_neg (by rw [mm_ltx, mm_wv (by omega) (by omega), mm_wv (by omega) (by omega)]; exact a)]
      by_cases b : 3 ≤ e
      · rw [if_pos (by rw [mm_lex, mm_wv (by omega) (by omega), mm_wv (by omega) (by omega)]; exact b)]
        exact s43 (fun q => by have := q.1; omega) _
      · rw [if_neg (by rw [mm_lex, mm_wv (by omega) (by omega), mm_wv (by omega) (by omega)]; exact b)]
        rcases hs with rfl | rfl
        · rw [if_pos rfl]
          exact s51 ⟨by omega, fun q => absurd q (h0 rfl)⟩ 0 (Or.inl rfl) h0 h1'
        · rw [if_neg (by decide), c_126 (d := d) hq h1 h2 g1 g2 ht, bk_v, b_39_40 hq]
          by_cases c : (0 ≤ e ∧ e < 3 ∧ 0 ≤ m ∧ m < 6 ∧ μ (mm_tr e + 1) m ≠ -2)
          · rw [if_pos c, if_neg (by decide)]
            exact s51 ⟨by omega, fun _ => c⟩ 1 (Or.inr rfl) h0 h1'
          · rw [if_neg c, if_pos rfl]
            exact s43 (fun q => c (q.2 (h1' rfl))) _
  by_cases a : k = 1
  · rw [if_pos (by rw [a]), b_39_10 hq]
    exact s15 1 (Or.inr rfl) (fun q => absurd q (by decide)) (fun _ => Or.inl a)
  · rw [if_neg (by rw [mm_eqx, mm_wv (by omega) (by omega), mm_wv (by omega) (by omega)]; exact a)]
    by_cases b : k = 2
    · rw [if_pos (by rw [b]), b_39_10 hq]
      exact s15 1 (Or.inr rfl) (fun q => absurd q (by decide)) (fun _ => Or.inr b)
    · rw [if_neg (by rw [mm_eqx, mm_wv (by omega) (by omega), mm_wv (by omega) (by omega)]; exact b)]
      exact s15 0 (Or.inl rfl) (fun _ q => by omega) (fun q => absurd q (by decide))
end PT
