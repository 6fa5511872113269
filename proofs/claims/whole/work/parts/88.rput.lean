/-! The reference's put and erase. -/
section RP
variable {d : Nat} {Q : am_Ou → am_G → Prop} {w : mm_Z} {μ : mm_M} {X : mm_X} {n : mm_N} {c e m l k v : Int}
theorem rnew_o {b : Nat} (h : b ≠ 157 ∧ b ≠ 158 ∧ b ≠ 129) : rnew μ l b = μ b := by
  unfold rnew
  rw [mm_uu h.2.2, mm_uu h.2.2, mm_uu h.2.1, mm_uu h.1]
theorem rnew_f {j : Int} (h : j ≠ 37 ∧ j ≠ 38) : rnew μ l 129 j = μ 129 j := by
  unfold rnew
  rw [mm_un h.1, mm_un h.2, mm_uu (by decide), mm_uu (by decide)]
theorem rnew_37 : rnew μ l 129 37 = μ 129 38 + 1 := by
  unfold rnew
  rw [mm_us]
theorem rnew_38 : rnew μ l 129 38 = μ 129 38 + 1 := by
  unfold rnew
  rw [mm_un (by decide), mm_us]
theorem rnew_157 {j : Int} : rnew μ l 157 j = if j = μ 129 38 then l else μ 157 j := by
  unfold rnew
  rw [mm_uu (by decide), mm_uu (by decide), mm_uu (by decide), mm_ux]
  by_cases q : j = μ 129 38
  · rw [if_pos ⟨rfl, q⟩, if_pos q]
  · rw [if_neg (fun z => q z.2), if_neg q]
theorem rnew_158 {j : Int} : rnew μ l 158 j = if j = μ 129 38 then 0 else μ 158 j := by
  unfold rnew
  rw [mm_uu (by decide), mm_uu (by decide), mm_ux]
  by_cases q : j = μ 129 38
  · rw [if_pos ⟨rfl, q⟩, if_pos q]
  · rw [if_neg (fun z => q z.2), if_neg q, mm_uu (by decide)]
theorem rh_new (hr : rh_r μ) (hu : μ 129 38 < 12) (hl : 0 ≤ l ∧ l < 3) : rh_r (rnew μ l) := by
  refine ⟨by rw [rnew_37, rnew_38]; have := hr.1; omega, fun e e0 e1 => ?_, fun k k0 k1 => ?_⟩
  · rw [rnew_157, rnew_158]
    have := hr.2.1 e e0 e1
    split
    · exact ⟨hl, show (0 : Int) ≤ 0 by decide, show (0 : Int) ≤ 216 by decide⟩
    · exact this
  · rw [rnew_o (by decide), rnew_o (by decide), rnew_o (by decide)]
    exact hr.2.2 k k0 k1
theorem rshf_o {a b : Int} {x : Nat} (h : x < 157 ∨ 163 < x) : rshf μ a b x = μ x := by
  funext j
  unfold rshf
  rw [if_neg (by omega), if_neg (by omega)]
theorem rshf_e {a b : Int} {x : Nat} {j : Int} (h : 157 ≤ x ∧ x ≤ 158) : rshf μ a b x j = if 0 ≤ j ∧ j < a then μ x (j + 1) else μ x j := by
  unfold rshf
  by_cases q : 0 ≤ j ∧ j < a
  · rw [if_pos ⟨h, q⟩, if_pos q]
  · rw [if_neg (fun z => q z.2), if_neg (by omega), if_neg q]
theorem rshf_a {a b : Int} {x : Nat} {j : Int} (h : 159 ≤ x ∧ x ≤ 163) : rshf μ a b x j = if 0 ≤ j ∧ j < b then μ x (j + 216) else μ x j := by
  unfold rshf
  rw [if_neg (by omega)]
  by_cases q : 0 ≤ j ∧ j < b
  · rw [if_pos ⟨h, q⟩, if_pos q]
  · rw [if_neg (fun z => q z.2), if_neg q]
theorem rh_shf (hr : rh_r μ) (hu : μ 129 38 = 12) : rh_r (mm_u (rshf μ 11 2376) 129 38 11) := by
  have h1 := hr.1
  refine ⟨?_, fun e e0 e1 => ?_, fun k k0 k1 => ?_⟩
  · rw [mm_us, mm_un (by decide), rshf_o (by decide)]
    omega
  · rw [mm_uu (by decide), mm_uu (by decide)]
    have g1 := hr.2.1 e e0 e1
    rw [rshf_e (by decide), rshf_e (by decide)]
    by_cases q : 0 ≤ e ∧ e < 11
    · have g2 := hr.2.1 (e + 1) (by omega) (by omega)
      rw [if_pos q, if_pos q]
      exact g2
    · rw [if_neg q, if_neg q]
      exact g1
  · rw [mm_uu (by decide), mm_uu (by decide), mm_uu (by decide)]
    have g1 := hr.2.2 k k0 k1
    rw [rshf_a (by decide), rshf_a (by decide), rshf_a (by decide)]
    by_cases q : 0 ≤ k ∧ k < 2376
    · have g2 := hr.2.2 (k + 216) (by omega) (by omega)
      rw [if_pos q, if_pos q, if_pos q]
      exact g2
    · rw [if_neg q, if_neg q, if_neg q]
      exact g1
theorem rnE_o {b : Nat} (h : (b < 157 ∨ 163 < b) ∧ b ≠ 129) : rnewE μ l b = μ b := by
  unfold rnewE
  split
  · rw [rnew_o (by omega), mm_uu h.2, rshf_o h.1]
  · rw [rnew_o (by omega)]
theorem rnE_f {j : Int} (h : j ≠ 37 ∧ j ≠ 38) : rnewE μ l 129 j = μ 129 j := by
  unfold rnewE
  split
  · rw [rnew_f h, mm_un h.2, rshf_o (by decide)]
  · rw [rnew_f h]
theorem rnE_h (hr : rh_r μ) (hl : 0 ≤ l ∧ l < 3) : rh_r (rnewE μ l) ∧ 1 ≤ rnewE μ l 129 38 ∧ rnewE μ l 158 (rnewE μ l 129 38 - 1) = 0 := by
  have h1 := hr.1
  unfold rnewE
  by_cases q : μ 129 38 = 12
  · rw [if_pos q]
    refine ⟨rh_new (rh_shf hr q) (by rw [mm_us]; decide) hl, by rw [rnew_38, mm_us]; decide, ?_⟩
    rw [rnew_38, rnew_158, if_pos (by omega)]
  · rw [if_neg q]
    refine ⟨rh_new hr (by omega) hl, by rw [rnew_38]; omega, ?_⟩
    rw [rnew_38, rnew_158, if_pos (by omega)]
theorem rnE_g (hg : rg_r μ) : rg_r (rnewE μ l) := by
  refine ⟨by rw [rnE_f (by decide)]; exact hg.1, fun j j0 j1 => ?_⟩
  rw [rnE_o (by decide), rnE_o (by decide)]
  exact hg.2 j j0 j1
theorem c_218 (hq : mm_P w) (hrt : rt_a μ) (hg : rg_r μ) (hr : rh_r μ) (hc : rc_r μ) (h1 : -2147483648 ≤ l) (h2 : l ≤ 2147483647) (v1 : -2147483648 ≤ v) (v2 : v ≤ 2147483647) : am_C (d + 4) 218 [.ref 129, .int (Int32.ofInt (l)), .int (Int32.ofInt (v))] (mm_hp w μ X n) Q ↔ if ¬ ((0 ≤ l ∧ l < μ 129 8) ∧ 0 ≤ rhere μ) then Q (.inl none) (mm_hp w (mm_u μ 129 0 1) X n) else if ¬ (-2000000000 ≤ v ∧ v ≤ 2000000000) then Q (.inl none) (mm_hp w (mm_u μ 129 0 2) X n) else if ¬ rinner μ (rhere μ) = -1 then Q (.inl none) (mm_hp w (mm_u μ 129 0 3) X n) else Q (.inl none) (mm_hp w (rchg (rnewE (mm_u μ 129 0 0) l) (rhere μ) 1 v) X n) := by
  have hb := rhere_b hc
  have hl := hg.1
  rw [en_218 (d := d + 3), b_218_0 hq, c_186 (d := d + 2) hq hrt hc, bk_v, b_218_4 hq, c_193 (d := d + 2) h1 h2 hq hl, bk_v, b_218_11 hq]
  have s33 : ∀ a b c : Int, (a = 0 ∨ a = 1) → (b = 0 ∨ b = 1) → (c = 0 ∨ c = 1) → (a = 1 → (0 ≤ l ∧ l < μ 129 8) ∧ 0 ≤ rhere μ) → (am_E (d + 3) 218 Q (33, [some (.ref 129), some (.int (Int32.ofInt (l))), some (.int (Int32.ofInt (v))), some (.int (Int32.ofInt (rhere μ)))], [.int (Int32.ofInt (c)), .int (Int32.ofInt (b)), .int (Int32.ofInt (a)), .ref 129], mm_hp w μ X n) ↔ if a = 0 then Q (.inl none) (mm_hp w (mm_u μ 129 0 1) X n) else if b = 0 then Q (.inl none) (mm_hp w (mm_u μ 129 0 2) X n) else if c = 0 then Q (.inl none) (mm_hp w (mm_u μ 129 0 3) X n) else Q (.inl none) (mm_hp w (rchg (rnewE (mm_u μ 129 0 0) l) (rhere μ) 1 v) X n)) := by
    intro a b c ha hb' hc' hal
    rw [b_218_33 hq, d_185 (d := d + 2) hq ha hb' hc', bk_v, b_218_36 hq]
    by_cases a0 : a = 0
    · have : rwhy a b c = 1 := by unfold rwhy; rw [if_pos a0]
      rw [this, if_pos a0, if_pos (by decide), b_218_51 hq]
    · rw [if_neg a0]
      by_cases b0 : b = 0
      · have : rwhy a b c = 2 := by unfold rwhy; rw [if_neg a0, if_pos b0]
        rw [this, if_pos b0, if_pos (by decide), b_218_51 hq]
      · rw [if_neg b0]
        by_cases c0 : c = 0
        · have : rwhy a b c = 3 := by unfold rwhy; rw [if_neg a0, if_neg b0, if_pos c0]
          rw [this, if_pos c0, if_pos (by decide), b_218_51 hq]
        · have : rwhy a b c = 0 := by unfold rwhy; rw [if_neg a0, if_neg b0, if_neg c0]
          have hal := hal (by omega)
          have hg0 : rg_r (mm_u μ 129 0 0) := rth_rg (k := 0) hg
          have hr0 : rh_r (mm_u μ 129 0 0) := rth_rh (k := 0) hr
          have hh := rnE_h (l := l) hr0 (by omega)
          rw [this, if_neg c0, if_pos rfl, if_neg (by decide), c_209 (d := d + 2) hq hr0, bk_n, b_218_44 hq, c_163 (d := d + 2) hq hh.1 (rnE_g hg0) (by omega) (by decide) hh.2.1 (by rw [hh.2.2]; decide), bk_n, b_218_51 hq]
  have s28 : ∀ a b : Int, (a = 0 ∨ a = 1) → (b = 0 ∨ b = 1) → (a = 1 → (0 ≤ l ∧ l < μ 129 8) ∧ 0 ≤ rhere μ) → (am_E (d + 3) 218 Q (28, [some (.ref 129), some (.int (Int32.ofInt (l))), some (.int (Int32.ofInt (v))), some (.int (Int32.ofInt (rhere μ)))], [.int (Int32.ofInt (b)), .int (Int32.ofInt (a)), .ref 129], mm_hp w μ X n) ↔ if a = 0 then Q (.inl none) (mm_hp w (mm_u μ 129 0 1) X n) else if b = 0 then Q (.inl none) (mm_hp w (mm_u μ 129 0 2) X n) else if ¬ rinner μ (rhere μ) = -1 then Q (.inl none) (mm_hp w (mm_u μ 129 0 3) X n) else Q (.inl none) (mm_hp w (rchg (rnewE (mm_u μ 129 0 0) l) (rhere μ) 1 v) X n)) := by
    intro a b ha hb' hal
    rw [b_218_28 hq, c_200 (d := d) hq hrt hb.1 hb.2, bk_v, s33 a b _ ha hb' mm_01 hal]
    by_cases a0 : a = 0
    · rw [if_pos a0, if_pos a0]
    · have := hal (by omega)
      rw [if_neg a0, if_neg a0]
      by_cases i0 : rinner μ (rhere μ) = -1
      · rw [if_pos (show 0 ≤ rhere μ ∧ rinner μ (rhere μ) = -1 from ⟨this.2, i0⟩), if_neg (show ¬ (1 : Int) = 0 by decide), if_neg (show ¬ ¬ rinner μ (rhere μ) = -1 from fun q => q i0)]
      · rw [if_neg (show ¬ (0 ≤ rhere μ ∧ rinner μ (rhere μ) = -1) from fun q => i0 q.2), if_pos (show (0 : Int) = 0 from rfl), if_pos i0]
  have s23 : ∀ a : Int, (a = 0 ∨ a = 1) → (a = 1 ↔ (0 ≤ l ∧ l < μ 129 8) ∧ 0 ≤ rhere μ) → (am_E (d + 3) 218 Q (23, [some (.ref 129), some (.int (Int32.ofInt (l))), some (.int (Int32.ofInt (v))), some (.int (Int32.ofInt (rhere μ)))], [.int (Int32.ofInt (a)), .ref 129], mm_hp w μ X n) ↔ if ¬ ((0 ≤ l ∧ l < μ 129 8) ∧ 0 ≤ rhere μ) then Q (.inl none) (mm_hp w (mm_u μ 129 0 1) X n) else if ¬ (-2000000000 ≤ v ∧ v ≤ 2000000000) then Q (.inl none) (mm_hp w (mm_u μ 129 0 2) X n) else if ¬ rinner μ (rhere μ) = -1 then Q (.inl none) (mm_hp w (mm_u μ 129 0 3) X n) else Q (.inl none) (mm_hp w (rchg (rnewE (mm_u μ 129 0 0) l) (rhere μ) 1 v) X n)) := by
    intro a ha hal
    rw [b_218_23 hq, mm_wv v1 v2, c_197 (d := d + 2) hq (by omega) (by omega), bk_v, s28 a _ ha mm_01 hal.mp]
    by_cases a0 : a = 0
    · rw [if_pos a0, if_pos (show ¬ ((0 ≤ l ∧ l < μ 129 8) ∧ 0 ≤ rhere μ) from fun q => by have := hal.mpr q; omega)]
    · rw [if_neg a0, if_neg (show ¬ ¬ ((0 ≤ l ∧ l < μ 129 8) ∧ 0 ≤ rhere μ) from fun q => q (hal.mp (by omega)))]
      by_cases v0 : -2000000000 ≤ v ∧ v ≤ 2000000000
      · rw [if_pos v0, if_neg (show ¬ (1 : Int) = 0 by decide), if_neg (show ¬ ¬ (-2000000000 ≤ v ∧ v ≤ 2000000000) from fun q => q v0)]
      · rw [if_neg v0, if_pos (show (0 : Int) = 0 from rfl), if_pos v0]
  by_cases a : 0 ≤ l ∧ l < μ 129 8
  · rw [if_pos a, if_neg (by decide)]
    by_cases b : rhere μ < 0
    · rw [if_pos (by rw [mm_ltx, mm_wv (by omega) (by omega), mm_wv (by omega) (by omega)]; exact b), b_218_22 hq]
      exact s23 0 (Or.inl rfl) ⟨fun q => absurd q (by decide), fun q => by omega⟩
    · rw [if_neg (by rw [mm_ltx, mm_wv (by omega) (by omega), mm_wv (by omega) (by omega)]; exact b)]
      exact s23 1 (Or.inr rfl) ⟨fun _ => ⟨a, by omega⟩, fun _ => rfl⟩
  · rw [if_neg a, if_pos rfl, b_218_22 hq]
    exact s23 0 (Or.inl rfl) ⟨fun q => absurd q (by decide), fun q => absurd q.1 a⟩
end RP
