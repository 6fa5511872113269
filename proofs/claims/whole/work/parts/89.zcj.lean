/-! Spread: the reference's question. -/
section SR
variable {d : Nat} {Q : am_Ou → am_G → Prop} {w : mm_Z} {μ M : mm_M} {X : mm_X} {n : mm_N} {e m c v i l a p A s x y k o : Int} {W L : Int → Int}
theorem rhere_i (hc : rc_r μ) : -1 ≤ rhere μ ∧ rhere μ < 216 := by
  have c0 := hc 0 (by decide) (by decide)
  have c1 := hc 1 (by decide) (by decide)
  have c2 := hc 2 (by decide) (by decide)
  unfold rhere
  split <;> omega
/-- the reference lets spread, once layer, cursor and number are right -/
def rok (μ : mm_M) (l : Int) (R : List Int) : Prop := (R.length : Int) ≤ μ 129 65 ∧ rpln μ (rhere μ) = true ∧ bl (fun j => decide (0 ≤ rwt μ l (R.getD j.toNat 0))) R.length 0 = true ∧ (-2000000000 ≤ tot (fun j => rwt μ l (R.getD j.toNat 0)) R.length 0 ∧ tot (fun j => rwt μ l (R.getD j.toNat 0)) R.length 0 ≤ 2000000000)
theorem c_229 (hq : mm_P w) (hrt : rt_a μ) (hrl : rl_r μ) (hrr : rr_r μ) (hrc : rc_r μ) (hg : rg_r μ) (hb : ∀ j, 0 ≤ j → j < 648 → -2000000000 ≤ μ 138 j ∧ μ 138 j ≤ 2000000000) (h132 : ∀ j, 0 ≤ j → j < 18 → 0 ≤ μ 132 j ∧ μ 132 j ≤ 4) (h65 : 1 ≤ μ 129 65 ∧ μ 129 65 ≤ 2000) (hrh : rh_r μ) {R : List Int} (hR : R = rsps μ (rhere μ)) (hRb : ∀ x ∈ R, 0 ≤ x ∧ x < 216) (l1 : -2147483648 ≤ l) (l2 : l ≤ 2147483647) (p1 : -2147483648 ≤ p) (p2 : p ≤ 2147483647)
    (q1 : ¬ ((0 ≤ l ∧ l < μ 129 8) ∧ 0 ≤ rhere μ) → Q (.inl (some (.int (Int32.ofInt (0))))) (mm_hp w (mm_u μ 129 0 1) X n))
    (q2 : ((0 ≤ l ∧ l < μ 129 8) ∧ 0 ≤ rhere μ) → ¬ (-2000000000 ≤ p ∧ p ≤ 2000000000) → Q (.inl (some (.int (Int32.ofInt (0))))) (mm_hp w (mm_u (mm_pl μ 176 R) 129 0 2) X n))
    (q3 : ((0 ≤ l ∧ l < μ 129 8) ∧ 0 ≤ rhere μ) → (-2000000000 ≤ p ∧ p ≤ 2000000000) → ¬ rok μ l R → Q (.inl (some (.int (Int32.ofInt (0))))) (mm_hp w (mm_u (mm_pl μ 176 R) 129 0 3) X n))
    (q4 : ((0 ≤ l ∧ l < μ 129 8) ∧ 0 ≤ rhere μ) → (-2000000000 ≤ p ∧ p ≤ 2000000000) → rok μ l R → am_E (d + 5) 229 Q (176, [some (.ref 129), some (.int (Int32.ofInt (l))), some (.int (Int32.ofInt (p))), some (.int (Int32.ofInt (rhere μ))), some (.int (Int32.ofInt (1))), some (.int (Int32.ofInt ((R.length : Int)))), some (.long (Int64.ofInt (tot (fun j => rwt μ l (R.getD j.toNat 0)) R.length 0))), none, some (.int (Int32.ofInt (1))), some (.long (Int64.ofInt 0)), none, some (.long (Int64.ofInt 0)), none, some (.int (Int32.ofInt (0))), none, none], [], mm_hp w (rnewE (mm_u (mm_pl μ 176 R) 129 0 0) l) X n)) : am_C (d + 6) 229 [.ref 129, .int (Int32.ofInt (l)), .int (Int32.ofInt (p))] (mm_hp w μ X n) Q := by
  have hl8 := hg.1
  have hhb := rhere_i hrc
  have hlen : R.length ≤ 216 := by rw [hR]; exact rsps_l hrl
  rw [en_229 (d := d + 5), b_229_0 hq, c_186 (d := d + 4) hq hrt hrc, bk_v, b_229_4 hq, c_193 (d := d + 4) l1 l2 hq hl8, bk_v, b_229_10 hq]
  have hp64 : mm_w p = p := mm_wv p1 p2
  by_cases a : (0 ≤ l ∧ l < μ 129 8) ∧ 0 ≤ rhere μ
  · rw [if_pos a.1, if_neg (by decide), if_neg (by rw [mm_ltx, mm_wv (by omega) (by omega), mm_wv (by omega) (by omega)]; omega), b_229_22 hq, if_neg (by decide), c_230 (d := d + 2) hq hrt hrl ⟨a.2, hhb.2⟩, ← hR, bk_v, b_229_34 hq, b_229_38 hq, if_neg (by decide)]
    have fr : ∀ a, a ≠ 176 → mm_pl μ 176 R a = μ a := fun a ha => pl_o ha
    have hrt' : rt_a (mm_pl μ 176 R) := fun e e0 e1 m m0 m1 => by rw [fr 130 (by decide), fr 131 (by decide)]; exact hrt e e0 e1 m m0 m1
    have hrr' : rr_r (mm_pl μ 176 R) := by unfold rr_r; rw [fr 129 (by decide), fr 139 (by decide), fr 140 (by decide)]; exact hrr
    have hg' : rg_r (mm_pl μ 176 R) := by unfold rg_r; rw [fr 129 (by decide), fr 137 (by decide), fr 138 (by decide)]; exact hg
    have hpl : rpln (mm_pl μ 176 R) (rhere μ) = rpln μ (rhere μ) := by
      have f1 : rpl1 (mm_pl μ 176 R) = rpl1 μ := by
        funext o c
        unfold rpl1
        rw [ramg_c (fr 130 (by decide)) (fr 131 (by decide)), fr 129 (by decide), rwin_c (fr 130 (by decide)) (fr 131 (by decide)) (fr 139 (by decide)) (fr 140 (by decide))]
      have f2 : rpl2 (mm_pl μ 176 R) = rpl2 μ := by
        funext o e m
        unfold rpl2 rq
        rw [fr 130 (by decide), fr 131 (by decide), fr 132 (by decide), rp_c (fr 130 (by decide)) (fr 131 (by decide))]
      unfold rpln
      rw [f1, f2]
    obtain ⟨W, hWd⟩ : ∃ W : Int → Int, W = fun j => rwt μ l (R.getD j.toNat 0) := ⟨_, rfl⟩
    have hat : ∀ j : Int, 0 ≤ j → j < (R.length : Int) → mm_pl μ 176 R 176 j = R.getD j.toNat 0 ∧ 0 ≤ R.getD j.toNat 0 ∧ R.getD j.toNat 0 < 216 := fun j j0 j1 => by
      refine ⟨if_pos ⟨rfl, j0, j1⟩, ?_⟩
      have hlt : j.toNat < R.length := by omega
      rw [List.getD_eq_getElem?_getD, List.getElem?_eq_getElem hlt]
      exact hRb _ (List.getElem_mem hlt)
    have hwt : ∀ c, rwt (mm_pl μ 176 R) l c = rwt μ l c := fun c => by
      unfold rwt
      rw [rlay_c (fr 137 (by decide)), fr 138 (by decide)]
    have hWl : ∀ j : Int, 0 ≤ j → j < (R.length : Int) → W j = rwt (mm_pl μ 176 R) l (R.getD j.toNat 0) ∧ -2000000000 ≤ W j ∧ W j ≤ 2000000000 := fun j j0 j1 => by
      rw [hwt, hWd]
      exact ⟨rfl, rwt_b hg hb (hat j j0 j1).2 ⟨a.1.1, by omega⟩⟩
    have hA := tot_b (W := W) 2000000000 (by decide) R.length 0 (fun j j0 j1 => by have := (hWl j j0 (by omega)).2; omega)
    unfold rok at q3 q4
    rw [← hWd] at q3 q4
    have eP : (fun j => decide (0 ≤ rwt μ l (R.getD j.toNat 0))) = fun j => decide (0 ≤ W j) := by rw [hWd]
    rw [eP] at q3 q4
    -- behind plain
    have tail : ∀ b : Bool, (b = true ↔ ((R.length : Int) ≤ μ 129 65 ∧ rpln μ (rhere μ) = true)) → am_E (d + 5) 229 Q (70, [some (.ref 129), some (.int (Int32.ofInt (l))), some (.int (Int32.ofInt (p))), some (.int (Int32.ofInt (rhere μ))), some (.int (Int32.ofInt (1))), some (.int (Int32.ofInt ((R.length : Int)))), some (.long (Int64.ofInt 0)), none, none, none, none, none, none, none, none, none], [.int (Int32.ofInt (if b = true then 1 else 0))], mm_hp w (mm_pl μ 176 R) X n) := fun b hbb => by
      obtain ⟨e10, h⟩ := c_229_75 (d := d + 3) (Q := Q) (X := X) (n := n) (p := p) (x3 := rhere μ) (x4 := 1) (L := fun j => R.getD j.toNat 0) (W := W) hq hg' ⟨by omega, by omega⟩ hlen hat hWl R.length 0 b none (by omega)
      rw [b_229_70 hq]
      refine (Iff.mpr h) ?_
      rw [b_229_75 hq, if_pos (by rw [mm_lex]; exact Int.le_refl _), hp64, c_197 (d := d + 4) hq (by omega) (by omega), bk_v, b_229_136 hq]
      have why : ∀ s3 : Int, (s3 = 0 ∨ s3 = 1) → (s3 = 1 ↔ (b && bl (fun j => decide (0 ≤ W j)) R.length 0) = true ∧ (-2000000000 ≤ tot W R.length 0 ∧ tot W R.length 0 ≤ 2000000000)) → am_E (d + 5) 229 Q (154, [some (.ref 129), some (.int (Int32.ofInt (l))), some (.int (Int32.ofInt (p))), some (.int (Int32.ofInt (rhere μ))), some (.int (Int32.ofInt (1))), some (.int (Int32.ofInt ((R.length : Int)))), some (.long (Int64.ofInt (tot W R.length 0))), none, some (.int (Int32.ofInt (if (b && bl (fun j => decide (0 ≤ W j)) R.length 0) = true then 1 else 0))), some (.int (Int32.ofInt ((R.length : Int)))), e10, none, none, none, none, none], [.int (Int32.ofInt (s3)), .int (Int32.ofInt (if -2000000000 ≤ p ∧ p ≤ 2000000000 then 1 else 0)), .int (Int32.ofInt (1)), .ref 129], mm_hp w (mm_pl μ 176 R) X n) := fun s3 hs3 hs => by
        have hiff : s3 = 1 ↔ ((R.length : Int) ≤ μ 129 65 ∧ rpln μ (rhere μ) = true ∧ bl (fun j => decide (0 ≤ W j)) R.length 0 = true ∧ (-2000000000 ≤ tot W R.length 0 ∧ tot W R.length 0 ≤ 2000000000)) := by
          rw [hs, Bool.and_eq_true, hbb]
          constructor
          · rintro ⟨⟨⟨u1, u2⟩, u3⟩, u4⟩; exact ⟨u1, u2, u3, u4⟩
          · rintro ⟨u1, u2, u3, u4⟩; exact ⟨⟨⟨u1, u2⟩, u3⟩, u4⟩
        rw [b_229_154 hq]
        by_cases z : -2000000000 ≤ p ∧ p ≤ 2000000000
        · rw [if_pos z, d_185 (d := d + 4) hq (by decide) (by decide) hs3, bk_v, b_229_157 hq]
          by_cases y : s3 = 1
          · have ok := hiff.mp y
            have e8 : (b && bl (fun j => decide (0 ≤ W j)) R.length 0) = true := (hs.mp y).1
            rw [y, show rwhy 1 1 1 = 0 from rfl, if_pos rfl, if_neg (by decide), e8, if_pos rfl, c_209 (d := d + 4) hq (by unfold rh_r; rw [mm_un (by decide), mm_un (by decide), mm_uu (by decide), mm_uu (by decide), mm_uu (by decide), mm_uu (by decide), mm_uu (by decide), fr 129 (by decide), fr 157 (by decide), fr 158 (by decide), fr 159 (by decide), fr 160 (by decide), fr 162 (by decide)]; exact hrh), bk_n, b_229_167 hq]
            exact q4 a z ok
          · have y0 : s3 = 0 := by omega
            rw [y0, show rwhy 1 1 0 = 3 from rfl, if_pos (c := Int32.ofInt (if (3 : Int) = 0 then 1 else 0) = Int32.ofInt 0) (by decide)]
            exact q3 a z (fun q => y (hiff.mpr q))
        · rw [if_neg z, d_185 (d := d + 4) hq (by decide) (by decide) hs3, bk_v, b_229_157 hq]
          have e2 : rwhy 1 0 s3 = 2 := rfl
          rw [e2, if_pos (c := Int32.ofInt (if (2 : Int) = 0 then 1 else 0) = Int32.ofInt 0) (by decide)]
          exact q2 a z
      generalize hx : (b && bl (fun j => decide (0 ≤ W j)) R.length 0) = x at *
      cases x with
      | false =>
        rw [if_pos (by decide), b_229_153 hq]
        exact why 0 (Or.inl rfl) ⟨fun z => absurd z (by decide), fun z => absurd z.1 (by decide)⟩
      | true =>
        rw [if_neg (by decide), c_197 (d := d + 4) hq (by omega) (by omega), bk_v, b_229_146 hq]
        by_cases z : -2000000000 ≤ tot W R.length 0 ∧ tot W R.length 0 ≤ 2000000000
        · rw [if_pos z, if_neg (by decide)]
          exact why 1 (Or.inr rfl) ⟨fun _ => ⟨rfl, z⟩, fun _ => rfl⟩
        · rw [if_neg z, if_pos (by decide), b_229_153 hq]
          exact why 0 (Or.inl rfl) ⟨fun y => absurd y (by decide), fun y => absurd y.2 z⟩
    rw [fr 129 (by decide)]
    by_cases c : (R.length : Int) ≤ μ 129 65
    · rw [if_neg (by rw [mm_ltx, mm_wv (by omega) (by omega), mm_wv (by omega) (by omega)]; omega), c_215 (d := d) hq hrt' hrr' ⟨a.2, hhb.2⟩ (by rw [fr 132 (by decide)]; exact h132), hpl, bk_v, b_229_62 hq]
      by_cases g : rpln μ (rhere μ) = true
      · rw [if_pos g, if_neg (by decide)]
        exact tail true ⟨fun _ => ⟨c, g⟩, fun _ => rfl⟩
      · rw [if_neg g, if_pos (by decide), b_229_69 hq]
        exact tail false ⟨fun z => absurd z (by decide), fun z => absurd z.2 g⟩
    · rw [if_pos (by rw [mm_ltx, mm_wv (by omega) (by omega), mm_wv (by omega) (by omega)]; omega), b_229_69 hq]
      exact tail false ⟨fun z => absurd z (by decide), fun z => absurd z.1 c⟩
  · have tail : am_E (d + 5) 229 Q (21, [some (.ref 129), some (.int (Int32.ofInt (l))), some (.int (Int32.ofInt (p))), some (.int (Int32.ofInt (rhere μ))), none, none, none, none, none, none, none, none, none, none, none, none], [], mm_hp w μ X n) := by
      rw [b_229_21 hq, b_229_22 hq, if_pos (by decide), b_229_38 hq, if_pos (by decide), b_229_69 hq, b_229_70 hq, b_229_75 hq, if_pos (by decide), hp64, c_197 (d := d + 4) hq (by omega) (by omega), bk_v, b_229_136 hq, if_pos (by decide), b_229_153 hq, b_229_154 hq]
      by_cases z : -2000000000 ≤ p ∧ p ≤ 2000000000
      · rw [if_pos z, d_185 (d := d + 4) hq (by decide) (by decide) (by decide), bk_v, b_229_157 hq, show rwhy 0 1 0 = 1 from rfl, if_pos (c := Int32.ofInt (if (1 : Int) = 0 then 1 else 0) = Int32.ofInt 0) (by decide)]
        exact q1 a
      · rw [if_neg z, d_185 (d := d + 4) hq (by decide) (by decide) (by decide), bk_v, b_229_157 hq, show rwhy 0 0 0 = 1 from rfl, if_pos (c := Int32.ofInt (if (1 : Int) = 0 then 1 else 0) = Int32.ofInt 0) (by decide)]
        exact q1 a
    by_cases u : 0 ≤ l ∧ l < μ 129 8
    · have : rhere μ < 0 := by
        have : ¬ 0 ≤ rhere μ := fun q => a ⟨u, q⟩
        omega
      rw [if_pos u, if_neg (by decide), if_pos (by rw [mm_ltx, mm_wv (by omega) (by omega), mm_wv (by omega) (by omega)]; omega)]
      exact tail
    · rw [if_neg u, if_pos (by decide)]
      exact tail
end SR
