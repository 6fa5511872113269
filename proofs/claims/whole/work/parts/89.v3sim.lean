/-! The machine follows the descent: loops, formulas. Pure. -/
section RG
variable {T : Nat → Int} {N p : Nat} {σ : rd_T} {q : rd_Q} {x : rd_X} {X : List rd_X} {l : List Int} {C : rd_C} {S : rd_S} {c o e k base fr : Int} {E : Option rd_E}
theorem rd_loop0 {sg : Int → Prop} {U : rd_E} : ∀ (k : Nat) (y : rd_P), y.1 = false → rd_loop T N sg U k y = y := by
  intro k y h
  cases k with
  | zero => rfl
  | succ k =>
    unfold rd_loop
    rw [rd_if0 (fun z => by rw [h] at z; exact Bool.noConfusion z.1)]
theorem rd_popE (hb : x.2.2.1 ≤ (l.length : Int)) : (rd_ends (x :: X) (o :: l) C).1 = (rd_ends (x :: X) l (rd_emit C o 0 0)).1 ∧ rd_clo (x :: X) (o :: l) C = rd_clo (x :: X) l (rd_emit C o 0 0) := by
  have key : rd_pour 1 x.2.2.1 (o :: l) C = rd_pour 1 x.2.2.1 l (rd_emit C o 0 0) := rd_pourc (by omega) rd_rk_b.1
  by_cases h : x.1 = 3
  · have e1 : rd_ends (x :: X) (o :: l) C = rd_ends (x :: X) l (rd_emit C o 0 0) := by
      unfold rd_ends
      rw [if_pos h, if_pos h, key]
    unfold rd_clo
    rw [e1]
    exact ⟨rfl, rfl⟩
  · have e1 : ∀ l' C', rd_ends (x :: X) l' C' = (x :: X, l', C') := fun l' C' => by
      unfold rd_ends
      rw [if_neg h]
    unfold rd_clo
    rw [e1, e1]
    exact ⟨rfl, key⟩
theorem rd_popF (hb : x.2.2.1 ≤ (l.length : Int)) (hr : rd_rk o = 2 ∨ ¬ rd_po c) : rd_fol (x :: X) (o :: l) C S c = rd_fol (x :: X) l (rd_emit C o 0 0) S c := by
  obtain ⟨h1, h2⟩ := rd_popE (X := X) (o := o) (C := C) hb
  have key : ∀ k, k ≤ rd_rk o → rd_pour k (rd_top (x :: X)).2.2.1 (o :: l) C = rd_pour k (rd_top (x :: X)).2.2.1 l (rd_emit C o 0 0) := fun k hk => rd_pourc (show x.2.2.1 < _ by omega) hk
  unfold rd_fol
  rw [h1, h2, key 1 rd_rk_b.1]
  by_cases a : rd_op c
  · have : rd_rk (rd_opc c) ≤ rd_rk o := by
      rcases hr with hr | hr
      · rw [hr]; exact rd_rk_b.2
      · have := @rd_rk_b o
        have : rd_rk (rd_opc c) = 1 := by
          unfold rd_op at a
          unfold rd_po at hr
          rcases a with rfl | rfl | rfl | rfl
          · rfl
          · rfl
          · exact absurd (Or.inl rfl) hr
          · exact absurd (Or.inr rfl) hr
        omega
    rw [rd_if1 a, rd_if1 a, key _ this]
  · rw [rd_if0 a, rd_if0 a]
theorem rd_pop (hb : x.2.2.1 ≤ (l.length : Int)) (hr : rd_rk o = 2 ∨ ¬ rd_po (rd_ch T N p)) : rd_R T N (rd_q4, x :: X, o :: l, C, S) p = rd_R T N (rd_q4, x :: X, l, rd_emit C o 0 0, S) p := by
  by_cases h : p < N
  · rw [rd_ch1 h] at hr
    rw [rd_R_lt h, rd_R_lt h, rd_step4, rd_step4, rd_popF hb hr]
  · rw [rd_R_ge (by omega), rd_R_ge (by omega), rd_fin4, rd_fin4, (rd_popE hb).2]
theorem rd_loopR {sg BU : Int → Prop} {H : rd_X → List Int → Prop} {U : rd_E} (hU : rd_gd T N e H BU U) (hx : x.2.1 = e) (hsg : ∀ c, sg c → rd_op c) (hp : ∀ c C, sg c → rd_pour (rd_rk (rd_opc c)) x.2.2.1 l C = (l, C)) (hH : ∀ c, sg c → H x (rd_opc c :: l)) (hpop : ∀ c d, sg c → BU d → rd_rk (rd_opc c) = 2 ∨ ¬ rd_po d) (hb : x.2.2.1 ≤ (l.length : Int)) :
    ∀ (k : Nat) (y : rd_P), y.1 = true → y.2.1 ≤ N → N ≤ y.2.1 + k → BU (rd_ch T N y.2.1) →
      ((rd_loop T N sg U k y).1 = true → rd_R T N (rd_q4, x :: X, l, y.2.2) y.2.1 = rd_R T N (rd_q4, x :: X, l, (rd_loop T N sg U k y).2.2) (rd_loop T N sg U k y).2.1 ∧ y.2.1 ≤ (rd_loop T N sg U k y).2.1 ∧ (rd_loop T N sg U k y).2.1 ≤ N ∧ BU (rd_ch T N (rd_loop T N sg U k y).2.1) ∧ ¬ sg (rd_ch T N (rd_loop T N sg U k y).2.1)) ∧ ((rd_loop T N sg U k y).1 = false → rd_R T N (rd_q4, x :: X, l, y.2.2) y.2.1 = (none, ((rd_loop T N sg U k y).2.1 : Int))) := by
  have h32 : ¬ sg 32 := fun z => by have := hsg 32 z; unfold rd_op at this; omega
  intro k
  induction k with
  | zero =>
    intro y h1 h2 h3 h4
    refine ⟨fun _ => ⟨rfl, Nat.le_refl _, h2, h4, ?_⟩, fun z => ?_⟩
    · show ¬ sg (rd_ch T N y.2.1)
      rw [rd_ch0 (by omega)]; exact h32
    · have z : y.1 = false := z
      rw [h1] at z; exact Bool.noConfusion z
  | succ k ih =>
    intro y h1 h2 h3 h4
    by_cases a : sg (rd_ch T N y.2.1)
    · have hy : y.2.1 < N := by
        by_cases g : y.2.1 < N
        · exact g
        · rw [rd_ch0 (by omega)] at a; exact absurd a h32
      have el : rd_loop T N sg U (k + 1) y = rd_loop T N sg U k (rd_bin U (rd_opc (rd_ch T N y.2.1)) y) := by
        conv => lhs; unfold rd_loop
        rw [rd_if1 ⟨h1, a⟩]
      rw [el]
      have e1 : rd_R T N (rd_q4, x :: X, l, y.2.2) y.2.1 = rd_R T N (rd_q0, x :: X, rd_opc (rd_ch T N y.2.1) :: l, y.2.2.1, y.2.2.2) (y.2.1 + 1) := by
        rw [rd_R_lt hy, show (rd_q4, x :: X, l, y.2.2) = (rd_q4, x :: X, l, y.2.2.1, y.2.2.2) from rfl, rd_step4]
        rw [rd_ch1 hy] at a ⊢
        unfold rd_fol
        have := hp (T y.2.1) y.2.2.1 a
        rw [rd_if1 (hsg _ a), show (rd_top (x :: X)).2.2.1 = x.2.2.1 from rfl, this]
        rfl
      obtain ⟨g1, g2⟩ := hU (y.2.1 + 1) y.2.2.1 y.2.2.2 x X (rd_opc (rd_ch T N y.2.1) :: l) (by omega) hx (hH _ a)
      rw [e1]
      unfold rd_bin
      revert g1 g2
      generalize U (y.2.1 + 1) y.2.2.1 y.2.2.2 = u
      intro g1 g2
      obtain ⟨ub, up, uC, uS⟩ := u
      cases ub with
      | false =>
        rw [rd_loop0 _ _ rfl]
        exact ⟨fun z => Bool.noConfusion z, fun _ => g2 rfl⟩
      | true =>
        obtain ⟨f1, f2, f3, f4⟩ := g1 rfl
        have f1 : rd_R T N (rd_q0, x :: X, rd_opc (rd_ch T N y.2.1) :: l, y.2.2.1, y.2.2.2) (y.2.1 + 1) = rd_R T N (rd_q4, x :: X, rd_opc (rd_ch T N y.2.1) :: l, uC, uS) up := f1
        have f2 : y.2.1 + 1 ≤ up := f2
        rw [f1, rd_pop hb (hpop _ _ a f4)]
        have := ih (true, up, rd_emit uC (rd_opc (rd_ch T N y.2.1)) 0 0, uS) rfl f3 (show N ≤ up + k by omega) f4
        refine ⟨fun z => ⟨(this.1 z).1, ?_, (this.1 z).2.2⟩, this.2⟩
        have h5 : up ≤ _ := (this.1 z).2.1
        exact Nat.le_trans (by omega) h5
    · have el : rd_loop T N sg U (k + 1) y = y := by
        unfold rd_loop
        rw [rd_if0 (fun z => a z.2)]
      rw [el]
      exact ⟨fun _ => ⟨rfl, Nat.le_refl _, h2, h4, a⟩, fun z => by rw [h1] at z; exact Bool.noConfusion z⟩
theorem rd_gd_loop {sg BU : Int → Prop} {H H' : rd_X → List Int → Prop} {U V : rd_E} (hV : rd_gd T N e H BU V) (hU : rd_gd T N e H' BU U) (hN : N ≤ 24) (hsg : ∀ c, sg c → rd_op c) (hp : ∀ x l c C, H x l → sg c → rd_pour (rd_rk (rd_opc c)) x.2.2.1 l C = (l, C)) (hH : ∀ x l c, H x l → sg c → H' x (rd_opc c :: l)) (hpop : ∀ c d, sg c → BU d → rd_rk (rd_opc c) = 2 ∨ ¬ rd_po d) (hb : ∀ x l, H x l → x.2.2.1 ≤ (l.length : Int)) :
    rd_gd T N e H (fun c => BU c ∧ ¬ sg c) (fun p C S => rd_loop T N sg U 24 (V p C S)) := by
  intro p C S x X l h1 h2 h3
  obtain ⟨g1, g2⟩ := hV p C S x X l h1 h2 h3
  dsimp only
  have hl := rd_loopR (X := X) hU h2 hsg (fun c C => hp x l c C h3) (fun c => hH x l c h3) hpop (hb x l h3) 24 (V p C S)
  revert g1 g2 hl
  generalize V p C S = y
  intro g1 g2 hl
  cases hy : y.1 with
  | false =>
    rw [rd_loop0 _ _ hy]
    exact ⟨fun z => by rw [hy] at z; exact Bool.noConfusion z, fun _ => g2 hy⟩
  | true =>
    obtain ⟨f1, f2, f3, f4⟩ := g1 hy
    obtain ⟨k1, k2⟩ := hl hy f3 (by omega) f4
    rw [f1]
    exact ⟨fun z => ⟨(k1 z).1, Nat.le_trans f2 (k1 z).2.1, (k1 z).2.2⟩, k2⟩
theorem rd_gd_p (hE : rd_in T N e E) (hN : N ≤ 24) : rd_gd T N e rd_HP (fun c => True ∧ ¬ rd_po c) (rd_prd T N E) := by
  refine rd_gd_loop (H' := rd_HU) (U := rd_unt T N E) (V := rd_unt T N E) (fun p C S x X l h1 h2 _ => rd_gd_u hE hN p C S x X l h1 h2 trivial) (rd_gd_u hE hN) hN (fun c h => ?_) (fun x l c C h g => h.2 _ C ?_) (fun _ _ _ _ _ => trivial) (fun c d g _ => Or.inl ?_) (fun x l h => h.1)
  · unfold rd_po at h; unfold rd_op; omega
  · unfold rd_po at g; rcases g with rfl | rfl <;> rfl
  · unfold rd_po at g; rcases g with rfl | rfl <;> rfl
theorem rd_gd_s (hE : rd_in T N e E) (hN : N ≤ 24) : rd_gd T N e rd_HS (fun c => (True ∧ ¬ rd_po c) ∧ ¬ rd_so c) (rd_sum T N E) := by
  have hSP : ∀ x l, rd_HS x l → rd_HP x l := fun x l h => ⟨by unfold rd_HS at h; omega, fun k C _ => rd_pour0 (by unfold rd_HS at h; omega)⟩
  refine rd_gd_loop (H' := rd_HP) (U := rd_prd T N E) (V := rd_prd T N E) (fun p C S x X l h1 h2 h3 => rd_gd_p hE hN p C S x X l h1 h2 (hSP x l h3)) (rd_gd_p hE hN) hN (fun c h => ?_) (fun x l c C h g => rd_pour0 (by unfold rd_HS at h; omega)) (fun x l c h g => ⟨?_, fun k C hk => rd_pourk ?_⟩) (fun c d g h => Or.inr h.2) (fun x l h => by unfold rd_HS at h; omega)
  · unfold rd_so at h; unfold rd_op; omega
  · unfold rd_HS at h
    rw [List.length_cons]; omega
  · rw [hk]
    unfold rd_so at g; rcases g with rfl | rfl <;> decide
theorem rd_else {b j t : Int} (h : (l.length : Int) = b) (hB : rd_B4 (rd_ch T N p)) : rd_R T N (rd_q4, (3, e, b, j, t) :: X, l, C, S) p = rd_R T N (rd_q4, X, l, rd_pb (rd_pa C j C.1) t C.1, S) p := by
  have e1 : rd_ends ((3, e, b, j, t) :: X) l C = rd_ends X l (rd_pb (rd_pa C j C.1) t C.1) := by
    conv => lhs; unfold rd_ends
    rw [if_pos (show (3 : Int) = 3 from rfl), rd_pour0 (show (l.length : Int) ≤ b by omega)]
  have e2 : rd_clo ((3, e, b, j, t) :: X) l C = rd_clo X l (rd_pb (rd_pa C j C.1) t C.1) := by
    unfold rd_clo
    rw [e1]
  have e3 : rd_enc ((3, e, b, j, t) :: X) = rd_enc X := rfl
  by_cases hp : p < N
  · rw [rd_ch1 hp] at hB
    rw [rd_R_lt hp, rd_R_lt hp, rd_step4, rd_step4]
    unfold rd_fol
    rw [rd_if0 hB.1, rd_if0 hB.1, rd_if0 (c := T p = 63 ∧ (rd_top ((3, e, b, j, t) :: X)).2.1 < 3) (fun z => hB.2 z.1), rd_if0 (c := T p = 63 ∧ (rd_top X).2.1 < 3) (fun z => hB.2 z.1), e1, e2, e3]
  · rw [rd_R_ge (by omega), rd_R_ge (by omega), rd_fin4, rd_fin4, e2, e3]
theorem rd_gd_f (hE : rd_in T N e E) (hN : N ≤ 24) : rd_gd T N e rd_HS rd_B4 (rd_for T N E) := by
  intro p C S x X l h1 h2 h3
  obtain ⟨g1, g2⟩ := rd_gd_s hE hN p C S x X l h1 h2 h3
  unfold rd_for
  revert g1 g2
  generalize rd_sum T N E p C S = s
  intro g1 g2
  obtain ⟨sb, sp, sC, sS⟩ := s
  cases sb with
  | false =>
    rw [rd_if0 (fun z => Bool.noConfusion z.1)]
    exact ⟨fun z => Bool.noConfusion z, fun _ => g2 rfl⟩
  | true =>
    obtain ⟨f1, f2, f3, f4⟩ := g1 rfl
    have f1 : rd_R T N (rd_q0, x :: X, l, C, S) p = rd_R T N (rd_q4, x :: X, l, sC, sS) sp := f1
    have f2 : p ≤ sp := f2
    have f3 : sp ≤ N := f3
    have f4 : (True ∧ ¬ rd_po (rd_ch T N sp)) ∧ ¬ rd_so (rd_ch T N sp) := f4
    have nop : ¬ rd_op (rd_ch T N sp) := fun z => by
      have a1 := f4.1.2; have a2 := f4.2
      unfold rd_po at a1; unfold rd_so at a2; unfold rd_op at z
      omega
    rw [f1]
    by_cases a : rd_ch T N sp = 63
    · have hsp : sp < N := by
        by_cases g : sp < N
        · exact g
        · rw [rd_ch0 (by omega)] at a; exact absurd a (by decide)
      rw [rd_if1 (c := true = true ∧ rd_ch T N sp = 63) ⟨rfl, a⟩]
      have a' := a
      rw [rd_ch1 hsp] at a' nop
      have hl0 : ∀ C, rd_pour 1 x.2.2.1 l C = (l, C) := fun C => rd_pour0 (by unfold rd_HS at h3; omega)
      rw [rd_R_lt hsp, rd_step4]
      rcases hE with ⟨rfl, he⟩ | ⟨E', rfl, he, hE⟩
      · rw [rd_fol]
        rw [rd_if0 nop, rd_if0 (fun z => absurd z.2 (show ¬ x.2.1 < 3 by omega)), rd_if0 (fun z => by omega), rd_if0 (fun z => by omega)]
        exact ⟨fun z => Bool.noConfusion z, fun _ => rfl⟩
      · have e1 : rd_fol (x :: X) l sC sS (T sp) = some (rd_q0, (2, x.2.1 + 1, (l.length : Int), (sC.1 : Int), -1) :: x :: X, l, rd_emit sC 6 0 0, sS) := by
          unfold rd_fol
          rw [rd_if0 nop, rd_if1 (c := T sp = 63 ∧ (rd_top (x :: X)).2.1 < 3) ⟨a', show x.2.1 < 3 by omega⟩, show (rd_top (x :: X)).2.2.1 = x.2.2.1 from rfl, hl0]
          rfl
        rw [e1]
        rw [show ((some (rd_q0, (2, x.2.1 + 1, (l.length : Int), (sC.1 : Int), -1) :: x :: X, l, rd_emit sC 6 0 0, sS) : Option rd_T).elim (none, (sp : Int)) fun σ' => rd_R T N σ' (sp + 1)) = rd_R T N (rd_q0, (2, x.2.1 + 1, (l.length : Int), (sC.1 : Int), -1) :: x :: X, l, rd_emit sC 6 0 0, sS) (sp + 1) from rfl]
        rw [show rd_cnd T N (some E') (true, sp, sC, sS) = rd_if ((E' (sp + 1) (rd_emit sC 6 0 0) sS).1 = true ∧ rd_ch T N (E' (sp + 1) (rd_emit sC 6 0 0) sS).2.1 = 58) (rd_els E' sC.1 (E' (sp + 1) (rd_emit sC 6 0 0) sS)) (false, (E' (sp + 1) (rd_emit sC 6 0 0) sS).2) from rfl]
        obtain ⟨k1, k2⟩ := hE (sp + 1) (rd_emit sC 6 0 0) sS (2, x.2.1 + 1, (l.length : Int), (sC.1 : Int), -1) (x :: X) l (by omega) (show x.2.1 + 1 = e + 1 by omega) rfl
        revert k1 k2
        generalize E' (sp + 1) (rd_emit sC 6 0 0) sS = y
        intro k1 k2
        obtain ⟨yb, yp, yC, yS⟩ := y
        cases yb with
        | false =>
          rw [rd_if0 (fun z => Bool.noConfusion z.1)]
          exact ⟨fun z => Bool.noConfusion z, fun _ => k2 rfl⟩
        | true =>
          obtain ⟨m1, m2, m3, m4⟩ := k1 rfl
          have m1 : rd_R T N (rd_q0, (2, x.2.1 + 1, (l.length : Int), (sC.1 : Int), -1) :: x :: X, l, rd_emit sC 6 0 0, sS) (sp + 1) = rd_R T N (rd_q4, (2, x.2.1 + 1, (l.length : Int), (sC.1 : Int), -1) :: x :: X, l, yC, yS) yp := m1
          have m2 : sp + 1 ≤ yp := m2
          have m3 : yp ≤ N := m3
          have m4 : rd_B4 (rd_ch T N yp) := m4
          rw [m1]
          by_cases b : rd_ch T N yp = 58
          · have hyp : yp < N := by
              by_cases g : yp < N
              · exact g
              · rw [rd_ch0 (by omega)] at b; exact absurd b (by decide)
            rw [rd_if1 (c := true = true ∧ rd_ch T N yp = 58) ⟨rfl, b⟩]
            rw [rd_ch1 hyp] at b m4
            have hcl : rd_clo ((2, x.2.1 + 1, (l.length : Int), (sC.1 : Int), -1) :: x :: X) l yC = (l, yC) := rd_pour0 (Int.le_refl _)
            have e2 : rd_fol ((2, x.2.1 + 1, (l.length : Int), (sC.1 : Int), -1) :: x :: X) l yC yS (T yp) = some (rd_q0, (3, x.2.1 + 1, (l.length : Int), (yC.1 : Int), (sC.1 : Int)) :: x :: X, l, rd_pa (rd_emit yC 7 0 0) sC.1 (yC.1 + 1), yS) := by
              unfold rd_fol
              rw [rd_if0 m4.1, rd_if0 (fun z => m4.2 z.1), rd_if1 (c := T yp = 58 ∧ rd_enc ((2, x.2.1 + 1, (l.length : Int), (sC.1 : Int), -1) :: x :: X) = 2) ⟨b, rfl⟩, hcl]
              rfl
            rw [rd_R_lt hyp, rd_step4, e2]
            rw [show ((some (rd_q0, (3, x.2.1 + 1, (l.length : Int), (yC.1 : Int), (sC.1 : Int)) :: x :: X, l, rd_pa (rd_emit yC 7 0 0) sC.1 (yC.1 + 1), yS) : Option rd_T).elim (none, (yp : Int)) fun σ' => rd_R T N σ' (yp + 1)) = rd_R T N (rd_q0, (3, x.2.1 + 1, (l.length : Int), (yC.1 : Int), (sC.1 : Int)) :: x :: X, l, rd_pa (rd_emit yC 7 0 0) sC.1 (yC.1 + 1), yS) (yp + 1) from rfl]
            obtain ⟨n1, n2⟩ := hE (yp + 1) (rd_pa (rd_emit yC 7 0 0) sC.1 (yC.1 + 1)) yS (3, x.2.1 + 1, (l.length : Int), (yC.1 : Int), (sC.1 : Int)) (x :: X) l (by omega) (show x.2.1 + 1 = e + 1 by omega) rfl
            unfold rd_els
            revert n1 n2
            dsimp only
            generalize E' (yp + 1) (rd_pa (rd_emit yC 7 0 0) sC.1 (yC.1 + 1)) yS = z
            intro n1 n2
            obtain ⟨zb, zp, zC, zS⟩ := z
            cases zb with
            | false => exact ⟨fun z => Bool.noConfusion z, fun _ => n2 rfl⟩
            | true =>
              obtain ⟨o1, o2, o3, o4⟩ := n1 rfl
              have o2 : yp + 1 ≤ zp := o2
              refine ⟨fun _ => ⟨?_, show p ≤ zp by omega, o3, o4⟩, fun z => Bool.noConfusion z⟩
              rw [o1]
              exact rd_else rfl o4
          · rw [rd_if0 (fun z => b z.2)]
            refine ⟨fun z => Bool.noConfusion z, fun _ => ?_⟩
            by_cases hq : yp < N
            · rw [rd_ch1 hq] at b m4
              rw [rd_R_lt hq, rd_step4, rd_fol0 m4.1 m4.2 (fun z => b z.1) (fun z => by have := z.2; rw [rd_enc2] at this; omega)]
              rfl
            · rw [rd_R_ge (by omega), rd_fin4, if_pos (by rw [rd_enc2]; decide), show N = yp by omega]
    · rw [rd_if0 (fun z => a z.2)]
      exact ⟨fun _ => ⟨rfl, f2, f3, nop, a⟩, fun z => Bool.noConfusion z⟩
theorem rd_gd_F (hN : N ≤ 24) : ∀ k : Nat, k ≤ 3 → rd_gd T N (3 - k) rd_HS rd_B4 (rd_F T N k) := by
  intro k
  induction k with
  | zero => intro _; exact rd_gd_f (Or.inl ⟨rfl, rfl⟩) hN
  | succ k ih =>
    intro hk
    have := ih (by omega)
    refine rd_gd_f (Or.inr ⟨_, rfl, by omega, ?_⟩) hN
    rw [show (3 : Int) - ((k + 1 : Nat) : Int) + 1 = 3 - (k : Int) by omega]
    exact this
/-- the machine's reading is the descent's -/
theorem rd_main (hN : N ≤ 24) : rd_R T N (rd_q0, [(0, 0, 0, 0, -1)], [], C, S) 0 = if (rd_F T N 3 0 C S).1 = true ∧ N ≤ (rd_F T N 3 0 C S).2.1 then (some (rd_F T N 3 0 C S).2.2, -1) else (none, ((rd_F T N 3 0 C S).2.1 : Int)) := by
  obtain ⟨g1, g2⟩ := rd_gd_F (T := T) hN 3 (Nat.le_refl _) 0 C S (0, 0, 0, 0, -1) [] [] (Nat.zero_le _) rfl rfl
  revert g1 g2
  generalize rd_F T N 3 0 C S = r
  intro g1 g2
  obtain ⟨rb, r, rC, rS⟩ := r
  cases rb with
  | false =>
    rw [if_neg (fun z => Bool.noConfusion z.1)]
    exact g2 rfl
  | true =>
    obtain ⟨f1, f2, f3, f4⟩ := g1 rfl
    have f3 : r ≤ N := f3
    have f4 : rd_B4 (rd_ch T N r) := f4
    rw [f1]
    show rd_R T N (rd_q4, [(0, 0, 0, 0, -1)], [], rC, rS) r = _
    by_cases h : r < N
    · rw [rd_ch1 h] at f4
      rw [if_neg (fun z => absurd z.2 (show ¬ N ≤ r by omega)), rd_R_lt h, rd_step4, rd_fol0 f4.1 f4.2 (fun z => by have := z.2; rw [rd_enc0] at this; omega) (fun z => by have := z.2; rw [rd_enc0] at this; omega)]
      rfl
    · rw [if_pos ⟨rfl, show N ≤ r by omega⟩, rd_R_ge (by omega), rd_fin4, if_neg (by rw [rd_enc0]; decide)]
      rfl
/-- where the descent stops -/
theorem rd_F_le (hN : N ≤ 24) (h : (rd_F T N 3 0 C S).1 = true) : (rd_F T N 3 0 C S).2.1 ≤ N := ((rd_gd_F (T := T) hN 3 (Nat.le_refl _) 0 C S (0, 0, 0, 0, -1) [] [] (Nat.zero_le _) rfl rfl).1 h).2.2.1
end RG
