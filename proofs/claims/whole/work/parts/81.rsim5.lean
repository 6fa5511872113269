/-! The reference follows a formula as the pure evaluation does. -/
section S5
variable {μ0 μ μ1 μ' : mm_M} {n m t : Int} {c e r : Int} {G : Int → Prop} {Lp : mm_M → Prop} {a : Nat} {k z v f : Int}
theorem code_len : (nv_code (rNv μ) r).length = (μ 141 r).toNat := by
  show (List.map _ (List.range _)).length = _
  rw [List.length_map, List.length_range]
theorem code_at {i : Nat} (h : i < (μ 141 r).toNat) : (nv_code (rNv μ) r)[i]? = some (μ 142 (64 * r + i), μ 143 (64 * r + i), μ 144 (64 * r + i)) := by
  show (List.map _ (List.range _))[i]? = _
  rw [List.getElem?_map, List.getElem?_range h]
  rfl
theorem rsim_run (hA : rA μ0) (hl : rA_l μ0) (hL : rL μ0 Lp) (hN : ev_en (rNv μ0) G) {f : Nat} (hW : rW μ0 Lp G f) {P : List Int} (hn : n + 1 + f = 20) (n0 : 0 ≤ n) (hm : m + 9 * (f + 1) ≤ 200) (m0 : 0 ≤ m) (hc : G c) (hr : 0 ≤ r ∧ r < μ0 129 11) {h : Nat → Int} (hco : ev_co (rNv μ0) r h) :
    ∀ (k i : Nat) (st : List ev_K) (t : Int) (μ : mm_M) (c0 : Int), 65 ≤ k + i → i ≤ (μ0 141 r).toNat → h i = st.length → (∀ x ∈ st, ev_ok x) → rS μ0 μ (n + 1) (m + st.length) t → rF μ n c r i (-1) c0 → rO μ m st → rPa μ (n + 1) P →
      (∀ x t', ev_run (rNv μ0) (ev (rNv μ0) f P) r c k i st t = some (x, t') → (∀ μ', rS μ0 μ' n m t' → rK n m μ μ' → μ' 129 62 = x.1 → μ' 129 63 = sp_pl x.1 x.2 → Lp (rdel μ')) → Lp μ) ∧ (ev_run (rNv μ0) (ev (rNv μ0) f P) r c k i st t = none → (∀ μ', mm_re μ' = mm_re μ0 → rsp μ' → Lp μ') → Lp μ) := by
  obtain ⟨hlen, hh0, hhl, hhb, hop⟩ := hco
  obtain ⟨hk1, hk2⟩ := hA.2.2.2.2.2.2.2 r hr.1 hr.2
  have hfu := hA.2.2.2.2.2.2.1
  have h11 := hA.2.1.1
  have hcb := hN.1 c hc
  rw [code_len] at hlen hhl
  intro k
  induction k with
  | zero => intro i st t μ c0 h65 hi; omega
  | succ k ih =>
    intro i st t μ c0 h65 hi hhi hst hS hF hO hP
    obtain ⟨g1, g2, g3, g4, g5, g6, g7, g8, g9⟩ := id hS
    have hbi := hhb i
    have hrow : ∀ b : Nat, 130 ≤ b ∧ b ≤ 147 → μ b = μ0 b := fun b hb => re_row g1 (by omega)
    obtain ⟨f1, f2, f3, f4, f5⟩ := id hF
    have hgo : (i < (μ0 141 r).toNat → (μ0 142 (64 * r + i) = 6 → 1 ≤ (st.length : Int)) ∧ (2 ≤ μ0 142 (64 * r + i) → μ0 142 (64 * r + i) ≤ 5 → 2 ≤ (st.length : Int))) → Lp (rord μ n) → Lp μ := by
      intro q1 q
      refine hL.1 μ n g1 g6 n0 g2.symm g5 (by rw [f4]; decide) (by rw [f2]; exact hr) (by rw [f3, f2]; omega) (by omega) (by omega) (by rw [g3]; exact g7) ?_ ?_ ?_ q
      · rw [f2, f3, g3]
        intro q2
        have : i = (μ0 141 r).toNat := by omega
        rw [← this] at hhl
        omega
      · rw [f2, f3, g3]
        intro q2 q3
        have := (q1 (by omega)).1 q3
        omega
      · rw [f2, f3, g3]
        intro q2 q3 q4
        have := (q1 (by omega)).2 q3 q4
        omega
    have step : ∀ (μ2 : mm_M) (i2 : Nat) (st2 : List ev_K) (t2 c2 : Int), i < i2 → i2 ≤ (μ0 141 r).toNat → h i2 = st2.length → (∀ x ∈ st2, ev_ok x) → rS μ0 μ2 (n + 1) (m + st2.length) t2 → rF μ2 n c r i2 (-1) c2 → rO μ2 m st2 → rK n m μ μ2 →
        (∀ x t', ev_run (rNv μ0) (ev (rNv μ0) f P) r c k i2 st2 t2 = some (x, t') → (∀ μ', rS μ0 μ' n m t' → rK n m μ μ' → μ' 129 62 = x.1 → μ' 129 63 = sp_pl x.1 x.2 → Lp (rdel μ')) → Lp μ2) ∧ (ev_run (rNv μ0) (ev (rNv μ0) f P) r c k i2 st2 t2 = none → (∀ μ', mm_re μ' = mm_re μ0 → rsp μ' → Lp μ') → Lp μ2) := by
      intro μ2 i2 st2 t2 c2 a1 a2 a3 a4 a5 a6 a7 a8
      have hP2 : rPa μ2 (n + 1) P := by
        intro c'
        rw [hP c']
        constructor
        · rintro ⟨j, j0, j1, j2⟩
          by_cases q : j = n
          · exact ⟨j, j0, j1, by rw [q, a6.1]; rw [q, f1] at j2; exact j2⟩
          · exact ⟨j, j0, j1, by rw [(a8.1 j (by omega)).1]; exact j2⟩
        · rintro ⟨j, j0, j1, j2⟩
          by_cases q : j = n
          · exact ⟨j, j0, j1, by rw [q, f1]; rw [q, a6.1] at j2; exact j2⟩
          · exact ⟨j, j0, j1, by rw [← (a8.1 j (by omega)).1]; exact j2⟩
      have := ih i2 st2 t2 μ2 c2 (by omega) a2 a3 a4 a5 a6 a7 hP2
      exact ⟨fun x t' q K => this.1 x t' q fun μ' b1 b2 b3 b4 => K μ' b1 (rK_t a8 b2) b3 b4, this.2⟩
    by_cases hend : i = (μ0 141 r).toNat
    · have hcode : (nv_code (rNv μ0) r)[i]? = none := List.getElem?_eq_none (by rw [code_len]; omega)
      rw [← hend, hhi] at hhl
      unfold ev_run
      rw [hcode]
      cases st with
      | nil => rw [List.length_nil] at hhl; exact absurd hhl (by decide)
      | cons x st =>
        rw [List.length_cons] at hhl
        have hst0 : st.length = 0 := by omega
        dsimp only
        refine ⟨fun y t' q K => ?_, fun q => (by cases q)⟩
        cases q
        rw [List.length_cons, hst0] at g3 hS
        refine hgo (fun q => by omega) ?_
        obtain ⟨o1, o2, _⟩ := hO
        rw [hst0] at o1 o2
        have hro : rord μ n = rdel (mm_u (mm_u (mm_u (mm_u μ 129 59 (μ 129 59 - 1)) 129 62 (μ 173 (μ 129 59 - 1))) 129 63 (μ 174 (μ 129 59 - 1))) 129 47 (μ 129 47 - 1)) := by
          unfold rord
          rw [f2, f3, hrow 141 (by decide), if_pos (by omega)]
        rw [hro]
        have e59 : μ 129 59 - 1 = m + ((0 : Nat) : Int) := by omega
        refine K _ ⟨?_, ?_, ?_, ?_, ?_, ?_, ?_, ?_, g9⟩ ?_ ?_ ?_
        · rw [re_u (by decide), re_u (by decide), re_u (by decide), re_u (by decide)]; exact g1
        · rw [mm_us]; omega
        · rw [mm_un (by decide), mm_un (by decide), mm_un (by decide), mm_us]; omega
        · rw [mm_un (by decide), mm_un (by decide), mm_un (by decide), mm_un (by decide)]; exact g4
        · rw [mm_un (by decide), mm_un (by decide), mm_un (by decide), mm_un (by decide)]; exact g5
        · exact rfv_pop (rfv_f (by decide) (rfv_f (by decide) (rfv_f (by decide) g6))) (by rw [mm_un (by decide), mm_un (by decide), mm_un (by decide)]; omega)
        · intro j j0 j1
          rw [mm_uu (by decide), mm_uu (by decide), mm_uu (by decide), mm_uu (by decide), mm_uu (by decide), mm_uu (by decide), mm_uu (by decide), mm_uu (by decide)]
          exact g7 j j0 (by rw [List.length_cons]; omega)
        · omega
        · exact rK_u (rK_u (rK_u (rK_u rK_r (by omega) (by omega)) (by omega) (by omega)) (by omega) (by omega)) (by omega) (by omega)
        · rw [mm_un (by decide), mm_un (by decide), mm_us, e59]; exact o1
        · rw [mm_un (by decide), mm_us, e59]; exact o2
    · have hi2 : i < (μ0 141 r).toNat := by omega
      have hcode := code_at (r := r) hi2
      have hopi := hop i _ _ _ hcode
      obtain ⟨p1, p2, p3, p4⟩ := hk2 i (by omega) (by omega)
      have hro : rord μ n = if μ0 142 (64 * r + i) = 0 then rpsh (mm_u μ 166 n ((i : Int) + 1)) 0 (1000 * μ0 143 (64 * r + i))
          else if μ0 142 (64 * r + i) = 1 then rref (mm_u μ 166 n ((i : Int) + 1)) n (μ0 143 (64 * r + i)) (μ0 144 (64 * r + i))
          else if μ0 142 (64 * r + i) = 7 then mm_u μ 166 n (μ0 143 (64 * r + i))
          else if μ0 142 (64 * r + i) = 6 then
            if 2 ≤ μ 173 (μ 129 59 - 1) then mm_u μ 166 n (μ0 144 (64 * r + i))
            else mm_u (mm_u μ 129 59 (μ 129 59 - 1)) 166 n (if 0 < μ 174 (μ 129 59 - 1) then (i : Int) + 1 else μ0 143 (64 * r + i))
          else rcmb (mm_u μ 166 n ((i : Int) + 1)) (μ0 142 (64 * r + i)) := by
        unfold rord
        rw [f2, f3, hrow 141 (by decide), hrow 142 (by decide), hrow 143 (by decide), hrow 144 (by decide), if_neg (by omega)]
      have hl36 := hl r hr.1 hr.2 i (by omega) (by omega)
      have hside : (μ0 142 (64 * r + i) = 6 → 1 ≤ (st.length : Int)) ∧ (2 ≤ μ0 142 (64 * r + i) → μ0 142 (64 * r + i) ≤ 5 → 2 ≤ (st.length : Int)) := by
        rcases hopi with q | q | q | q | q <;> omega
      replace hgo := hgo fun _ => hside
      unfold ev_run
      rw [hcode]
      dsimp only
      rw [hro] at hgo
      generalize μ0 142 (64 * r + i) = op at *
      generalize μ0 143 (64 * r + i) = A at *
      generalize μ0 144 (64 * r + i) = B at *
      have hla : ((i + 1 : Nat) : Int) = (i : Int) + 1 := by omega
      have hSa : rS μ0 (mm_u μ 166 n ((i : Int) + 1)) (n + 1) (m + st.length) t := rS_o hS (by decide) (rfv_o (by decide) g6) (by omega)
      have hFa : rF (mm_u μ 166 n ((i : Int) + 1)) n c r ((i + 1 : Nat) : Int) (-1) c0 := ⟨by rw [mm_uu (by decide)]; exact f1, by rw [mm_uu (by decide)]; exact f2, by rw [mm_us, hla], by rw [mm_uu (by decide)]; exact f4, by rw [mm_uu (by decide)]; exact f5⟩
      have hOa : rO (mm_u μ 166 n ((i : Int) + 1)) m st := rO_c st hO fun j _ _ => by rw [mm_uu (by decide), mm_uu (by decide)]; exact ⟨rfl, rfl⟩
      have hKa : rK n m μ (mm_u μ 166 n ((i : Int) + 1)) := rK_u rK_r (fun _ _ => Int.le_refl _) (by omega)
      have hPa : rPa (mm_u μ 166 n ((i : Int) + 1)) (n + 1) P := by
        intro c'
        rw [hP c', mm_uu (show (164 : Nat) ≠ 166 by decide)]
      have ea59 : mm_u μ 166 n ((i : Int) + 1) 129 59 = m + st.length := by rw [mm_uu (by decide)]; exact g3
      have eaop : ∀ j, mm_u μ 166 n ((i : Int) + 1) 173 j = μ 173 j ∧ mm_u μ 166 n ((i : Int) + 1) 174 j = μ 174 j := fun j => by rw [mm_uu (by decide), mm_uu (by decide)]; exact ⟨rfl, rfl⟩
      generalize hma : mm_u μ 166 n ((i : Int) + 1) = μa at *
      -- an operand is pushed
      have push : ∀ (sq : List ev_K) (μb : mm_M) (y : ev_K) (t2 c2 : Int), h (i + 1) = sq.length + 1 → (∀ x ∈ sq, ev_ok x) → ev_ok y → rS μ0 μb (n + 1) (m + sq.length) t2 → rF μb n c r ((i + 1 : Nat) : Int) (-1) c2 → rO μb m sq → rK n m μ μb →
          ((∀ x t', ev_run (rNv μ0) (ev (rNv μ0) f P) r c k (i + 1) (y :: sq) t2 = some (x, t') → (∀ μ', rS μ0 μ' n m t' → rK n m μ μ' → μ' 129 62 = x.1 → μ' 129 63 = sp_pl x.1 x.2 → Lp (rdel μ')) → Lp (rpsh μb y.1 y.2)) ∧ (ev_run (rNv μ0) (ev (rNv μ0) f P) r c k (i + 1) (y :: sq) t2 = none → (∀ μ', mm_re μ' = mm_re μ0 → rsp μ' → Lp μ') → Lp (rpsh μb y.1 y.2))) := by
        intro sq μb y t2 c2 hh hsq hy bS bF bO bK
        have hb1 := hhb (i + 1)
        have hll : m + (((y :: sq).length : Nat) : Int) = m + sq.length + 1 := by rw [List.length_cons]; omega
        have hS2 : rS μ0 (rpsh μb y.1 y.2) (n + 1) (m + ((y :: sq).length : Nat)) t2 := by
          rw [hll]
          exact rS_psh bS hy.1 (fun _ => hy.2) (by omega)
        refine step _ (i + 1) (y :: sq) t2 c2 (by omega) (by omega) (by rw [hh, List.length_cons]; omega) ?_ hS2 ?_ ?_ ?_
        · intro x hx
          rcases List.mem_cons.mp hx with rfl | hx
          · exact hy
          · exact hsq x hx
        · exact rF_o bF (by rw [rpsh_o (by decide)]) (by rw [rpsh_o (by decide)]) (by rw [rpsh_o (by decide)]) (by rw [rpsh_o (by decide)]) (by rw [rpsh_o (by decide)])
        · exact rO_psh bO bS.2.2.1
        · exact rK_psh bK (by rw [bS.2.2.1]; omega)
      by_cases o0 : op = 0
      · rw [if_pos o0] at hgo
        rw [if_pos o0]
        have hh : h (i + 1) = h i + 1 := by rcases hopi with q | q | q | q | q <;> omega
        have hA2 := p2 o0
        have := (push st μa (0, 1000 * A) t c0 (by rw [hh, hhi]) hst ⟨⟨Int.le_refl 0, show (0 : Int) ≤ 4 by decide⟩, show -2000000000 ≤ 1000 * A by omega, show 1000 * A ≤ 2000000000 by omega⟩ hSa hFa hOa hKa)
        exact ⟨fun x t' q K => hgo (this.1 x t' q K), fun q K => hgo (this.2 q K)⟩
      · rw [if_neg o0] at hgo
        rw [if_neg o0]
        by_cases o1 : op = 1
        · rw [if_pos o1] at hgo
          rw [if_pos o1]
          have hh : h (i + 1) = h i + 1 := by rcases hopi with q | q | q | q | q <;> omega
          obtain ⟨p3a, p3b⟩ := p3 o1
          have hl36 := hl36 o1
          have ea4 := hFa.1
          have ea5 := hFa.2.1
          have hgt := rtr_tgt hA B.toNat (24 * r + A) c hcb.1 hcb.2 (fun j j0 j1 => p3b j j0 (by omega)) (fun j j0 j1 => hl36 j j0 (by omega)) _ rfl
          have hshe : nv_sh (rNv μ0) r A B = (List.range B.toNat).map fun (j : Nat) => (μ0 146 (24 * r + A + j), sgc (μ0 147 (24 * r + A + j))) := rfl
          have hshr : ∀ s ∈ nv_sh (rNv μ0) r A B, (0 ≤ s.1 ∧ s.1 < 3) ∧ (0 ≤ s.2 ∧ s.2 < 10) := by
            rcases hopi with q | q | q | q | q
            · omega
            · exact q.2.2
            · omega
            · omega
            · omega
          have hto := ev_tgto hN (nv_sh (rNv μ0) r A B) c hc hshr
          rw [hshe] at hto
          rw [hshe]
          have hrr : rref μa n A B = if rtr μ0 B.toNat (24 * r + A) c < 0 then rpsh μa 1 0 else if μ0 147 (24 * r + A + B - 1) = 36 then rbeg μa n (μ0 146 (24 * r + A + B - 1)) (rtr μ0 B.toNat (24 * r + A) c) else rned μa (rtr μ0 B.toNat (24 * r + A) c) := by
            unfold rref
            rw [ea4, ea5, re_tr2 hSa.1, re_row hSa.1 (a := 147) (by decide), re_row hSa.1 (a := 146) (by decide)]
          rw [hrr] at hgo
          have hBi : (24 * r + A + ((B.toNat : Nat) : Int) - 1) = 24 * r + A + B - 1 := by omega
          rw [hBi] at hgt
          generalize ev_tgt (rNv μ0) ((List.range B.toNat).map fun (j : Nat) => (μ0 146 (24 * r + A + j), sgc (μ0 147 (24 * r + A + j)))) c = q at *
          obtain ⟨q1, q2, q3⟩ := q
          dsimp only at hgt hto
          rcases hgt with ⟨w1, w2⟩ | ⟨w1, w2, w3⟩ | ⟨w1, w2, w3, w4, w5⟩
          · subst w1
            rw [if_pos w2] at hgo
            have hev : ev_ref (rNv μ0) (ev (rNv μ0) f P) (0, q2, q3) t = some ((1, 0), t) := rfl
            rw [hev]
            dsimp only
            have := push st μa (1, 0) t c0 (by rw [hh, hhi]) hst ⟨show (0 : Int) ≤ 1 ∧ (1 : Int) ≤ 4 by decide, show (-2000000000 : Int) ≤ 0 ∧ (0 : Int) ≤ 2000000000 by decide⟩ hSa hFa hOa hKa
            exact ⟨fun x t' q K => hgo (this.1 x t' q K), fun q K => hgo (this.2 q K)⟩
          · subst w1
            have hG2 : G q2 := by rcases hto.1 with q | q; exact absurd q (by decide); exact q
            have hq2 := hN.1 q2 hG2
            rw [w2, if_neg (by omega), if_neg (w3 (by omega))] at hgo
            have hW1 := hW (n + 1) (m + st.length) t P q2 μa (by omega) hSa (by omega) hPa hG2
            have hev : ev_ref (rNv μ0) (ev (rNv μ0) f P) (1, q2, q3) t = ev (rNv μ0) f P q2 t := rfl
            rw [hev]
            cases hE : ev (rNv μ0) f P q2 t with
            | none =>
              dsimp only
              exact ⟨fun x t' q => (by cases q), fun _ K => hgo (hW1.2 hE K)⟩
            | some z =>
              obtain ⟨y, t1⟩ := z
              dsimp only
              have hy := ev_o hN f P _ _ _ _ hG2 hE
              have hdl : ∀ μ', rS μ0 μ' (n + 1) (m + st.length) t1 → rK (n + 1) (m + st.length) μa μ' → μ' 129 62 = y.1 → μ' 129 63 = sp_pl y.1 y.2 → rdel μ' = rpsh μ' y.1 (sp_pl y.1 y.2) ∧ ((∀ x t', ev_run (rNv μ0) (ev (rNv μ0) f P) r c k (i + 1) (y :: st) t1 = some (x, t') → (∀ μ', rS μ0 μ' n m t' → rK n m μ μ' → μ' 129 62 = x.1 → μ' 129 63 = sp_pl x.1 x.2 → Lp (rdel μ')) → Lp (rpsh μ' y.1 y.2)) ∧ (ev_run (rNv μ0) (ev (rNv μ0) f P) r c k (i + 1) (y :: st) t1 = none → (∀ μ', mm_re μ' = mm_re μ0 → rsp μ' → Lp μ') → Lp (rpsh μ' y.1 y.2))) := by
                intro μ' hS' hK' h62 h63
                obtain ⟨b1, b2, b3, b4, b5, b6, b7, b8, b9⟩ := hK'.1 n (by omega)
                have h47 := hS'.2.1
                have hFm := rF_o hFa b1 b2 b3 b4 b5
                refine ⟨?_, push st μ' y t1 c0 (by rw [hh, hhi]) hst hy.1 hS' hFm (rO_c st hOa fun j _ j1 => hK'.2 j j1) (rK_t hKa (rK_le hK' (by omega) (by omega)))⟩
                rw [rdel_k (by omega) (Or.inr (by rw [h47, show n + 1 - 1 = n by omega, hFm.2.1]; omega))]
                unfold rdl1
                rw [h47, if_neg (by omega), show n + 1 - 1 = n by omega, hFm.2.2.2.1, if_neg (by decide), h62, h63]
              have hps : ∀ μ' : mm_M, rpsh μ' y.1 (sp_pl y.1 y.2) = rpsh μ' y.1 y.2 := by
                intro μ'
                have e : (if y.1 = 0 then sp_pl y.1 y.2 else 0) = if y.1 = 0 then y.2 else 0 := by
                  unfold sp_pl
                  by_cases q : y.1 = 0
                  · rw [if_pos q, if_pos q]
                  · rw [if_neg q, if_neg q]
                unfold rpsh
                rw [e]
              refine ⟨fun x t' q K => hgo (hW1.1 y t1 hE fun μ' hS' hK' h62 h63 => ?_), fun q K => hgo (hW1.1 y t1 hE fun μ' hS' hK' h62 h63 => ?_)⟩
              · obtain ⟨d1, d2⟩ := hdl μ' hS' hK' h62 h63
                rw [d1, hps]
                exact d2.1 x t' q K
              · obtain ⟨d1, d2⟩ := hdl μ' hS' hK' h62 h63
                rw [d1, hps]
                exact d2.2 q K
          · subst w1
            have hG2 : G q2 := by rcases hto.1 with q | q; exact absurd q (by decide); exact q
            have hq2 := hN.1 q2 hG2
            have hq3 := hto.2.1
            rw [w2, if_neg (by omega), if_pos w4, w5] at hgo
            have hev : ev_ref (rNv μ0) (ev (rNv μ0) f P) (2, q2, q3) t = ev_tots (ev_sum (ev (rNv μ0) f P) q2 q3 (nv_kid (rNv μ0) q3 (rpart q2 q3)) (0, 0) t) := rfl
            rw [hev]
            have hSb : rS μ0 (rbeg μa n q3 q2) (n + 1) (m + st.length) t := rS_beg hSa (by omega) (by omega) hq2
            have hFb : rF (rbeg μa n q3 q2) n c r ((i + 1 : Nat) : Int) q3 q2 := rF_beg hFa
            have hKb : rK n m μ (rbeg μa n q3 q2) := rK_beg hKa (Int.le_refl _)
            have hPb : rPa (rbeg μa n q3 q2) (n + 1) P := by
              intro c'
              rw [hPa c', rbeg_o (b := 164) (by decide)]
            have hOb : rO (rbeg μa n q3 q2) m st := rO_c st hOa fun j _ _ => by rw [rbeg_o (by decide), rbeg_o (by decide)]; exact ⟨rfl, rfl⟩
            have hsum := rsim_sum hA hL hN hW (P := P) (m := m + st.length) hn (by omega) hq3 hG2 (ρ := r) (cT := c) (fun q => by omega) _ 0 (0, 0) t _ (List.drop_zero ..) hSb hFb rZ_beg (by decide) (by decide) hPb n0 (Nat.zero_le _)
            have hklen := hN.2.2.2.2.2.2.2.1 q2 q3 hG2 hq3.1 hq3.2
            have hkG := hN.2.2.2.2.2.2.1 q2 q3
            cases hE : ev_sum (ev (rNv μ0) f P) q2 q3 (nv_kid (rNv μ0) q3 (rpart q2 q3)) (0, 0) t with
            | none =>
              unfold ev_tots
              dsimp only
              exact ⟨fun x t' q => (by cases q), fun _ K => hgo (hsum.2 hE K)⟩
            | some z =>
              obtain ⟨s', t1⟩ := z
              unfold ev_tots
              dsimp only
              have hso := ev_sumo (ev_o hN f P) _ _ _ (fun m' hm' => (hkG m' hG2 hq3.1 hq3.2 hm').2) (by decide) _ _ hE
              have hdl : ∀ μ3, rS μ0 μ3 (n + 1) (m + st.length) t1 → rK n (m + st.length) (rbeg μa n q3 q2) μ3 → rF μ3 n c r ((i + 1 : Nat) : Int) q3 q2 → rZ μ3 n (nv_kid (rNv μ0) q3 (rpart q2 q3)).length s' → ∃ μ4, (Lp (rpsh μ4 (ev_tot s').1 (ev_tot s').2) → Lp μ3) ∧ ((∀ x t', ev_run (rNv μ0) (ev (rNv μ0) f P) r c k (i + 1) (ev_tot s' :: st) t1 = some (x, t') → (∀ μ', rS μ0 μ' n m t' → rK n m μ μ' → μ' 129 62 = x.1 → μ' 129 63 = sp_pl x.1 x.2 → Lp (rdel μ')) → Lp (rpsh μ4 (ev_tot s').1 (ev_tot s').2)) ∧ (ev_run (rNv μ0) (ev (rNv μ0) f P) r c k (i + 1) (ev_tot s' :: st) t1 = none → (∀ μ', mm_re μ' = mm_re μ0 → rsp μ' → Lp μ') → Lp (rpsh μ4 (ev_tot s').1 (ev_tot s').2))) := by
                intro μ3 hS3 hK3 hF3 hZ3
                obtain ⟨μ4, y1, y2, y3, y4⟩ := rsum_end2 n0 hS3 hF3 hZ3 hso.1 (by omega)
                obtain ⟨z1, z2, z3, z4, z5, z6, z7, z8, z9⟩ := id hS3
                have hro3 := roll_N z1 hF3
                rw [if_neg (by omega)] at hro3
                refine ⟨μ4, fun q => hL.2 μ3 n z1 z6 n0 z2.symm z5 (by rw [hF3.2.2.2.1]; exact hq3.1) (by omega) (by omega) ?_ (fun q => by omega) (by rw [hZ3.1]; omega) (by rw [y1]; exact q), ?_⟩
                · rw [hZ3.2.1]
                  have := hso.2.1
                  dsimp only at this
                  omega
                · exact push st μ4 (ev_tot s') t1 q2 (by rw [hh, hhi]) hst (ev_oktot hso.1) y2 y4 (rO_c st hOb fun j _ j1 => by
                    have a1 := hK3.2 j j1
                    have a2 := y3.2 j j1
                    rw [a2.1, a2.2]
                    exact a1) (rK_t hKb (rK_le (rK_t hK3 y3) (Int.le_refl _) (by omega)))
              refine ⟨fun x t' q K => hgo (hsum.1 s' t1 hE fun μ3 hS3 hK3 hF3 hZ3 => ?_), fun q K => hgo (hsum.1 s' t1 hE fun μ3 hS3 hK3 hF3 hZ3 => ?_)⟩
              · obtain ⟨μ4, d1, d2⟩ := hdl μ3 hS3 hK3 hF3 hZ3
                exact d1 (d2.1 x t' q K)
              · obtain ⟨μ4, d1, d2⟩ := hdl μ3 hS3 hK3 hF3 hZ3
                exact d1 (d2.2 q K)
        · rw [if_neg o1] at hgo
          rw [if_neg o1]
          by_cases o7 : op = 7
          · rw [if_pos o7] at hgo
            rw [if_pos o7]
            have hh : ((i : Int) < A ∧ A ≤ (nv_code (rNv μ0) r).length) ∧ h A.toNat = h i := by
              rcases hopi with q | q | q | q | q
              · omega
              · omega
              · omega
              · omega
              · exact q.2
            rw [code_len] at hh
            have hAn : ((A.toNat : Nat) : Int) = A := by omega
            have := step (mm_u μ 166 n A) A.toNat st t c0 (by omega) (by omega) (by rw [hh.2, hhi]) hst (rS_o hS (by decide) (rfv_o (by decide) g6) (by omega)) ⟨by rw [mm_uu (by decide)]; exact f1, by rw [mm_uu (by decide)]; exact f2, by rw [mm_us, hAn], by rw [mm_uu (by decide)]; exact f4, by rw [mm_uu (by decide)]; exact f5⟩ (rO_c st hO fun j _ _ => by rw [mm_uu (by decide), mm_uu (by decide)]; exact ⟨rfl, rfl⟩) (rK_u rK_r (fun _ _ => Int.le_refl _) (by omega))
            exact ⟨fun x t' q K => hgo (this.1 x t' q K), fun q K => hgo (this.2 q K)⟩
          · rw [if_neg o7] at hgo
            rw [if_neg o7]
            cases st with
            | nil =>
              exfalso
              rw [List.length_nil] at hhi
              rcases hopi with q | q | q | q | q <;> omega
            | cons x st1 =>
              have hx := hst x List.mem_cons_self
              have hst1 : ∀ y ∈ st1, ev_ok y := fun y hy => hst y (List.mem_cons_of_mem _ hy)
              have hll : (((x :: st1).length : Nat) : Int) = st1.length + 1 := by rw [List.length_cons]; omega
              rw [hll] at hhi g3 ea59
              obtain ⟨o73, o74, hO1⟩ := id hO
              have e59 : μ 129 59 - 1 = m + st1.length := by omega
              rw [e59, o73, o74] at hgo
              dsimp only
              by_cases o6 : op = 6
              · rw [if_pos o6] at hgo
                rw [if_pos o6]
                have hj : 1 ≤ h i ∧ h (i + 1) = h i - 1 ∧ ((i : Int) < A ∧ A ≤ (nv_code (rNv μ0) r).length) ∧ ((i : Int) < B ∧ B ≤ (nv_code (rNv μ0) r).length) ∧ h A.toNat = h i - 1 ∧ h B.toNat = h i := by
                  rcases hopi with q | q | q | q | q
                  · omega
                  · omega
                  · omega
                  · exact q.2
                  · omega
                rw [code_len] at hj
                have hAn : ((A.toNat : Nat) : Int) = A := by omega
                have hBn : ((B.toNat : Nat) : Int) = B := by omega
                have hSp : ∀ z : Int, rS μ0 (mm_u (mm_u μ 129 59 (m + st1.length)) 166 n z) (n + 1) (m + st1.length) t := by
                  intro z
                  refine ⟨by rw [re_u (by omega), re_u (by decide)]; exact g1, by rw [mm_uu (by decide), mm_un (by decide)]; exact g2, by rw [mm_uu (by decide), mm_us], by rw [mm_uu (by decide), mm_un (by decide)]; exact g4, by rw [mm_uu (by decide), mm_un (by decide)]; exact g5, rfv_o (by decide) (rfv_f (by decide) g6), fun j j0 j1 => ?_, by omega, g9⟩
                  rw [mm_uu (by decide), mm_uu (by decide), mm_uu (by decide), mm_uu (by decide)]
                  exact g7 j j0 (by omega)
                have hFp : ∀ (z : Int) (i2 : Nat), z = i2 → rF (mm_u (mm_u μ 129 59 (m + st1.length)) 166 n z) n c r i2 (-1) c0 := fun z i2 hz => ⟨by rw [mm_uu (by decide), mm_uu (by decide)]; exact f1, by rw [mm_uu (by decide), mm_uu (by decide)]; exact f2, by rw [mm_us]; exact hz, by rw [mm_uu (by decide), mm_uu (by decide)]; exact f4, by rw [mm_uu (by decide), mm_uu (by decide)]; exact f5⟩
                have hOp : ∀ z : Int, rO (mm_u (mm_u μ 129 59 (m + st1.length)) 166 n z) m st1 := fun z => rO_c st1 hO1 fun j _ _ => by rw [mm_uu (by decide), mm_uu (by decide), mm_uu (by decide), mm_uu (by decide)]; exact ⟨rfl, rfl⟩
                have hKp : ∀ z : Int, rK n m μ (mm_u (mm_u μ 129 59 (m + st1.length)) 166 n z) := fun z => rK_u (rK_u rK_r (by omega) (by omega)) (fun _ _ => Int.le_refl _) (by omega)
                by_cases hf : x.1 ≤ 1
                · rw [if_neg (by omega)] at hgo
                  rw [if_pos hf]
                  by_cases hp : 0 < sp_pl x.1 x.2
                  · rw [if_pos hp] at hgo
                    rw [if_pos hp]
                    have := step _ (i + 1) st1 t c0 (by omega) (by omega) (by omega) hst1 (hSp _) (hFp _ _ hla.symm) (hOp _) (hKp _)
                    exact ⟨fun x t' q K => hgo (this.1 x t' q K), fun q K => hgo (this.2 q K)⟩
                  · rw [if_neg hp] at hgo
                    rw [if_neg hp]
                    have := step _ A.toNat st1 t c0 (by omega) (by omega) (by omega) hst1 (hSp _) (hFp A _ hAn.symm) (hOp _) (hKp _)
                    exact ⟨fun x t' q K => hgo (this.1 x t' q K), fun q K => hgo (this.2 q K)⟩
                · rw [if_pos (by omega)] at hgo
                  rw [if_neg hf]
                  have := step (mm_u μ 166 n B) B.toNat (x :: st1) t c0 (by omega) (by omega) (by omega) hst (rS_o hS (by decide) (rfv_o (by decide) g6) (by omega)) ⟨by rw [mm_uu (by decide)]; exact f1, by rw [mm_uu (by decide)]; exact f2, by rw [mm_us, hBn], by rw [mm_uu (by decide)]; exact f4, by rw [mm_uu (by decide)]; exact f5⟩ (rO_c _ hO fun j _ _ => by rw [mm_uu (by decide), mm_uu (by decide)]; exact ⟨rfl, rfl⟩) (rK_u rK_r (fun _ _ => Int.le_refl _) (by omega))
                  exact ⟨fun x t' q K => hgo (this.1 x t' q K), fun q K => hgo (this.2 q K)⟩
              · rw [if_neg o6] at hgo
                rw [if_neg o6]
                have hj : (2 ≤ op ∧ op ≤ 5) ∧ 2 ≤ h i ∧ h (i + 1) = h i - 1 := by
                  rcases hopi with q | q | q | q | q
                  · omega
                  · omega
                  · exact q
                  · omega
                  · omega
                cases st1 with
                | nil =>
                  exfalso
                  rw [List.length_nil] at hhi
                  omega
                | cons y st2 =>
                  have hy := hst1 y List.mem_cons_self
                  have hl2 : (((y :: st2).length : Nat) : Int) = st2.length + 1 := by rw [List.length_cons]; omega
                  rw [hl2] at hhi ea59 o73 o74
                  obtain ⟨p73, p74, hO2⟩ := hO1
                  dsimp only
                  have hcb := sp_cmb_b (op := op - 1) (va := y.2) (vb := x.2) hy.1 hx.1
                  have hrc : rcmb μa op = rpsh (rres (mm_u μa 129 59 (m + st2.length)) (sp_cmb (op - 1) y.1 y.2 x.1 x.2).1 (sp_cmb (op - 1) y.1 y.2 x.1 x.2).2) (sp_cmb (op - 1) y.1 y.2 x.1 x.2).1 (sp_cmb (op - 1) y.1 y.2 x.1 x.2).2 := by
                    have e2 : μa 129 59 - 2 = m + st2.length := by omega
                    have e3 : m + (st2.length : Int) + 1 = m + (st2.length + 1) := by omega
                    have e4 : ∀ k1 v1 k2 v2 : Int, sp_cmb (op - 1) k1 (sp_pl k1 v1) k2 (sp_pl k2 v2) = sp_cmb (op - 1) k1 v1 k2 v2 := by
                      intro k1 v1 k2 v2
                      unfold sp_cmb
                      rw [sp_pl_pl, sp_pl_pl]
                    unfold rcmb
                    rw [e2, e3, (eaop _).1, (eaop _).2, (eaop _).1, (eaop _).2, o73, o74, p73, p74, e4]
                  rw [hrc] at hgo
                  have hSb : rS μ0 (rres (mm_u μa 129 59 (m + st2.length)) (sp_cmb (op - 1) y.1 y.2 x.1 x.2).1 (sp_cmb (op - 1) y.1 y.2 x.1 x.2).2) (n + 1) (m + st2.length) t := by
                    obtain ⟨z1, z2, z3, z4, z5, z6, z7, z8, z9⟩ := hSa
                    refine rS_res ⟨by rw [re_u (by decide)]; exact z1, by rw [mm_un (by decide)]; exact z2, by rw [mm_us], by rw [mm_un (by decide)]; exact z4, by rw [mm_un (by decide)]; exact z5, rfv_f (by decide) z6, fun j j0 j1 => ?_, by omega, z9⟩
                    rw [mm_uu (by decide), mm_uu (by decide)]
                    exact z7 j j0 (by omega)
                  have := push st2 _ (sp_cmb (op - 1) y.1 y.2 x.1 x.2) t c0 (by omega) (fun z hz => hst1 z (List.mem_cons_of_mem _ hz)) hcb hSb (rF_o hFa (by rw [rres_o (by decide), mm_uu (by decide)]) (by rw [rres_o (by decide), mm_uu (by decide)]) (by rw [rres_o (by decide), mm_uu (by decide)]) (by rw [rres_o (by decide), mm_uu (by decide)]) (by rw [rres_o (by decide), mm_uu (by decide)])) (rO_c st2 hO2 fun j _ _ => by rw [rres_o (by decide), rres_o (by decide), mm_uu (by decide), mm_uu (by decide)]; exact eaop j) (by
                    unfold rres
                    exact rK_u (rK_u (rK_u hKa (by omega) (by omega)) (by omega) (by omega)) (by omega) (by omega))
                  exact ⟨fun x t' q K => hgo (this.1 x t' q K), fun q K => hgo (this.2 q K)⟩
end S5
