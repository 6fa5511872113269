/-! What the descent puts out makes sense: whole formulas. Pure. -/
section RW
variable {T : Nat → Int} {N p : Nat} {C C' : rd_C} {S S' : rd_S} {c o e k m m' : Int} {E : Option rd_E} {h h' : Nat → Int}
theorem rd_pa_lt {i v : Int} {j : Nat} (g : (j : Int) ≠ i) : (rd_pa C i v).2 j = C.2 j := if_neg g
theorem rd_pb_lt {i v : Int} {j : Nat} (g : (j : Int) ≠ i) : (rd_pb C i v).2 j = C.2 j := if_neg g
theorem rd_pa_at {v : Int} {j : Nat} : (rd_pa C j v).2 j = ((C.2 j).1, v, (C.2 j).2.2) := if_pos rfl
theorem rd_pb_at {v : Int} {j : Nat} : (rd_pb C j v).2 j = ((C.2 j).1, (C.2 j).2.1, v) := if_pos rfl
theorem rd_wf_e {E' : rd_E} {s : rd_P} {p : Nat} (hE : rd_wf N m E') (hEN : ∀ p C S, p ≤ N → (E' p C S).1 = true → (E' p C S).2.1 ≤ N) (hs : rd_wf1 m' p C S s) (hm : m ≤ m') (hm0 : 1 ≤ m) (hsN : s.2.1 < N) (hy : (E' (s.2.1 + 1) (rd_emit s.2.2.1 6 0 0) s.2.2.2).1 = true) (hyN : (E' (s.2.1 + 1) (rd_emit s.2.2.1 6 0 0) s.2.2.2).2.1 < N)
    (hz : (rd_els E' s.2.2.1.1 (E' (s.2.1 + 1) (rd_emit s.2.2.1 6 0 0) s.2.2.2)).1 = true) : rd_wf1 m' p C S (rd_els E' s.2.2.1.1 (E' (s.2.1 + 1) (rd_emit s.2.2.1 6 0 0) s.2.2.2)) := by
  have gy := hE (s.2.1 + 1) (rd_emit s.2.2.1 6 0 0) s.2.2.2 (by omega) hy
  revert hy hyN hz gy
  generalize E' (s.2.1 + 1) (rd_emit s.2.2.1 6 0 0) s.2.2.2 = y
  intro hy hyN hz gy
  unfold rd_els at hz ⊢
  have gz := hE (y.2.1 + 1) (rd_pa (rd_emit y.2.2.1 7 0 0) s.2.2.1.1 (y.2.2.1.1 + 1)) y.2.2.2 (by omega) hz
  revert hz gz
  generalize E' (y.2.1 + 1) (rd_pa (rd_emit y.2.2.1 7 0 0) s.2.2.1.1 (y.2.2.1.1 + 1)) y.2.2.2 = z
  intro hz gz
  obtain ⟨sb, sp, ⟨u, sf⟩, sS⟩ := s
  obtain ⟨yb, yp, ⟨t, yf⟩, yS⟩ := y
  obtain ⟨zb, zp, ⟨n, zf⟩, zS⟩ := z
  obtain ⟨s1, s2, s3, s4, s5, s6, s7⟩ := hs
  obtain ⟨y1, y2, y3, y4, y5, y6, y7⟩ := gy
  obtain ⟨z1, z2, z3, z4, z5, z6, z7⟩ := gz
  dsimp only at s1 s2 s3 s4 s5 s6 s7 y1 y2 y3 y4 y5 y6 y7 z1 z2 z3 z4 z5 z6 z7 ⊢
  have y2 : u + 1 < t := y2
  have z2 : t + 1 < n := z2
  -- the entries
  have yl : ∀ i, i < u → yf i = sf i := fun i hi => by rw [y3 i (show i < u + 1 by omega)]; exact rd_emit_lt hi
  have yu : yf u = (6, 0, 0) := by rw [y3 u (Nat.lt_succ_self _)]; exact rd_emit_at (C := (u, sf))
  have c3l : ∀ i, i < t → i ≠ u → (rd_pa (rd_emit (t, yf) 7 0 0) (u : Int) ((t : Int) + 1)).2 i = yf i := fun i hi hu => by
    rw [rd_pa_lt (by omega)]; exact rd_emit_lt hi
  have c3u : (rd_pa (rd_emit (t, yf) 7 0 0) (u : Int) ((t : Int) + 1)).2 u = (6, (t : Int) + 1, 0) := by
    rw [rd_pa_at, rd_emit_lt (show u < t by omega)]
    show ((yf u).1, (t : Int) + 1, (yf u).2.2) = _
    rw [yu]
  have c3t : (rd_pa (rd_emit (t, yf) 7 0 0) (u : Int) ((t : Int) + 1)).2 t = (7, 0, 0) := by
    rw [rd_pa_lt (by omega)]; exact rd_emit_at (C := (t, yf))
  have zl : ∀ i, i < t → i ≠ u → zf i = yf i := fun i hi hu => by rw [z3 i (show i < t + 1 by omega), c3l i hi hu]
  have zu : zf u = (6, (t : Int) + 1, 0) := by rw [z3 u (show u < t + 1 by omega), c3u]
  have zt : zf t = (7, 0, 0) := by rw [z3 t (show t < t + 1 by omega), c3t]
  have fl : ∀ i, i ≠ u → i ≠ t → (rd_pb (rd_pa (n, zf) (t : Int) (n : Int)) (u : Int) (n : Int)).2 i = zf i := fun i h1 h2 => by rw [rd_pb_lt (by omega), rd_pa_lt (by omega)]
  have fu : (rd_pb (rd_pa (n, zf) (t : Int) (n : Int)) (u : Int) (n : Int)).2 u = (6, (t : Int) + 1, (n : Int)) := by
    rw [rd_pb_at, rd_pa_lt (show (u : Int) ≠ t by omega)]
    show ((zf u).1, (zf u).2.1, (n : Int)) = _
    rw [zu]
  have ft : (rd_pb (rd_pa (n, zf) (t : Int) (n : Int)) (u : Int) (n : Int)).2 t = (7, (n : Int), 0) := by
    rw [rd_pb_lt (show (t : Int) ≠ u by omega), rd_pa_at]
    show ((zf t).1, (n : Int), (zf t).2.2) = _
    rw [zt]
  -- lengths
  have p1 : rd_ph (rd_pb (rd_pa (n, zf) (t : Int) (n : Int)) (u : Int) (n : Int)) n = rd_ph (n, zf) n := rd_ph_c _ fun i _ => by
    by_cases h1 : i = u
    · subst h1
      rw [fu]
      show (6 : Int) = (zf i).1 ∧ ((6 : Int) = 1 → (n : Int) = (zf i).2.2)
      rw [zu]; exact ⟨rfl, fun q => absurd q (by decide)⟩
    · by_cases h2 : i = t
      · subst h2
        rw [ft]
        show (7 : Int) = (zf i).1 ∧ ((7 : Int) = 1 → (0 : Int) = (zf i).2.2)
        rw [zt]; exact ⟨rfl, fun q => absurd q (by decide)⟩
      · rw [fl i h1 h2]; exact ⟨rfl, fun _ => rfl⟩
  have p2 : rd_ph (rd_pa (rd_emit (t, yf) 7 0 0) (u : Int) ((t : Int) + 1)) (t + 1) = rd_ph (t, yf) t + 1 := by
    have : rd_ph (rd_emit (t, yf) 7 0 0) (t + 1) = rd_ph (t, yf) t + 1 + (if (7 : Int) = 1 then 0 else 0) := rd_ph_e (C := (t, yf))
    rw [if_neg (by decide)] at this
    have e2 : rd_ph (rd_pa (rd_emit (t, yf) 7 0 0) (u : Int) ((t : Int) + 1)) (t + 1) = rd_ph (rd_emit (t, yf) 7 0 0) (t + 1) := rd_ph_c _ fun i hi => by
      by_cases h1 : i = u
      · subst h1
        rw [c3u, rd_emit_lt (show i < t by omega)]
        show (6 : Int) = (yf i).1 ∧ ((6 : Int) = 1 → (0 : Int) = (yf i).2.2)
        rw [yu]; exact ⟨rfl, fun _ => rfl⟩
      · rw [rd_pa_lt (by omega)]; exact ⟨rfl, fun _ => rfl⟩
    rw [e2, this]
    omega
  have p3 : rd_ph (rd_emit (u, sf) 6 0 0) (u + 1) = rd_ph (u, sf) u + 1 := by
    have : rd_ph (rd_emit (u, sf) 6 0 0) (u + 1) = rd_ph (u, sf) u + 1 + (if (6 : Int) = 1 then 0 else 0) := rd_ph_e (C := (u, sf))
    rw [if_neg (by decide)] at this
    omega
  refine ⟨show p ≤ zp by omega, show C.1 < n by omega, fun i hi => ?_, rd_Sx_t s4 (rd_Sx_t y4 z4), ⟨?_, ?_⟩, fun j j0 j1 => ?_, fun k hk => ?_⟩
  · show (rd_pb (rd_pa (n, zf) (t : Int) (n : Int)) (u : Int) (n : Int)).2 i = C.2 i
    rw [fl i (by omega) (by omega), zl i (by omega) (by omega), yl i (by omega), s3 i hi]
  · show rd_ph (rd_pb (rd_pa (n, zf) (t : Int) (n : Int)) (u : Int) (n : Int)) n + p ≤ rd_ph C C.1 + zp
    rw [p1]
    have h1 := z5.1
    have h2 := y5.1
    have h3 := s5.1
    rw [show (rd_pa (rd_emit (t, yf) 7 0 0) (u : Int) ((t : Int) + 1)).1 = t + 1 from rfl, p2] at h1
    rw [show (rd_emit (u, sf) 6 0 0).1 = u + 1 from rfl, p3] at h2
    omega
  · have h1 := z5.2
    have h2 := y5.2
    have h3 := s5.2
    show (zS.1 : Int) + p ≤ S.1 + zp
    omega
  · show ∃ i, C.1 ≤ i ∧ i < n ∧ ((rd_pb (rd_pa (n, zf) (t : Int) (n : Int)) (u : Int) (n : Int)).2 i).1 = 1 ∧ ((rd_pb (rd_pa (n, zf) (t : Int) (n : Int)) (u : Int) (n : Int)).2 i).2.1 ≤ j ∧ (j : Int) < ((rd_pb (rd_pa (n, zf) (t : Int) (n : Int)) (u : Int) (n : Int)).2 i).2.1 + ((rd_pb (rd_pa (n, zf) (t : Int) (n : Int)) (u : Int) (n : Int)).2 i).2.2
    by_cases q1 : j < sS.1
    · obtain ⟨i, a1, a2, a3⟩ := s6 j j0 q1
      refine ⟨i, a1, by omega, ?_⟩
      rw [fl i (by omega) (by omega), zl i (by omega) (by omega), yl i a2]
      exact a3
    · by_cases q2 : j < yS.1
      · obtain ⟨i, a1, a2, a3⟩ := y6 j (by omega) q2
        have a1 : u + 1 ≤ i := a1
        refine ⟨i, by omega, by omega, ?_⟩
        rw [fl i (by omega) (by omega), zl i (by omega) (by omega)]
        exact a3
      · obtain ⟨i, a1, a2, a3⟩ := z6 j (by omega) j1
        have a1 : t + 1 ≤ i := a1
        refine ⟨i, by omega, a2, ?_⟩
        rw [fl i (by omega) (by omega)]
        exact a3
  · obtain ⟨h1, a1, a2, a3, a4⟩ := s7 k hk
    obtain ⟨h2, b1, b2, b3, b4⟩ := y7 k hk
    obtain ⟨h3, c1, c2, c3, c4⟩ := z7 k hk
    have b1 : h2 (u + 1) = k := b1
    have c1 : h3 (t + 1) = k := c1
    have H1 : ∀ i, C.1 ≤ i → i ≤ u → (if i ≤ u then h1 i else if i ≤ t then h2 i else h3 i) = h1 i := fun i _ q => if_pos q
    have H2 : ∀ i, u + 1 ≤ i → i ≤ t → (if i ≤ u then h1 i else if i ≤ t then h2 i else h3 i) = h2 i := fun i q1 q2 => by rw [if_neg (by omega), if_pos q2]
    have H3 : ∀ i, t + 1 ≤ i → i ≤ n → (if i ≤ u then h1 i else if i ≤ t then h2 i else h3 i) = h3 i := fun i q1 q2 => by rw [if_neg (by omega), if_neg (by omega)]
    refine ⟨fun i => if i ≤ u then h1 i else if i ≤ t then h2 i else h3 i, ?_, ?_, fun i i0 i1 => ?_, fun i i0 i1 => ?_⟩
    · dsimp only; rw [H1 C.1 (Nat.le_refl _) (by omega)]; exact a1
    · show (if n ≤ u then h1 n else if n ≤ t then h2 n else h3 n) = k + 1
      rw [H3 n (by omega) (Nat.le_refl _)]; exact c2
    · have i1 : i ≤ n := i1
      dsimp only
      by_cases q1 : i ≤ u
      · rw [H1 i i0 q1]; exact a3 i i0 q1
      · by_cases q2 : i ≤ t
        · rw [H2 i (by omega) q2]
          have := b3 i (show u + 1 ≤ i by omega) q2
          omega
        · rw [H3 i (by omega) i1]
          have := c3 i (show t + 1 ≤ i by omega) i1
          omega
    · have i1 : i < n := i1
      show rd_ok1 (rd_pb (rd_pa (n, zf) (t : Int) (n : Int)) (u : Int) (n : Int)) zS (fun i => if i ≤ u then h1 i else if i ≤ t then h2 i else h3 i) n i
      by_cases q1 : i < u
      · exact rd_seg_x (n := n) a4 (rd_Sx_t y4 z4) (fun i q1 q2 => by rw [fl i (by omega) (by omega), zl i (by omega) (by omega), yl i q2]) H1 (by omega) i i0 q1
      · by_cases q2 : i = u
        · subst q2
          refine Or.inr (Or.inr (Or.inr (Or.inl ?_)))
          rw [fu]
          dsimp only
          rw [H1 i (by omega) (Nat.le_refl _), H2 (i + 1) (Nat.le_refl _) (by omega), show ((t : Int) + 1).toNat = t + 1 by omega, show (n : Int).toNat = n by omega, H3 (t + 1) (Nat.le_refl _) (by omega), H3 n (by omega) (Nat.le_refl _), show t + 1 - 1 = t by omega, ft]
          exact ⟨rfl, by omega, by omega, ⟨by omega, by omega⟩, ⟨by omega, by omega⟩, by omega, by omega, rfl⟩
        · by_cases q3 : i < t
          · exact rd_seg_x (n := n) b4 z4 (fun i q1 q2 => by have q1 : u + 1 ≤ i := q1; rw [fl i (by omega) (by omega), zl i (by omega) (by omega)]) H2 (by omega) i (show u + 1 ≤ i by omega) q3
          · by_cases q4 : i = t
            · subst q4
              refine Or.inr (Or.inr (Or.inr (Or.inr ?_)))
              rw [ft]
              dsimp only
              rw [H2 i (by omega) (Nat.le_refl _), show (n : Int).toNat = n by omega, H3 n (by omega) (Nat.le_refl _)]
              exact ⟨rfl, ⟨by omega, by omega⟩, by omega⟩
            · exact rd_seg_x (n := n) c4 rd_Sx_r (fun i q1 q2 => by have q1 : t + 1 ≤ i := q1; rw [fl i (by omega) (by omega)]) H3 (Nat.le_refl _) i (show t + 1 ≤ i by omega) i1
/-- every reading, k deeper ones below -/
def rd_nE (N : Nat) (A : rd_E) : Prop := ∀ p C S, p ≤ N → (A p C S).1 = true → (A p C S).2.1 ≤ N
theorem rd_ref_le : ∀ (k p : Nat) (S : rd_S), p < N → (rd_ref T N k p S).2.1 ≤ N := by
  intro k
  induction k with
  | zero => intro p S h; exact Nat.le_of_lt h
  | succ k ih =>
    intro p S h
    unfold rd_ref
    by_cases a : rd_way (rd_ch T N (p + 1)) < 0
    · rw [rd_if1 a]; show p + 1 ≤ N; omega
    · have hp : p + 1 < N := by
        by_cases hp : p + 1 < N
        · exact hp
        · rw [rd_ch0 (by omega)] at a; exact absurd (by decide) a
      rw [rd_if0 a]
      by_cases g : rd_way (rd_ch T N (p + 1)) ≠ 9 ∧ rd_lt (rd_ch T N (p + 2))
      · rw [rd_if1 g]
        have hp2 : p + 2 < N := by
          by_cases hp : p + 2 < N
          · exact hp
          · have g2 := g.2
            rw [rd_ch0 (by omega)] at g2; unfold rd_lt at g2; omega
        exact ih _ _ hp2
      · rw [rd_if0 g]; show p + 2 ≤ N; omega
theorem rd_nE_u (hE : ∀ E', E = some E' → rd_nE N E') : rd_nE N (rd_unt T N E) := by
  intro p C S hp
  have hlt : ∀ c, rd_ch T N p = c → c ≠ 32 → p < N := fun c h1 h2 => by
    by_cases g : p < N
    · exact g
    · rw [rd_ch0 (by omega)] at h1; exact absurd h1.symm h2
  unfold rd_unt
  by_cases a : rd_dg (rd_ch T N p)
  · rw [rd_if1 a]; exact fun _ => (rd_num_le 5 0 p hp).2
  · rw [rd_if0 a]
    by_cases b : rd_ch T N p = 40
    · rw [rd_if1 b]
      have hpN := hlt _ b (by decide)
      unfold rd_brk
      cases E with
      | none => exact fun z => Bool.noConfusion z
      | some E' =>
        show ((rd_if ((E' (p + 1) C S).1 = true ∧ rd_ch T N (E' (p + 1) C S).2.1 = 41) (true, (E' (p + 1) C S).2.1 + 1, (E' (p + 1) C S).2.2) (false, (E' (p + 1) C S).2) : rd_P).1 = true) → (rd_if ((E' (p + 1) C S).1 = true ∧ rd_ch T N (E' (p + 1) C S).2.1 = 41) (true, (E' (p + 1) C S).2.1 + 1, (E' (p + 1) C S).2.2) (false, (E' (p + 1) C S).2) : rd_P).2.1 ≤ N
        by_cases d : (E' (p + 1) C S).1 = true ∧ rd_ch T N (E' (p + 1) C S).2.1 = 41
        · rw [rd_if1 d]
          intro _
          by_cases g : (E' (p + 1) C S).2.1 < N
          · exact g
          · have d2 := d.2
            rw [rd_ch0 (by omega)] at d2; exact absurd d2 (by decide)
        · rw [rd_if0 d]; exact fun z => Bool.noConfusion z
    · rw [rd_if0 b]
      by_cases g : rd_lt (rd_ch T N p)
      · rw [rd_if1 g]
        intro _
        exact rd_ref_le 24 p S (hlt _ rfl (by unfold rd_lt at g; omega))
      · rw [rd_if0 g]; exact fun z => Bool.noConfusion z
theorem rd_nE_l {sg : Int → Prop} {U : rd_E} (hU : rd_nE N U) (h32 : ¬ sg 32) : ∀ (k : Nat) (y : rd_P), (y.1 = true → y.2.1 ≤ N) → (rd_loop T N sg U k y).1 = true → (rd_loop T N sg U k y).2.1 ≤ N := by
  intro k
  induction k with
  | zero => intro y hy hz; exact hy hz
  | succ k ih =>
    intro y hy
    unfold rd_loop
    by_cases a : y.1 = true ∧ sg (rd_ch T N y.2.1)
    · rw [rd_if1 a]
      have hyN : y.2.1 < N := by
        by_cases hp : y.2.1 < N
        · exact hp
        · have g2 := a.2
          rw [rd_ch0 (by omega)] at g2; exact absurd g2 h32
      exact ih _ (fun hb => hU _ _ _ (by omega) hb)
    · rw [rd_if0 a]; exact hy
theorem rd_po32 : ¬ rd_po 32 := by unfold rd_po; decide
theorem rd_so32 : ¬ rd_so 32 := by unfold rd_so; decide
theorem rd_nE_p (hE : ∀ E', E = some E' → rd_nE N E') : rd_nE N (rd_prd T N E) := fun p C S hp => rd_nE_l (rd_nE_u hE) rd_po32 24 _ (rd_nE_u hE p C S hp)
theorem rd_nE_s (hE : ∀ E', E = some E' → rd_nE N E') : rd_nE N (rd_sum T N E) := fun p C S hp => rd_nE_l (rd_nE_p hE) rd_so32 24 _ (rd_nE_p hE p C S hp)
theorem rd_wf_p (hE : ∀ E', E = some E' → rd_wf N m E') (hG : ∀ E', E = some E' → rd_nE N E') (hN : N ≤ 24) (hm : 1 ≤ m) : rd_wf N (m + 1) (rd_prd T N E) := by
  have hu := rd_wf_u (T := T) (m := m) (fun E' h => by rw [show m - 0 = m by omega]; exact hE E' h) hG hN hm
  intro p C S hp hz
  exact (rd_wf_l hu (rd_nE_u hG) rd_po32 (Int.le_refl _) hm 24 _ (fun hy => ⟨rd_wf_m (hu p C S hp hy) (by omega), rd_nE_u hG p C S hp hy⟩) hz).1
theorem rd_wf_s (hE : ∀ E', E = some E' → rd_wf N m E') (hG : ∀ E', E = some E' → rd_nE N E') (hN : N ≤ 24) (hm : 1 ≤ m) : rd_wf N (m + 2) (rd_sum T N E) := by
  have hu := rd_wf_p (T := T) hE hG hN hm
  intro p C S hp hz
  exact (rd_wf_l hu (rd_nE_p hG) rd_so32 (by omega) (by omega) 24 _ (fun hy => ⟨rd_wf_m (hu p C S hp hy) (by omega), rd_nE_p hG p C S hp hy⟩) hz).1
theorem rd_wf_f (hE : ∀ E', E = some E' → rd_wf N m E') (hG : ∀ E', E = some E' → rd_nE N E') (hN : N ≤ 24) (hm : 1 ≤ m) : rd_wf N (m + 2) (rd_for T N E) ∧ rd_nE N (rd_for T N E) := by
  have key : ∀ p C S, p ≤ N → (rd_for T N E p C S).1 = true → rd_wf1 (m + 2) p C S (rd_for T N E p C S) ∧ (rd_for T N E p C S).2.1 ≤ N := by
    intro p C S hp
    unfold rd_for
    have hs := rd_wf_s (T := T) hE hG hN hm p C S hp
    have hn := rd_nE_s (T := T) hG p C S hp
    revert hs hn
    generalize rd_sum T N E p C S = s
    intro hs hn
    by_cases a : s.1 = true ∧ rd_ch T N s.2.1 = 63
    · rw [rd_if1 a]
      have hsN : s.2.1 < N := by
        by_cases g : s.2.1 < N
        · exact g
        · have a2 := a.2
          rw [rd_ch0 (by omega)] at a2; exact absurd a2 (by decide)
      cases E with
      | none => exact fun z => Bool.noConfusion z
      | some E' =>
        have e1 : rd_cnd T N (some E') s = rd_if ((E' (s.2.1 + 1) (rd_emit s.2.2.1 6 0 0) s.2.2.2).1 = true ∧ rd_ch T N (E' (s.2.1 + 1) (rd_emit s.2.2.1 6 0 0) s.2.2.2).2.1 = 58) (rd_els E' s.2.2.1.1 (E' (s.2.1 + 1) (rd_emit s.2.2.1 6 0 0) s.2.2.2)) (false, (E' (s.2.1 + 1) (rd_emit s.2.2.1 6 0 0) s.2.2.2).2) := rfl
        rw [e1]
        by_cases b : (E' (s.2.1 + 1) (rd_emit s.2.2.1 6 0 0) s.2.2.2).1 = true ∧ rd_ch T N (E' (s.2.1 + 1) (rd_emit s.2.2.1 6 0 0) s.2.2.2).2.1 = 58
        · rw [rd_if1 b]
          intro hz
          have hyN : (E' (s.2.1 + 1) (rd_emit s.2.2.1 6 0 0) s.2.2.2).2.1 < N := by
            by_cases g : (E' (s.2.1 + 1) (rd_emit s.2.2.1 6 0 0) s.2.2.2).2.1 < N
            · exact g
            · have b2 := b.2
              rw [rd_ch0 (by omega)] at b2; exact absurd b2 (by decide)
          refine ⟨rd_wf_e (m := m) (hE E' rfl) (hG E' rfl) (hs a.1) (by omega) hm hsN b.1 hyN hz, ?_⟩
          exact hG E' rfl _ _ _ (by omega) hz
        · rw [rd_if0 b]; exact fun z => Bool.noConfusion z
    · rw [rd_if0 a]; exact fun z => ⟨hs z, hn z⟩
  exact ⟨fun p C S hp hz => (key p C S hp hz).1, fun p C S hp hz => (key p C S hp hz).2⟩
theorem rd_wf_F (hN : N ≤ 24) : ∀ k : Nat, rd_wf N (2 * k + 3) (rd_F T N k) ∧ rd_nE N (rd_F T N k) := by
  intro k
  induction k with
  | zero => exact rd_wf_f (T := T) (E := none) (m := 1) (fun _ h => by cases h) (fun _ h => by cases h) hN (by decide)
  | succ k ih =>
    have := rd_wf_f (T := T) (E := some (rd_F T N k)) (m := 2 * k + 3) (fun _ h => by cases h; exact ih.1) (fun _ h => by cases h; exact ih.2) hN (by omega)
    rw [show (2 * (k : Int) + 3) + 2 = 2 * ((k + 1 : Nat) : Int) + 3 by omega] at this
    exact this
end RW
