/-! Calls of both sides: spread. -/
section SP
variable {d : Nat} {Q : am_Ou → am_G → Prop} {w : mm_Z} {μ μ' M : mm_M} {X : mm_X} {n : mm_N} {e m c v i l p k : Int} {R : List Int}
theorem J_176 (hJ : J M) : J (mm_u (mm_pl M 176 R) 129 0 k) := by
  refine J_mk [176] [0] (fun b b1 b2 b3 => ?_) (fun j hj => ?_) hJ (Or.inl (by decide)) (Or.inl (by decide)) (Or.inl (by decide)) (Or.inl (by decide)) (Or.inl (by decide)) (Or.inl (by decide)) (Or.inl (by decide)) (Or.inl (by decide)) (Or.inl (by decide)) (Or.inl (by decide)) (Or.inl (by decide)) (Or.inl (by decide))
  · simp only [List.mem_cons, List.not_mem_nil, or_false] at b3
    rw [mm_uu b2, pl_o b3]
  · simp only [List.mem_cons, List.not_mem_nil, or_false] at hj
    rw [mm_un hj, pl_o (by decide)]
theorem J_125 (hJ : J μ) (f : ∀ a, a ≠ 125 → a ≠ 126 → μ' a = μ a) : J μ' := by
  refine J_mk [125, 126] [] (fun b b1 b2 b3 => ?_) (fun j hj => by rw [f 129 (by decide) (by decide)]) hJ (Or.inl (by decide)) (Or.inl (by decide)) (Or.inl (by decide)) (Or.inl (by decide)) (Or.inl (by decide)) (Or.inl (by decide)) (Or.inl (by decide)) (Or.inl (by decide)) (Or.inl (by decide)) (Or.inl (by decide)) (Or.inl (by decide)) (Or.inl (by decide))
  simp only [List.mem_cons, List.not_mem_nil, or_false, not_or] at b3
  exact f b b3.1 b3.2
/-- the reference's call where its rows are those of the relation -/
theorem c_229E (hq : mm_P w) (hJ : J μ) (hE : ∀ a, 129 ≤ a → a < 178 → M a = μ a) (l1 : -2147483648 ≤ l) (l2 : l ≤ 2147483647) (p1 : -2147483648 ≤ p) (p2 : p ≤ 2147483647) (hR : R = rsps μ (rhere μ))
    (q1 : ¬ ((0 ≤ l ∧ l < μ 95 1) ∧ 0 ≤ rhere μ) → Q (.inl (some (.int (Int32.ofInt (0))))) (mm_hp w (mm_u M 129 0 1) X n))
    (q2 : ((0 ≤ l ∧ l < μ 95 1) ∧ 0 ≤ rhere μ) → ¬ (-2000000000 ≤ p ∧ p ≤ 2000000000) → Q (.inl (some (.int (Int32.ofInt (0))))) (mm_hp w (mm_u (mm_pl M 176 R) 129 0 2) X n))
    (q3 : ((0 ≤ l ∧ l < μ 95 1) ∧ 0 ≤ rhere μ) → (-2000000000 ≤ p ∧ p ≤ 2000000000) → ¬ rok μ l R → Q (.inl (some (.int (Int32.ofInt (0))))) (mm_hp w (mm_u (mm_pl M 176 R) 129 0 3) X n))
    (q4 : ((0 ≤ l ∧ l < μ 95 1) ∧ 0 ≤ rhere μ) → (-2000000000 ≤ p ∧ p ≤ 2000000000) → rok μ l R → am_E (d + 5) 229 Q (176, [some (.ref 129), some (.int (Int32.ofInt (l))), some (.int (Int32.ofInt (p))), some (.int (Int32.ofInt (rhere μ))), some (.int (Int32.ofInt (1))), some (.int (Int32.ofInt ((R.length : Int)))), some (.long (Int64.ofInt (tot (fun j => rwt μ l (R.getD j.toNat 0)) R.length 0))), none, some (.int (Int32.ofInt (1))), some (.long (Int64.ofInt 0)), none, some (.long (Int64.ofInt 0)), none, some (.int (Int32.ofInt (0))), none, none], [], mm_hp w (rnewE (mm_u (mm_pl M 176 R) 129 0 0) l) X n)) : am_C (d + 6) 229 [.ref 129, .int (Int32.ofInt (l)), .int (Int32.ofInt (p))] (mm_hp w M X n) Q := by
  have e9 := hE 129 (by decide) (by decide)
  have hr : rhere M = rhere μ := rhere_c (hE 130 (by decide) (by decide)) (hE 136 (by decide) (by decide))
  have hs : R = rsps M (rhere M) := by rw [hr, rsps_c (fun a a0 a1 => hE a (by omega) (by omega))]; exact hR
  have hok : rok M l R ↔ rok μ l R := rok_c (fun a a0 a1 => hE a (by omega) (by omega)) (fun j _ => by rw [e9])
  have hjn := J_jn hJ
  have hw : ∀ c, rwt M l c = rwt μ l c := fun c => rwt_c (hE 137 (by decide) (by decide)) (hE 138 (by decide) (by decide))
  have g1 : rt_a M := fun e e0 e1 m m0 m1 => by rw [hE 130 (by decide) (by decide), hE 131 (by decide) (by decide)]; exact J_rt hJ e e0 e1 m m0 m1
  have g2 : rl_r M := by unfold rl_r; rw [hE 133 (by decide) (by decide), hE 134 (by decide) (by decide)]; exact J_rl hJ
  have g3 : rr_r M := by unfold rr_r; rw [e9, hE 139 (by decide) (by decide), hE 140 (by decide) (by decide)]; exact J_rr hJ
  have g4 : rc_r M := by unfold rc_r; rw [hE 136 (by decide) (by decide)]; exact J_rc hJ
  have g5 : rg_r M := by unfold rg_r; rw [e9, hE 137 (by decide) (by decide), hE 138 (by decide) (by decide)]; exact J_rg hJ
  have g6 : rh_r M := by unfold rh_r; rw [e9, hE 157 (by decide) (by decide), hE 158 (by decide) (by decide), hE 159 (by decide) (by decide), hE 160 (by decide) (by decide), hE 162 (by decide) (by decide)]; exact (J_jh hJ).2.1
  refine c_229 (d := d) (R := R) hq g1 g2 g3 g4 g5 (fun j j0 j1 => by rw [hE 138 (by decide) (by decide)]; exact (hJ.2.2.1.2.1 j j0 j1).2) (by rw [hE 132 (by decide) (by decide)]; exact hJ.2.2.2.2.2.2.2.2.2.2.1) (by rw [e9, hjn.2.1]; exact hjn.2.2.1) g6 hs (by rw [hR]; exact rsps_b hJ _) l1 l2 p1 p2 ?_ ?_ ?_ ?_
  · rw [e9, hr, hjn.1]; exact q1
  · rw [e9, hr, hjn.1]; exact q2
  · rw [e9, hr, hjn.1, hok]; exact q3
  · rw [e9, hr, hjn.1, hok]
    simp only [hw]
    exact q4
end SP
