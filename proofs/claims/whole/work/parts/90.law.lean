/-! The law, on the abstract machine, comes to its end with 1. -/
theorem am_law (L : Nat) (xs : Nat → Int32) (z : Value) (hz : z.category = 1) (hL : L ≤ 2048) : am_C 300 0 [.ref 0] (am_g0 L xs z) (fun o _ => o = .inl (some (.int 1))) := by
  show am_C 300 0 [.ref 0] (am_g0 L xs z) LQ
  rw [am_C_in (d := 299) (by simp [am_arg, m_0, Value.category]), show am_loc 0 [.ref 0] = [some (.ref 0), none, none, none, none, none, none, none] from by simp [am_loc, am_arg, m_0, Value.category, List.replicate], q_g0, qstart]
  refine q_lp qP_P qM_B qM_V fun N h => ?_
  exact q_law hz hL h
