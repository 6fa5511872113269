/-! What is left to prove: the law, on the abstract machine, comes to its end with 1. -/
theorem am_law (L : Nat) (xs : Nat → Int32) (z : Value) (hL : L ≤ 2048) : am_C 300 0 [.ref 0] (am_g0 L xs z) (fun o _ => o = .inl (some (.int 1))) := by
  sorry
