/-! The law's start: both objects, the two rows for answers, then the loop. -/
section LS
variable {L : Nat} {xs : Nat → Int32} {z : Value} {μ N : mm_M} {X : mm_X}
theorem q_g0 : am_g0 L xs z = qH0 L xs z := by
  refine Prod.ext (funext fun b => ?_) rfl
  show am_g0m L xs z b = (if b < 32 then am_g0m L xs z b else if false = true then mm_c qM0 b else none)
  by_cases h : b < 32
  · rw [if_pos h]
  · rw [if_neg h, if_neg (by decide)]
    unfold am_g0m
    have h1 : b ∉ am_old1 := fun q => by
      have := (by decide : ∀ x ∈ am_old1, x < 32) b q
      omega
    rw [if_neg (by omega), if_neg (by omega), if_neg h1]
def qPl : Nat → Bool := fun b => qP b || [178, 179].contains b
theorem qPl_o {b : Nat} (h : 180 ≤ b) : qPl b = false := by
  show (qP b || [178, 179].contains b) = false
  rw [qPz (by omega)]
  show List.contains _ b = false
  simp
  omega
theorem qPl_i : ∀ b, b < 180 → 32 ≤ b → qPl b = true := by
  intro b h1 h2
  show (qP b || [178, 179].contains b) = true
  by_cases h : b < 178
  · rw [show qP b = true from qP_all b h h2]
    rfl
  · rcases (by omega : b = 178 ∨ b = 179) with rfl | rfl
    · rw [show [178, 179].contains 178 = true from rfl]
      simp
    · rw [show [178, 179].contains 179 = true from rfl]
      simp
theorem q_law (hz : z.category = 1) (hL : L ≤ 2048) (h : qV qM N 3) : am_E 299 0 LQ (15, [some (.ref 0), some (.ref 32), none, none, none, none, none, none], [.ref 129], mm_hp (L, xs, z, qP) N qXe (178, 600878, 7270077)) := by
  have hJ := q_J h
  have r8 : ∀ b, 135 < b → b ≠ 0 → ∀ j, N b j = qI b j := fun b hb _ j => by rw [h.1 b (Or.inr hb), qMe ⟨by omega, by omega⟩]
  obtain ⟨X1, hX1⟩ : ∃ X1 : mm_X, X1 = fun b => if b = 178 then some (.inl (.long, 1, .inr (.inl fun _ => 0))) else qXe b := ⟨_, rfl⟩
  obtain ⟨X2, hX2⟩ : ∃ X2 : mm_X, X2 = fun b => if b = 179 then some (.inl (.double, 1, .inr (.inr (.inr (.inl fun _ => 0))))) else X1 b := ⟨_, rfl⟩
  have s1 : am_psh (mm_hp (L, xs, z, qP) N qXe (178, 600878, 7270077)) (.inl (.long, 1, .inr (.inl fun _ => 0))) 1 = mm_hp (L, xs, z, qP) N X1 (179, 600877, 7270076) := qpsh (n := (178, 600878, 7270077)) (by decide) (qPz (b := 178) (by decide)) hX1 rfl
  have s2 : am_psh (mm_hp (L, xs, z, qP) N X1 (179, 600877, 7270076)) (.inl (.double, 1, .inr (.inr (.inr (.inl fun _ => 0))))) 1 = mm_hp (L, xs, z, qP) N X2 (180, 600876, 7270075) := qpsh (n := (179, 600877, 7270076)) (by decide) (qPz (b := 179) (by decide)) hX2 rfl
  have s3 : mm_hp (L, xs, z, qP) N X2 (180, 600876, 7270075) = mm_hp (L, xs, z, qPl) N X2 (180, 600876, 7270075) := qflipl [178, 179] rfl (by
    intro b hb _
    simp only [List.mem_cons, List.not_mem_nil, or_false] at hb
    rcases hb with rfl | rfl
    · rw [hX2, hX1, mm_c_5 (N := 1) rfl]
      show some (Sum.inl (FieldType.long, 1, Sum.inr (Sum.inl fun _ => (0 : Int64)))) = some (Sum.inl (FieldType.long, 1, Sum.inr (Sum.inl fun j : Nat => Int64.ofInt (N 178 j))))
      refine congrArg (fun f => some (Sum.inl (FieldType.long, 1, Sum.inr (Sum.inl f)))) (funext fun j => ?_)
      rw [r8 178 (by decide) (by decide)]
      rfl
    · rw [hX2, mm_c_6 (N := 1) rfl]
      show some (Sum.inl (FieldType.double, 1, Sum.inr (Sum.inr (Sum.inr (Sum.inl fun _ => (0 : UInt64)))))) = some (Sum.inl (FieldType.double, 1, Sum.inr (Sum.inr (Sum.inr (Sum.inl fun j : Nat => UInt64.ofNat (N 179 j).toNat)))))
      refine congrArg (fun f => some (Sum.inl (FieldType.double, 1, Sum.inr (Sum.inr (Sum.inr (Sum.inl f)))))) (funext fun j => ?_)
      rw [r8 179 (by decide) (by decide)]
      rfl)
  have i1 : ∀ {Lc : am_Lo} {st : List Value}, am_S 0 (.newarray .long) 17 Lc (.int (Int32.ofInt 1) :: st) (mm_hp (L, xs, z, qP) N qXe (178, 600878, 7270077)) = am_go 19 Lc (.ref 178 :: st) (mm_hp (L, xs, z, qP) N X1 (179, 600877, 7270076)) := qnwa (by decide) (by decide) (by decide) rfl (show 1 ≤ 600878 by decide) (show 1 ≤ 7270077 by decide) rfl s1 rfl
  have i2 : ∀ {Lc : am_Lo} {st : List Value}, am_S 0 (.newarray .double) 21 Lc (.int (Int32.ofInt 1) :: st) (mm_hp (L, xs, z, qP) N X1 (179, 600877, 7270076)) = am_go 23 Lc (.ref 179 :: st) (mm_hp (L, xs, z, qP) N X2 (180, 600876, 7270075)) := qnwa (by decide) (by decide) (by decide) rfl (show 1 ≤ 600877 by decide) (show 1 ≤ 7270076 by decide) rfl s2 rfl
  rw [x_0_15, sc_A_2 (by rfl), x_0_16, show ((1 : Int32)) = Int32.ofInt (1) from by decide, x_0_17, i1, am_K_go, x_0_19, sc_A_3 (by rfl), x_0_20, show ((1 : Int32)) = Int32.ofInt (1) from by decide, x_0_21, i2, am_K_go, s3, x_0_23, sc_A_4 (by rfl), x_0_25, show ((0 : Int32)) = Int32.ofInt (0) from by decide, x_0_26, sc_I_5 (by rfl)]
  refine lw_loop (w := (L, xs, z, qPl)) (fun b h1 h2 => qPl_i b h2 h1) hz hL (L / 4) 0 none none N X2 (180, 600876, 7270075) (fun b hb => qPl_o hb) hJ (by decide) ?_ ?_ rfl rfl (by decide) ?_ ?_
  · show 2 * (L / 4) ≤ 600876
    omega
  · show 20 * (L / 4) ≤ 7270075
    omega
  · show (0 : Int) ≤ (L : Int)
    omega
  · show (L : Int) - 0 < 4 * (((L / 4 : Nat) : Int) + 1)
    omega
theorem qP_P : mm_P (L, xs, z, qP) := fun b h1 h2 => qP_all b h2 h1
end LS
