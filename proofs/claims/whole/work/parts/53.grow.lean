/-! A tree of the class is arranged anew. -/
/-- a member comes in the walk -/
def tr_vis (z : Int) (p : Int → Int) (μ : mm_M) (m : Int) : mm_M := if sp_fc p m = -1 then mm_u (mm_u (mm_u (mm_u μ (mm_tr z + 3) m (fo_dp p 6 m)) (mm_tr z + 4) m (μ (mm_tr z) 5)) (mm_tr z + 5) (μ (mm_tr z) 5) m) (mm_tr z) 5 (μ (mm_tr z) 5 + 1) else mm_u μ (mm_tr z + 3) m (fo_dp p 6 m)
def fo_rk : Nat → List Int
  | 0 => []
  | k + 1 => (6 - ((k + 1 : Nat) : Int)) :: fo_rk k
section T2
variable {d : Nat} {Q : am_Ou → am_G → Prop} {w : mm_Z} {μ : mm_M} {X : mm_X} {n : mm_N} {z m : Int} {p : Int → Int}
theorem fo_rk6 : fo_rk 6 = fo_rg := by decide
theorem sp_fc_ch (h : sp_fc p m = -1) : fo_ch p m = [] := by
  unfold fo_ch
  rw [List.filter_eq_nil_iff]
  intro c hc
  rw [fo_mem_rg] at hc
  intro q
  have q := of_decide_eq_true q
  unfold sp_fc at h
  rcases (by omega : c = 0 ∨ c = 1 ∨ c = 2 ∨ c = 3 ∨ c = 4 ∨ c = 5) with rfl | rfl | rfl | rfl | rfl | rfl <;> simp only [q, if_true] at h <;> (repeat' split at h) <;> omega
theorem sp_fc_b : -1 ≤ sp_fc p m ∧ sp_fc p m ≤ 5 := by
  unfold sp_fc
  repeat (split; · decide)
  decide
theorem tr_vis1 : tr_vis z p μ m (mm_tr z + 1) = μ (mm_tr z + 1) := by
  unfold tr_vis
  split <;> simp only [mm_uu (show mm_tr z + 1 ≠ mm_tr z by omega), mm_uu (show mm_tr z + 1 ≠ mm_tr z + 3 by omega), mm_uu (show mm_tr z + 1 ≠ mm_tr z + 4 by omega), mm_uu (show mm_tr z + 1 ≠ mm_tr z + 5 by omega)]
theorem tr_vis5 : tr_vis z p μ m (mm_tr z) 5 = if sp_fc p m = -1 then μ (mm_tr z) 5 + 1 else μ (mm_tr z) 5 := by
  unfold tr_vis
  split
  · rw [mm_us]
  · rw [mm_uu (by omega)]
theorem tr_fold1 : ∀ (l : List Int) (μ : mm_M), l.foldl (tr_vis z p) μ (mm_tr z + 1) = μ (mm_tr z + 1) := by
  intro l
  induction l with
  | nil => intro μ; rfl
  | cons a l ih => intro μ; rw [List.foldl_cons, ih, tr_vis1]
theorem tr_fold5 : ∀ (l : List Int) (μ : mm_M), μ (mm_tr z) 5 ≤ l.foldl (tr_vis z p) μ (mm_tr z) 5 ∧ l.foldl (tr_vis z p) μ (mm_tr z) 5 ≤ μ (mm_tr z) 5 + l.length := by
  intro l
  induction l with
  | nil => intro μ; simp
  | cons a l ih =>
    intro μ
    rw [List.foldl_cons]
    have h := ih (tr_vis z p μ a)
    rw [tr_vis5] at h
    rw [List.length_cons]
    split at h <;> omega
theorem c_155 (hq : mm_T w z) (hw : fo_wf p) : ∀ (f : Nat), f ≤ 6 → ∀ (t : Int) (μ : mm_M), -1 ≤ t → t < 6 → μ (mm_tr z + 1) = p → 0 ≤ μ (mm_tr z) 5 → μ (mm_tr z) 5 + (fo_pr p f t).length ≤ 6 → (∀ c, 0 ≤ c → c < 6 → p c = t → fo_dp p 6 c = 6 - (f : Int)) → ∀ (Q : am_Ou → am_G → Prop), (am_C (d + f + 2) 155 [.ref (mm_tr z), .int (Int32.ofInt (t)), .int (Int32.ofInt (6 - (f : Int)))] (mm_hp w μ X n) Q ↔ Q (.inl none) (mm_hp w ((fo_pr p f t).foldl (tr_vis z p) μ) X n)) := by
  intro f
  induction f with
  | zero =>
    intro _ t μ _ _ _ _ _ _ Q
    rw [show d + 0 + 2 = (d + 1) + 1 by omega]
    simp only [en_155, b_155_0 hq]
    simp (disch := omega) only [and_self, true_and, mm_ltx, mm_lex, mm_eqx, mm_wv, mm_gd, ↓reduceIte, Int.reduceAdd, Int.reduceSub, Int.reduceNeg, Int.reduceLE, Int.reduceLT, Int.reduceMul, if_pos, if_neg]
    rfl
  | succ f ih =>
    intro hf t μ ht0 ht6 hp h5 hl hd Q
    have loop : ∀ (k : Nat) (μ : mm_M), k ≤ 6 → μ (mm_tr z + 1) = p → 0 ≤ μ (mm_tr z) 5 → μ (mm_tr z) 5 + (((fo_rk k).filter (fun c => decide (p c = t))).flatMap (fun c => c :: fo_pr p f c)).length ≤ 6 → (am_E (d + f + 2) 155 Q (9, [some (.ref (mm_tr z)), some (.int (Int32.ofInt (t))), some (.int (Int32.ofInt (6 - ((f + 1 : Nat) : Int)))), some (.int (Int32.ofInt (6 - (k : Int))))], [], mm_hp w μ X n) ↔ Q (.inl none) (mm_hp w ((((fo_rk k).filter (fun c => decide (p c = t))).flatMap (fun c => c :: fo_pr p f c)).foldl (tr_vis z p) μ) X n)) := by
      intro k
      induction k with
      | zero =>
        intro μ _ _ _ _
        rw [b_155_9 hq]
        simp (disch := omega) only [and_self, true_and, mm_ltx, mm_lex, mm_eqx, mm_wv, mm_gd, ↓reduceIte, Int.reduceAdd, Int.reduceSub, Int.reduceNeg, Int.reduceLE, Int.reduceLT, Int.reduceMul, if_pos, if_neg]
        rfl
      | succ k ihk =>
        intro μ hk hp h5 hl
        have g0 : 0 ≤ 6 - ((k + 1 : Nat) : Int) := by omega
        have g6 : 6 - ((k + 1 : Nat) : Int) < 6 := by omega
        have e1 : 6 - ((k + 1 : Nat) : Int) + 1 = 6 - (k : Int) := by omega
        have hpm := (hw _ g0 g6).1
        rw [b_155_9 hq, hp]
        unfold fo_rk at hl ⊢
        generalize hm : 6 - ((k + 1 : Nat) : Int) = m at *
        by_cases e : p m = t
        · have hf1 : ((m :: fo_rk k).filter (fun c => decide (p c = t))).flatMap (fun c => c :: fo_pr p f c) = m :: (fo_pr p f m ++ ((fo_rk k).filter (fun c => decide (p c = t))).flatMap (fun c => c :: fo_pr p f c)) := by
            rw [List.filter_cons_of_pos (by simp [e]), List.flatMap_cons]
            rfl
          rw [hf1] at hl ⊢
          rw [List.length_cons, List.length_append] at hl
          rw [List.foldl_cons, List.foldl_append]
          have hdm := hd m g0 g6 e
          have hμ1 : mm_u μ (mm_tr z + 3) m (6 - ((f + 1 : Nat) : Int)) (mm_tr z + 1) = p := by rw [mm_uu (by omega), hp]
          have htp : mm_tp (mm_u μ (mm_tr z + 3) m (6 - ((f + 1 : Nat) : Int))) z := by
            intro j j0 j6
            rw [hμ1]
            exact (hw j j0 j6).1
          have hfb := sp_fc_b (p := p) (m := m)
          simp (disch := omega) only [and_self, true_and, mm_ltx, mm_lex, mm_eqx, mm_wv, mm_gd, ↓reduceIte, Int.reduceAdd, Int.reduceSub, Int.reduceNeg, Int.reduceLE, Int.reduceLT, Int.reduceMul, if_pos, if_neg]
          rw [show d + f + 2 = (d + f + 1) + 1 by omega, c_145 (d := d + f + 1) hq (by omega) (by omega) htp, bk_v, hμ1, b_155_37 hq]
          by_cases e2 : sp_fc p m = -1
          · have hn : fo_pr p f m = [] := by
              cases f with
              | zero => rfl
              | succ f => unfold fo_pr; rw [sp_fc_ch e2]; rfl
            rw [hn] at hl ⊢
            have hv : tr_vis z p μ m = mm_u (mm_u (mm_u (mm_u μ (mm_tr z + 3) m (6 - ((f + 1 : Nat) : Int))) (mm_tr z + 4) m (μ (mm_tr z) 5)) (mm_tr z + 5) (μ (mm_tr z) 5) m) (mm_tr z) 5 (μ (mm_tr z) 5 + 1) := by
              unfold tr_vis
              rw [if_pos e2, hdm]
            have hi := ihk (tr_vis z p μ m) (by omega) (by rw [tr_vis1]; exact hp) (by rw [tr_vis5, if_pos e2]; omega) (by rw [tr_vis5, if_pos e2]; omega)
            rw [e2]
            have u1 : ∀ (ν : mm_M) (a : Nat) (k x : Int), a ≠ mm_tr z → mm_u ν a k x (mm_tr z) = ν (mm_tr z) := fun ν a k x h => mm_uu (Ne.symm h)
            simp only [u1 _ (mm_tr z + 3) _ _ (by omega), u1 _ (mm_tr z + 4) _ _ (by omega), u1 _ (mm_tr z + 5) _ _ (by omega)]
            simp (disch := omega) only [and_self, true_and, mm_ltx, mm_lex, mm_eqx, mm_wv, mm_gd, ↓reduceIte, Int.reduceAdd, Int.reduceSub, Int.reduceNeg, Int.reduceLE, Int.reduceLT, Int.reduceMul, if_pos, if_neg]
            rw [← hv, b_155_82 hq, e1, show (d + f + 1) + 1 = d + f + 2 by omega]
            exact hi
          · have hv : tr_vis z p μ m = mm_u μ (mm_tr z + 3) m (6 - ((f + 1 : Nat) : Int)) := by
              unfold tr_vis
              rw [if_neg e2, hdm]
            rw [← hv]
            have hi := ih (by omega) m (tr_vis z p μ m) (by omega) g6 (by rw [tr_vis1]; exact hp) (by rw [tr_vis5, if_neg e2]; omega) (by rw [tr_vis5, if_neg e2]; omega) (fun c c0 c6 hc => by rw [fo_dp1 hw c0 c6 (by omega), hc, hdm]; omega)
            have hi2 := ihk ((fo_pr p f m).foldl (tr_vis z p) (tr_vis z p μ m)) (by omega) (by rw [tr_fold1, tr_vis1]; exact hp) (by have := (tr_fold5 (z := z) (p := p) (fo_pr p f m) (tr_vis z p μ m)).1; rw [tr_vis5, if_neg e2] at this; omega) (by have := (tr_fold5 (z := z) (p := p) (fo_pr p f m) (tr_vis z p μ m)).2; rw [tr_vis5, if_neg e2] at this; omega)
            simp (disch := omega) only [and_self, true_and, mm_ltx, mm_lex, mm_eqx, mm_wv, mm_gd, ↓reduceIte, Int.reduceAdd, Int.reduceSub, Int.reduceNeg, Int.reduceLE, Int.reduceLT, Int.reduceMul, if_pos, if_neg]
            rw [show (6 : Int) - ((f + 1 : Nat) : Int) + 1 = 6 - (f : Int) by omega, show (d + f + 1) + 1 = d + f + 2 by omega, hi, bk_n, b_155_82 hq, e1]
            exact hi2
        · have hf1 : (m :: fo_rk k).filter (fun c => decide (p c = t)) = (fo_rk k).filter (fun c => decide (p c = t)) := List.filter_cons_of_neg (by simp [e])
          rw [hf1] at hl ⊢
          simp (disch := omega) only [and_self, true_and, mm_ltx, mm_lex, mm_eqx, mm_wv, mm_gd, ↓reduceIte, Int.reduceAdd, Int.reduceSub, Int.reduceNeg, Int.reduceLE, Int.reduceLT, Int.reduceMul, if_pos, if_neg]
          rw [b_155_82 hq, e1]
          exact ihk μ (by omega) hp h5 hl
    rw [show d + (f + 1) + 2 = (d + f + 2) + 1 by omega]
    simp only [en_155, b_155_0 hq]
    have := loop 6 μ (Nat.le_refl 6) hp h5 (by rw [fo_rk6]; exact hl)
    rw [fo_rk6] at this
    simp (disch := omega) only [and_self, true_and, mm_ltx, mm_lex, mm_eqx, mm_wv, mm_gd, ↓reduceIte, Int.reduceAdd, Int.reduceSub, Int.reduceNeg, Int.reduceLE, Int.reduceLT, Int.reduceMul, if_pos, if_neg]
    exact this
end T2
