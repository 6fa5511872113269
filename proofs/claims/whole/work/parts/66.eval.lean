/-! What a cell is: worked out by recursion over an environment. Pure. -/
abbrev ev_K : Type := Int × Int
abbrev ev_R : Type := Option (ev_K × Int)
/-- inputs of leaf cells; winning rules; first inner dimensions; rolls; children; formulas; shifts; where a shift goes; fuel -/
abbrev ev_N : Type := (Int → Int) × (Int → Int) × (Int → Int) × (Int → Int → Int) × (Int → Int → List Int) × (Int → List (Int × Int × Int)) × (Int → Int → Int → List (Int × Int)) × (Int → Int → Int → Int) × Int
def nv_in (N : ev_N) : Int → Int := N.1
def nv_win (N : ev_N) : Int → Int := N.2.1
def nv_inn (N : ev_N) : Int → Int := N.2.2.1
def nv_roll (N : ev_N) : Int → Int → Int := N.2.2.2.1
def nv_kid (N : ev_N) : Int → Int → List Int := N.2.2.2.2.1
def nv_code (N : ev_N) : Int → List (Int × Int × Int) := N.2.2.2.2.2.1
def nv_sh (N : ev_N) : Int → Int → Int → List (Int × Int) := N.2.2.2.2.2.2.1
def nv_tg (N : ev_N) : Int → Int → Int → Int := N.2.2.2.2.2.2.2.1
def nv_fu (N : ev_N) : Int := N.2.2.2.2.2.2.2.2
def ev_mv (c e m : Int) : Int := c + (m - rpart c e) * rscale e
def ev_sum (E : Int → Int → ev_R) (c e : Int) : List Int → ev_K → Int → ev_R
  | [], s, t => some (s, t)
  | m :: l, s, t => match E (ev_mv c e m) t with
    | none => none
    | some (x, t') => ev_sum E c e l (sp_str s.1 x.1, s.2 + sp_pl x.1 x.2) t'
def ev_tot (s : ev_K) : ev_K := if s.1 ≤ 1 then sp_fit s.2 else (s.1, 0)
def ev_mean (s : ev_K) (k : Int) : ev_K := if s.1 ≤ 1 then sp_fit (sp_rnd s.2 k) else (s.1, 0)
def ev_tots (r : ev_R) : ev_R := match r with
  | none => none
  | some (s, t) => some (ev_tot s, t)
def ev_means (r : ev_R) (k : Int) : ev_R := match r with
  | none => none
  | some (s, t) => some (ev_mean s k, t)
def ev_tgt (N : ev_N) : List (Int × Int) → Int → Int × Int × Int
  | [], c => (1, c, 0)
  | s :: S, c => if s.2 = 9 then (2, c, s.1) else if nv_tg N s.1 s.2 (rpart c s.1) < 0 then (0, 0, 0) else ev_tgt N S (ev_mv c s.1 (nv_tg N s.1 s.2 (rpart c s.1)))
def ev_ref (N : ev_N) (E : Int → Int → ev_R) (q : Int × Int × Int) (t : Int) : ev_R := if q.1 = 0 then some ((1, 0), t) else if q.1 = 1 then E q.2.1 t else ev_tots (ev_sum E q.2.1 q.2.2 (nv_kid N q.2.2 (rpart q.2.1 q.2.2)) (0, 0) t)
def ev_run (N : ev_N) (E : Int → Int → ev_R) (r c : Int) : Nat → Nat → List ev_K → Int → ev_R
  | 0, _, _, _ => none
  | f + 1, i, st, t => match (nv_code N r)[i]? with
    | none => match st with
      | [] => none
      | x :: _ => some (x, t)
    | some (op, a, b) =>
      if op = 0 then ev_run N E r c f (i + 1) ((0, 1000 * a) :: st) t
      else if op = 1 then match ev_ref N E (ev_tgt N (nv_sh N r a b) c) t with
        | none => none
        | some (x, t') => ev_run N E r c f (i + 1) (x :: st) t'
      else if op = 7 then ev_run N E r c f a.toNat st t
      else match st with
        | [] => none
        | x :: st1 =>
          if op = 6 then (if x.1 ≤ 1 then (if 0 < sp_pl x.1 x.2 then ev_run N E r c f (i + 1) st1 t else ev_run N E r c f a.toNat st1 t) else ev_run N E r c f b.toNat (x :: st1) t)
          else match st1 with
            | [] => none
            | y :: st2 => ev_run N E r c f (i + 1) (sp_cmb (op - 1) y.1 y.2 x.1 x.2 :: st2) t
def ev (N : ev_N) : Nat → List Int → Int → Int → ev_R
  | 0, P, c, t => if c ∈ P then some ((2, 0), t) else none
  | f + 1, P, c, t => if c ∈ P then some ((2, 0), t) else if nv_fu N ≤ t then none
    else if nv_in N c ≠ -2147483648 then some ((0, nv_in N c), t + 1)
    else if 0 ≤ nv_win N c then ev_run N (ev N f (c :: P)) (nv_win N c) c 65 0 [] (t + 1)
    else if nv_inn N c < 0 then some ((1, 0), t + 1)
    else if nv_roll N (nv_inn N c) (rpart c (nv_inn N c)) = 1 then ev_tots (ev_sum (ev N f (c :: P)) c (nv_inn N c) (nv_kid N (nv_inn N c) (rpart c (nv_inn N c))) (0, 0) (t + 1))
    else if nv_roll N (nv_inn N c) (rpart c (nv_inn N c)) = 2 then ev_means (ev_sum (ev N f (c :: P)) c (nv_inn N c) (nv_kid N (nv_inn N c) (rpart c (nv_inn N c))) (0, 0) (t + 1)) (nv_kid N (nv_inn N c) (rpart c (nv_inn N c))).length
    else if nv_roll N (nv_inn N c) (rpart c (nv_inn N c)) = 3 then ev N f (c :: P) (ev_mv c (nv_inn N c) ((nv_kid N (nv_inn N c) (rpart c (nv_inn N c))).getD 0 (-1))) (t + 1)
    else if nv_roll N (nv_inn N c) (rpart c (nv_inn N c)) = 4 then ev N f (c :: P) (ev_mv c (nv_inn N c) ((nv_kid N (nv_inn N c) (rpart c (nv_inn N c))).getLastD (-1))) (t + 1)
    else some ((1, 0), t + 1)
/-- an amount in range -/
def ev_ok (x : ev_K) : Prop := (0 ≤ x.1 ∧ x.1 ≤ 4) ∧ (-2000000000 ≤ x.2 ∧ x.2 ≤ 2000000000)
/-- the formula of a rule: depths of its stack, all its jumps go on -/
def ev_co (N : ev_N) (r : Int) (h : Nat → Int) : Prop := (nv_code N r).length ≤ 24 ∧ h 0 = 0 ∧ h (nv_code N r).length = 1 ∧ (∀ i, 0 ≤ h i ∧ h i ≤ 9) ∧ ∀ (i : Nat) (op a b : Int), (nv_code N r)[i]? = some (op, a, b) →
  (op = 0 ∧ (0 ≤ a ∧ a ≤ 99999) ∧ h (i + 1) = h i + 1) ∨ (op = 1 ∧ h (i + 1) = h i + 1 ∧ (∀ s ∈ nv_sh N r a b, (0 ≤ s.1 ∧ s.1 < 3) ∧ (0 ≤ s.2 ∧ s.2 < 10))) ∨ ((2 ≤ op ∧ op ≤ 5) ∧ 2 ≤ h i ∧ h (i + 1) = h i - 1)
  ∨ (op = 6 ∧ 1 ≤ h i ∧ h (i + 1) = h i - 1 ∧ (i < a ∧ a ≤ (nv_code N r).length) ∧ (i < b ∧ b ≤ (nv_code N r).length) ∧ h a.toNat = h i - 1 ∧ h b.toNat = h i) ∨ (op = 7 ∧ (i < a ∧ a ≤ (nv_code N r).length) ∧ h a.toNat = h i)
/-- an environment that makes sense; G: the cells that are there -/
def ev_en (N : ev_N) (G : Int → Prop) : Prop := (∀ c, G c → 0 ≤ c ∧ c < 216) ∧ (1 ≤ nv_fu N ∧ nv_fu N ≤ 2000) ∧ (∀ c, G c → nv_in N c = -2147483648 ∨ (-2000000000 ≤ nv_in N c ∧ nv_in N c ≤ 2000000000)) ∧ (∀ c, G c → -1 ≤ nv_win N c ∧ nv_win N c < 8) ∧ (∀ c, G c → 0 ≤ nv_win N c → ∃ h, ev_co N (nv_win N c) h)
  ∧ (∀ c, G c → -1 ≤ nv_inn N c ∧ nv_inn N c < 3) ∧ (∀ c e m, G c → 0 ≤ e → e < 3 → m ∈ nv_kid N e (rpart c e) → (0 ≤ m ∧ m < 6) ∧ G (ev_mv c e m)) ∧ (∀ c e, G c → 0 ≤ e → e < 3 → (nv_kid N e (rpart c e)).length ≤ 6) ∧ (∀ c, G c → 0 ≤ nv_inn N c → nv_kid N (nv_inn N c) (rpart c (nv_inn N c)) ≠ [])
  ∧ ∀ c e s, G c → 0 ≤ e → e < 3 → 0 ≤ s → s < 9 → nv_tg N e s (rpart c e) < 0 ∨ ((0 ≤ nv_tg N e s (rpart c e) ∧ nv_tg N e s (rpart c e) < 6) ∧ G (ev_mv c e (nv_tg N e s (rpart c e))))
section EV
variable {N : ev_N} {G : Int → Prop} {E : Int → Int → ev_R} {c e r t : Int}
/-- what E answers is in range, and its steps go up -/
def ev_Eo (N : ev_N) (G : Int → Prop) (E : Int → Int → ev_R) : Prop := ∀ c t x t', G c → E c t = some (x, t') → ev_ok x ∧ t ≤ t' ∧ (t ≤ nv_fu N → t' ≤ nv_fu N)
theorem ev_okf {v : Int} : ev_ok (sp_fit v) := sp_fit_b
theorem ev_oktot {s : ev_K} (h : 0 ≤ s.1 ∧ s.1 ≤ 4) : ev_ok (ev_tot s) := by
  unfold ev_tot
  split
  · exact ev_okf
  · exact ⟨h, show (-2000000000 : Int) ≤ 0 by decide, show (0 : Int) ≤ 2000000000 by decide⟩
theorem ev_okmean {s : ev_K} {k : Int} (h : 0 ≤ s.1 ∧ s.1 ≤ 4) : ev_ok (ev_mean s k) := by
  unfold ev_mean
  split
  · exact ev_okf
  · exact ⟨h, show (-2000000000 : Int) ≤ 0 by decide, show (0 : Int) ≤ 2000000000 by decide⟩
theorem ev_sumo (hE : ev_Eo N G E) : ∀ (l : List Int) (s : ev_K) (t : Int), (∀ m ∈ l, G (ev_mv c e m)) → (0 ≤ s.1 ∧ s.1 ≤ 4) → ∀ s' t', ev_sum E c e l s t = some (s', t') → (0 ≤ s'.1 ∧ s'.1 ≤ 4) ∧ (s.2 - 2000000000 * l.length ≤ s'.2 ∧ s'.2 ≤ s.2 + 2000000000 * l.length) ∧ t ≤ t' ∧ (t ≤ nv_fu N → t' ≤ nv_fu N) := by
  intro l
  induction l with
  | nil =>
    intro s t _ hs s' t' h
    cases h
    exact ⟨hs, by simp, Int.le_refl _, fun q => q⟩
  | cons m l ih =>
    intro s t hl hs s' t' h
    unfold ev_sum at h
    split at h
    · cases h
    · rename_i x t1 hx
      have h1 := hE _ _ _ _ (hl m List.mem_cons_self) hx
      have h2 := ih _ _ (fun m hm => hl m (List.mem_cons_of_mem _ hm)) (sp_str_b hs h1.1.1) s' t' h
      have h3 : -2000000000 ≤ sp_pl x.1 x.2 ∧ sp_pl x.1 x.2 ≤ 2000000000 := sp_pl_b (fun _ => h1.1.2)
      rw [List.length_cons]
      refine ⟨h2.1, ?_, by omega, by omega⟩
      have := h2.2.1
      dsimp only at this
      omega
theorem ev_refo (hN : ev_en N G) (hE : ev_Eo N G E) {q : Int × Int × Int} (hq : q.1 = 0 ∨ G q.2.1) (he : 0 ≤ q.2.2 ∧ q.2.2 < 3) : ∀ x t', ev_ref N E q t = some (x, t') → ev_ok x ∧ t ≤ t' ∧ (t ≤ nv_fu N → t' ≤ nv_fu N) := by
  intro x t' h
  unfold ev_ref at h
  split at h
  · cases h
    exact ⟨⟨by decide, by decide⟩, Int.le_refl _, fun q => q⟩
  · have hq : G q.2.1 := by rcases hq with hq | hq; contradiction; exact hq
    split at h
    · exact hE _ _ _ _ hq h
    · unfold ev_tots at h
      split at h
      · cases h
      · rename_i s t1 hs
        cases h
        have := ev_sumo hE _ _ _ (fun m hm => (hN.2.2.2.2.2.2.1 _ _ m hq he.1 he.2 hm).2) (by decide) _ _ hs
        exact ⟨ev_oktot this.1, this.2.2⟩
theorem ev_tgto (hN : ev_en N G) : ∀ (S : List (Int × Int)) (c : Int), G c → (∀ s ∈ S, (0 ≤ s.1 ∧ s.1 < 3) ∧ (0 ≤ s.2 ∧ s.2 < 10)) → ((ev_tgt N S c).1 = 0 ∨ G (ev_tgt N S c).2.1) ∧ (0 ≤ (ev_tgt N S c).2.2 ∧ (ev_tgt N S c).2.2 < 3) ∧ (0 ≤ (ev_tgt N S c).1 ∧ (ev_tgt N S c).1 ≤ 2) := by
  intro S
  induction S with
  | nil => intro c hc _; exact ⟨Or.inr hc, ⟨Int.le_refl 0, show (0 : Int) < 3 by decide⟩, show (0 : Int) ≤ 1 by decide, show (1 : Int) ≤ 2 by decide⟩
  | cons s S ih =>
    intro c hc hS
    have h1 := hS s List.mem_cons_self
    unfold ev_tgt
    split
    · exact ⟨Or.inr hc, h1.1, show (0 : Int) ≤ 2 by decide, show (2 : Int) ≤ 2 by decide⟩
    · split
      · exact ⟨Or.inl rfl, ⟨Int.le_refl 0, show (0 : Int) < 3 by decide⟩, show (0 : Int) ≤ 0 by decide, show (0 : Int) ≤ 2 by decide⟩
      · refine ih _ ?_ (fun s hs => hS s (List.mem_cons_of_mem _ hs))
        rcases hN.2.2.2.2.2.2.2.2.2 c s.1 s.2 hc h1.1.1 h1.1.2 h1.2.1 (by omega) with q | q
        · contradiction
        · exact q.2
theorem ev_runo (hN : ev_en N G) (hE : ev_Eo N G E) (hc : G c) {h : Nat → Int} (hr : ev_co N r h) : ∀ (f i : Nat) (st : List ev_K) (t : Int), (∀ x ∈ st, ev_ok x) → ∀ x t', ev_run N E r c f i st t = some (x, t') → ev_ok x ∧ t ≤ t' ∧ (t ≤ nv_fu N → t' ≤ nv_fu N) := by
  intro f
  induction f with
  | zero => intro i st t _ x t' q; cases q
  | succ f ih =>
    intro i st t hst x t' q
    unfold ev_run at q
    split at q
    · split at q
      · cases q
      · cases q
        exact ⟨hst _ List.mem_cons_self, Int.le_refl _, fun q => q⟩
    · rename_i op a b hi
      have hco := hr.2.2.2.2 i op a b hi
      split at q
      · refine ih _ _ _ ?_ _ _ q
        intro y hy
        rcases List.mem_cons.mp hy with rfl | hy
        · rcases hco with k | k | k | k | k
          · exact ⟨⟨Int.le_refl 0, show (0 : Int) ≤ 4 by decide⟩, show (-2000000000 : Int) ≤ 1000 * a by omega, show 1000 * a ≤ 2000000000 by omega⟩
          · omega
          · omega
          · omega
          · omega
        · exact hst y hy
      · split at q
        · rename_i o0 o1
          split at q
          · cases q
          · rename_i y t1 hy
            have hS : ∀ s ∈ nv_sh N r a b, (0 ≤ s.1 ∧ s.1 < 3) ∧ (0 ≤ s.2 ∧ s.2 < 10) := by
              rcases hco with k | k | k | k | k
              · omega
              · exact k.2.2
              · omega
              · omega
              · omega
            have ht := ev_tgto hN (nv_sh N r a b) c hc hS
            have h1 := ev_refo hN hE ht.1 ht.2.1 _ _ hy
            have h2 := ih _ _ _ (fun z hz => by rcases List.mem_cons.mp hz with rfl | hz; exact h1.1; exact hst z hz) _ _ q
            exact ⟨h2.1, by omega, by omega⟩
        · split at q
          · exact ih _ _ _ hst _ _ q
          · split at q
            · cases q
            · rename_i y st1
              have hy := hst y List.mem_cons_self
              have hst1 : ∀ x ∈ st1, ev_ok x := fun z hz => hst z (List.mem_cons_of_mem _ hz)
              split at q
              · split at q
                · split at q
                  · exact ih _ _ _ hst1 _ _ q
                  · exact ih _ _ _ hst1 _ _ q
                · exact ih _ _ _ hst _ _ q
              · split at q
                · cases q
                · rename_i z st2
                  have hz := hst1 z List.mem_cons_self
                  refine ih _ _ _ ?_ _ _ q
                  intro u hu
                  rcases List.mem_cons.mp hu with rfl | hu
                  · exact sp_cmb_b hz.1 hy.1
                  · exact hst1 u (List.mem_cons_of_mem _ hu)
theorem ev_o (hN : ev_en N G) : ∀ (f : Nat) (P : List Int), ev_Eo N G (ev N f P) := by
  intro f
  induction f with
  | zero =>
    intro P c t x t' hc h
    unfold ev at h
    split at h
    · cases h; exact ⟨⟨by decide, by decide⟩, Int.le_refl _, fun q => q⟩
    · cases h
  | succ f ih =>
    intro P c t x t' hc h
    obtain ⟨n1, n2, n3, n4, n5, n6, n7, n8, n9, n10⟩ := hN
    have hN : ev_en N G := ⟨n1, n2, n3, n4, n5, n6, n7, n8, n9, n10⟩
    unfold ev at h
    split at h
    · cases h; exact ⟨⟨by decide, by decide⟩, Int.le_refl _, fun q => q⟩
    · split at h
      · cases h
      · rename_i hfu
        split at h
        · rename_i hin
          cases h
          rcases n3 c hc with q | q
          · contradiction
          · exact ⟨⟨⟨Int.le_refl 0, show (0 : Int) ≤ 4 by decide⟩, q⟩, by omega, by omega⟩
        · split at h
          · rename_i hw
            obtain ⟨hh, hco⟩ := n5 c hc hw
            have := ev_runo hN (ih (c :: P)) hc hco _ _ _ _ (by simp) _ _ h
            exact ⟨this.1, by omega, by omega⟩
          · split at h
            · cases h; exact ⟨⟨by decide, by decide⟩, by omega, by omega⟩
            · rename_i hi
              have hi3 := n6 c hc
              have hk : ∀ m ∈ nv_kid N (nv_inn N c) (rpart c (nv_inn N c)), G (ev_mv c (nv_inn N c) m) := fun m hm => (n7 c _ m hc (by omega) (by omega) hm).2
              split at h
              · unfold ev_tots at h
                split at h
                · cases h
                · rename_i s t1 hs
                  cases h
                  have := ev_sumo (ih (c :: P)) _ _ _ hk (by decide) _ _ hs
                  exact ⟨ev_oktot this.1, by omega, by omega⟩
              · split at h
                · unfold ev_means at h
                  split at h
                  · cases h
                  · rename_i s t1 hs
                    cases h
                    have := ev_sumo (ih (c :: P)) _ _ _ hk (by decide) _ _ hs
                    exact ⟨ev_okmean this.1, by omega, by omega⟩
                · have hne := n9 c hc (by omega)
                  split at h
                  · have hm : (nv_kid N (nv_inn N c) (rpart c (nv_inn N c))).getD 0 (-1) ∈ nv_kid N (nv_inn N c) (rpart c (nv_inn N c)) := by
                      generalize nv_kid N (nv_inn N c) (rpart c (nv_inn N c)) = l at *
                      cases l with
                      | nil => exact absurd rfl hne
                      | cons a l => exact List.mem_cons_self
                    have := ih (c :: P) _ _ _ _ (hk _ hm) h
                    exact ⟨this.1, by omega, by omega⟩
                  · split at h
                    · have hm : (nv_kid N (nv_inn N c) (rpart c (nv_inn N c))).getLastD (-1) ∈ nv_kid N (nv_inn N c) (rpart c (nv_inn N c)) := by
                        generalize nv_kid N (nv_inn N c) (rpart c (nv_inn N c)) = l at *
                        cases l with
                        | nil => exact absurd rfl hne
                        | cons a l => rw [List.getLastD_cons]; exact List.getLastD_mem_cons
                      have := ih (c :: P) _ _ _ _ (hk _ hm) h
                      exact ⟨this.1, by omega, by omega⟩
                    · cases h; exact ⟨⟨by decide, by decide⟩, by omega, by omega⟩
end EV
