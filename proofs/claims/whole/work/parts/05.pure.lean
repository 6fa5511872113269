/-! The judgement over the abstract machine: it may be weakened, it speaks of one end, two of one frame agree. -/
def am_Mon (C : Nat → List Value → am_G → (am_Ou → am_G → Prop) → Prop) : Prop := ∀ M as g Q Q', (∀ o g', Q o g' → Q' o g') → C M as g Q → C M as g Q'
theorem am_bk_mono {P pc : Nat} {L : am_Lo} {st : List Value} {W W' : am_Fr → Prop} {Q Q' : am_Ou → am_G → Prop} (hW : ∀ f, W f → W' f) (hQ : ∀ o g, Q o g → Q' o g) (o : am_Ou) (g : am_G) (h : am_bk P pc L st W Q o g) : am_bk P pc L st W' Q' o g := by
  unfold am_bk at h ⊢
  rcases o with v | ⟨k, a⟩
  · exact hW _ h
  · dsimp only at h ⊢
    split <;> rename_i e
    · rw [e] at h
      exact hW _ h
    · rw [e] at h
      exact hQ _ _ h
theorem am_W_mono {C : Nat → List Value → am_G → (am_Ou → am_G → Prop) → Prop} (hC : am_Mon C) {P : Nat} {Q Q' : am_Ou → am_G → Prop} (hQ : ∀ o g, Q o g → Q' o g) : ∀ (n m : Nat) (f : am_Fr), n ≤ m → am_W C P Q n f → am_W C P Q' m f := by
  intro n
  induction n with
  | zero => intro m f _ h; exact h.elim
  | succ n ih =>
    intro m f hm h
    obtain ⟨m, rfl⟩ : ∃ k, m = k + 1 := ⟨m - 1, by omega⟩
    unfold am_W at h ⊢
    split <;> rename_i e
    · rw [e] at h
      dsimp only at h ⊢
      split <;> rename_i e2
      · rw [e2] at h; exact h
      · rw [e2] at h; exact ih m _ (by omega) h
      · rw [e2] at h; exact hQ _ _ h
      · rw [e2] at h
        exact hC _ _ _ _ _ (am_bk_mono (fun f' h' => ih m f' (by omega) h') hQ) h
    · rw [e] at h; exact h
theorem am_C_mono : ∀ d, am_Mon (am_C d) := by
  intro d
  induction d with
  | zero => intro M as g Q Q' _ h; exact h.elim
  | succ d ih =>
    intro M as g Q Q' hQ h
    obtain ⟨h0, n, h⟩ := h
    exact ⟨h0, n, am_W_mono ih hQ n n _ (Nat.le_refl _) h⟩
def am_Up (C C' : Nat → List Value → am_G → (am_Ou → am_G → Prop) → Prop) : Prop := ∀ M as g Q, C M as g Q → C' M as g Q
theorem am_W_up {C C' : Nat → List Value → am_G → (am_Ou → am_G → Prop) → Prop} (hC : am_Mon C) (hU : am_Up C C') {P : Nat} {Q : am_Ou → am_G → Prop} : ∀ (n : Nat) (f : am_Fr), am_W C P Q n f → am_W C' P Q n f := by
  intro n
  induction n with
  | zero => intro f h; exact h.elim
  | succ n ih =>
    intro f h
    unfold am_W at h ⊢
    split <;> rename_i e
    · rw [e] at h
      dsimp only at h ⊢
      split <;> rename_i e2
      · rw [e2] at h; exact h
      · rw [e2] at h; exact ih _ h
      · rw [e2] at h; exact h
      · rw [e2] at h
        exact hU _ _ _ _ (hC _ _ _ _ _ (am_bk_mono ih (fun _ _ q => q)) h)
    · rw [e] at h; exact h
theorem am_C_up : ∀ d, am_Up (am_C d) (am_C (d + 1)) := by
  intro d
  induction d with
  | zero => intro M as g Q h; exact h.elim
  | succ d ih =>
    intro M as g Q h
    obtain ⟨h0, n, h⟩ := h
    exact ⟨h0, n, am_W_up (am_C_mono d) ih n _ h⟩
theorem am_C_le {d e : Nat} (h : d ≤ e) : am_Up (am_C d) (am_C e) := by
  induction h with
  | refl => exact fun _ _ _ _ q => q
  | step _ ih => exact fun M as g Q q => am_C_up _ _ _ _ _ (ih M as g Q q)
def am_One (C : Nat → List Value → am_G → (am_Ou → am_G → Prop) → Prop) : Prop := ∀ M as g Q, C M as g Q → ∃ o g', Q o g' ∧ C M as g (fun o1 g1 => o1 = o ∧ g1 = g')
def am_C_at (C : Nat → List Value → am_G → (am_Ou → am_G → Prop) → Prop) (P n : Nat) (o : am_Ou) (g' : am_G) (M : Nat) (as : List Value) (pc : Nat) (L : am_Lo) (st : List Value) (g : am_G) : Prop := C M as g (am_bk P pc L st (am_W C P (fun o1 g1 => o1 = o ∧ g1 = g') n) (fun o1 g1 => o1 = o ∧ g1 = g'))
theorem am_W_one {C : Nat → List Value → am_G → (am_Ou → am_G → Prop) → Prop} (hC : am_Mon C) (hO : am_One C) {P : Nat} {Q : am_Ou → am_G → Prop} : ∀ (n : Nat) (f : am_Fr), am_W C P Q n f → ∃ o g', Q o g' ∧ am_W C P (fun o1 g1 => o1 = o ∧ g1 = g') n f := by
  intro n
  induction n with
  | zero => intro f h; exact h.elim
  | succ n ih =>
    intro f h
    unfold am_W at h
    split at h <;> rename_i e
    · split at h <;> rename_i e2
      · exact h.elim
      · obtain ⟨o, g', hq, hw⟩ := ih _ h
        refine ⟨o, g', hq, ?_⟩
        unfold am_W
        rw [e]
        dsimp only
        rw [e2]
        exact hw
      · refine ⟨_, _, h, ?_⟩
        unfold am_W
        rw [e]
        dsimp only
        rw [e2]
        exact ⟨rfl, rfl⟩
      · rename_i M as pc L st g
        have key : ∀ {o : am_Ou} {g' : am_G}, am_C_at C P n o g' M as pc L st g → am_W C P (fun o1 g1 => o1 = o ∧ g1 = g') (n + 1) f := by
          intro o g' hk
          unfold am_W
          rw [e]
          dsimp only
          rw [e2]
          exact hk
        obtain ⟨o1, g1, hb, hc⟩ := hO _ _ _ _ h
        unfold am_bk at hb
        rcases o1 with v | ⟨k, a⟩
        · obtain ⟨o, g', hq, hw⟩ := ih _ hb
          refine ⟨o, g', hq, key (hC _ _ _ _ _ ?_ hc)⟩
          rintro o2 g2 ⟨rfl, rfl⟩
          exact hw
        · dsimp only at hb
          split at hb <;> rename_i e3
          · obtain ⟨o, g', hq, hw⟩ := ih _ hb
            refine ⟨o, g', hq, key (hC _ _ _ _ _ ?_ hc)⟩
            rintro o2 g2 ⟨rfl, rfl⟩
            unfold am_bk
            dsimp only
            rw [e3]
            exact hw
          · refine ⟨_, _, hb, key (hC _ _ _ _ _ ?_ hc)⟩
            rintro o2 g2 ⟨rfl, rfl⟩
            unfold am_bk
            dsimp only
            rw [e3]
            exact ⟨rfl, rfl⟩
    · exact h.elim
theorem am_C_one : ∀ d, am_One (am_C d) := by
  intro d
  induction d with
  | zero => intro M as g Q h; exact h.elim
  | succ d ih =>
    intro M as g Q h
    obtain ⟨h0, n, h⟩ := h
    obtain ⟨o, g', hq, hw⟩ := am_W_one (am_C_mono d) ih n _ h
    exact ⟨o, g', hq, h0, n, hw⟩
def am_Det (C : Nat → List Value → am_G → (am_Ou → am_G → Prop) → Prop) : Prop := ∀ M as g Q Q', C M as g Q → C M as g Q' → ∃ o g', Q o g' ∧ Q' o g'
theorem am_W_det {C : Nat → List Value → am_G → (am_Ou → am_G → Prop) → Prop} (hD : am_Det C) {P : Nat} {Q Q' : am_Ou → am_G → Prop} : ∀ (n m : Nat) (f : am_Fr), am_W C P Q n f → am_W C P Q' m f → ∃ o g', Q o g' ∧ Q' o g' := by
  intro n
  induction n with
  | zero => intro m f h; exact h.elim
  | succ n ih =>
    intro m f h h'
    cases m with
    | zero => exact h'.elim
    | succ m =>
      unfold am_W at h h'
      split at h <;> rename_i e
      · rw [e] at h'
        dsimp only at h h'
        split at h <;> rename_i e2
        · exact h.elim
        · rw [e2] at h'; exact ih _ _ h h'
        · rw [e2] at h'; exact ⟨_, _, h, h'⟩
        · rw [e2] at h'
          obtain ⟨o, g', h1, h2⟩ := hD _ _ _ _ _ h h'
          unfold am_bk at h1 h2
          rcases o with v | ⟨k, a⟩
          · exact ih _ _ h1 h2
          · dsimp only at h1 h2
            split at h1 <;> rename_i e3
            · rw [e3] at h2; exact ih _ _ h1 h2
            · rw [e3] at h2; exact ⟨_, _, h1, h2⟩
      · exact h.elim
theorem am_C_det : ∀ d, am_Det (am_C d) := by
  intro d
  induction d with
  | zero => intro M as g Q Q' h; exact h.elim
  | succ d ih =>
    intro M as g Q Q' h h'
    obtain ⟨_, n, h⟩ := h
    obtain ⟨_, m, h'⟩ := h'
    exact am_W_det ih n m _ h h'
/-- one step of the judgement that hides the number -/
theorem am_E_go {d P : Nat} {Q : am_Ou → am_G → Prop} {f f' : am_Fr} {ins : Instr} (hd : am_dc P f.1 = some ins) (hs : am_S P ins f.1 f.2.1 f.2.2.1 f.2.2.2 = some (.inl f')) : am_E d P Q f ↔ am_E d P Q f' := by
  constructor
  · rintro ⟨n, h⟩
    cases n with
    | zero => exact h.elim
    | succ n =>
      unfold am_W at h
      rw [hd] at h
      dsimp only at h
      rw [hs] at h
      exact ⟨n, h⟩
  · rintro ⟨n, h⟩
    refine ⟨n + 1, ?_⟩
    unfold am_W
    rw [hd]
    dsimp only
    rw [hs]
    exact h
theorem am_E_en {d P : Nat} {Q : am_Ou → am_G → Prop} {f : am_Fr} {ins : Instr} {o : am_Ou} {g : am_G} (hd : am_dc P f.1 = some ins) (hs : am_S P ins f.1 f.2.1 f.2.2.1 f.2.2.2 = some (.inr (.inl (o, g)))) : am_E d P Q f ↔ Q o g := by
  constructor
  · rintro ⟨n, h⟩
    cases n with
    | zero => exact h.elim
    | succ n =>
      unfold am_W at h
      rw [hd] at h
      dsimp only at h
      rw [hs] at h
      exact h
  · intro h
    refine ⟨1, ?_⟩
    unfold am_W
    rw [hd]
    dsimp only
    rw [hs]
    exact h
theorem am_E_st {d P : Nat} {Q : am_Ou → am_G → Prop} {f : am_Fr} {ins : Instr} (hd : am_dc P f.1 = some ins) (hs : am_S P ins f.1 f.2.1 f.2.2.1 f.2.2.2 = none) : am_E d P Q f ↔ False := by
  constructor
  · rintro ⟨n, h⟩
    cases n with
    | zero => exact h.elim
    | succ n =>
      unfold am_W at h
      rw [hd] at h
      dsimp only at h
      rw [hs] at h
      exact h
  · exact fun h => h.elim
theorem am_E_ca {d P : Nat} {Q : am_Ou → am_G → Prop} {f : am_Fr} {ins : Instr} {M : Nat} {as : List Value} {pc : Nat} {L : am_Lo} {st : List Value} {g : am_G} (hd : am_dc P f.1 = some ins) (hs : am_S P ins f.1 f.2.1 f.2.2.1 f.2.2.2 = some (.inr (.inr (M, as, pc, L, st, g)))) :
    am_E d P Q f ↔ am_C d M as g (am_bk P pc L st (am_E d P Q) Q) := by
  constructor
  · rintro ⟨n, h⟩
    cases n with
    | zero => exact h.elim
    | succ n =>
      unfold am_W at h
      rw [hd] at h
      dsimp only at h
      rw [hs] at h
      exact am_C_mono d _ _ _ _ _ (am_bk_mono (fun f h => ⟨n, h⟩) (fun _ _ q => q)) h
  · intro h
    obtain ⟨o, g', hb, hc⟩ := am_C_one d _ _ _ _ h
    have hn : ∃ n, am_bk P pc L st (am_W (am_C d) P Q n) Q o g' := by
      unfold am_bk at hb ⊢
      rcases o with v | ⟨k, a⟩
      · exact hb
      · dsimp only at hb ⊢
        split <;> rename_i e
        · rw [e] at hb; exact hb
        · rw [e] at hb; exact ⟨0, hb⟩
    obtain ⟨n, hn⟩ := hn
    refine ⟨n + 1, ?_⟩
    unfold am_W
    rw [hd]
    dsimp only
    rw [hs]
    refine am_C_mono d _ _ _ _ _ ?_ hc
    rintro o2 g2 ⟨rfl, rfl⟩
    exact hn
/-- a call with a known end -/
theorem am_C_iff {d M : Nat} {as : List Value} {g : am_G} {o : am_Ou} {g' : am_G} (h : am_C d M as g (fun o1 g1 => o1 = o ∧ g1 = g')) (Q : am_Ou → am_G → Prop) : am_C d M as g Q ↔ Q o g' := by
  constructor
  · intro hq
    obtain ⟨o1, g1, h1, rfl, rfl⟩ := am_C_det d _ _ _ _ _ hq h
    exact h1
  · intro hq
    refine am_C_mono d _ _ _ _ _ ?_ h
    rintro o2 g2 ⟨rfl, rfl⟩
    exact hq
theorem am_C_in {d M : Nat} {as : List Value} {g : am_G} {Q : am_Ou → am_G → Prop} (h0 : (am_arg as).length ≤ am_m M) : am_C (d + 1) M as g Q ↔ am_E d M Q (0, am_loc M as, [], g) := ⟨fun h => h.2, fun h => ⟨h0, h⟩⟩
