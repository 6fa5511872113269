/-! Each instruction of the abstract machine is the true one's. Written by program (wip/gen/gen16.py). -/
def am_GR (Go : am_Fr → Prop) (CQ : Nat → List Value → am_G → (am_Ou → am_G → Prop) → Prop) (P : Nat) (Q : am_Ou → am_G → Prop) (r : am_Re) : Prop := match r with
  | none => False
  | some (.inl f) => Go f
  | some (.inr (.inl (o, g))) => Q o g
  | some (.inr (.inr (M, as, pc, L, st, g))) => CQ M as g (am_bk P pc L st Go Q)
theorem am_dcK {P pc : Nat} {ins : Instr} {k : Nat} (h : am_dc P pc = some ins) (hk : ∀ n, am_ln ins n = (n == k)) : decode (am_b P) pc = .ok (ins, k) := by
  unfold am_dc at h
  split at h <;> rename_i e
  · split at h <;> rename_i e2
    · cases h
      rw [hk] at e2
      rw [eq_of_beq e2] at e
      exact e
    · cases h
  · cases h
theorem am_dcA {P pc : Nat} {ins : Instr} (h : am_dc P pc = some ins) : ∃ n, decode (am_b P) pc = .ok (ins, n) := by
  unfold am_dc at h
  split at h <;> rename_i e
  · split at h <;> rename_i e2
    · cases h
      exact ⟨_, e⟩
    · cases h
  · cases h
theorem am_jpE {pc : Nat} {off : Int} (h : am_jok pc off = true) : (pc : Int) + off = ((am_jp pc off : Nat) : Int) := by
  unfold am_jok at h
  unfold am_jp
  exact (Int.toNat_of_nonneg (of_decide_eq_true h)).symm
section AMS
variable {i : Nat → Nat} {sz : Nat} {dC : Nat → ClassId} {dI : Nat → Nat → Nat} {cA : FieldType → ClassId} {g : am_G} {B1 B2 : Nat}
variable {p : Program} {l : Launch} {e : Env} {R : Room} {s : State} {m : MethodId} {args : Array Value} {below : List Frame} {meth : Method} {c : Code} {H : Heap} {locs : List Loc} {cells slots : Nat} {Q : am_Ou → am_G → Prop}
variable {P d pc : Nat} {ls : Array Slot} {L : am_Lo} {st : List Value} {Go : am_Fr → Prop} {CQ : Nat → List Value → am_G → (am_Ou → am_G → Prop) → Prop}
def am_Go (i : Nat → Nat) (sz : Nat) (dC : Nat → ClassId) (dI : Nat → Nat → Nat) (cA : FieldType → ClassId) (P : Nat) (p : Program) (l : Launch) (e : Env) (R : Room) (s : State) (m : MethodId) (args : Array Value) (below : List Frame) (meth : Method) (c : Code) (B1 B2 : Nat) (Q : am_Ou → am_G → Prop) (f : am_Fr) : Prop :=
  ∀ (ls : Array Slot) (H : Heap) (locs : List Loc) (cells slots : Nat), am_LR i f.2.1 ls (am_m P) → am_V i sz dC dI cA s R B1 B2 f.2.2.2 H locs cells slots → W p l e R s m args below meth c H locs cells slots (am_Z i sz dC dI cA s below B1 B2 Q) (F0 m f.1 ls (f.2.2.1.map (am_v i)))
theorem am_s_iconst (hx : am_Ctx i sz dC dI cA d P p R s m args meth c) (hG : ∀ f, Go f → am_Go i sz dC dI cA P p l e R s m args below meth c B1 B2 Q f) (hL : am_LR i L ls (am_m P)) (hV : am_V i sz dC dI cA s R B1 B2 g H locs cells slots) {n : Int} (hdc : am_dc P pc = some (.iconst n)) (hr : am_GR Go CQ P Q (am_S P (.iconst n) pc L st g)) : W p l e R s m args below meth c H locs cells slots (am_Z i sz dC dI cA s below B1 B2 Q) (F0 m pc ls (st.map (am_v i))) := by
  exact lv_iconst hx.1 hx.2.1 (am_dcK (k := 1) hdc fun _ => rfl) rfl (hG _ hr _ _ _ _ _ hL hV)
theorem am_s_bipush (hx : am_Ctx i sz dC dI cA d P p R s m args meth c) (hG : ∀ f, Go f → am_Go i sz dC dI cA P p l e R s m args below meth c B1 B2 Q f) (hL : am_LR i L ls (am_m P)) (hV : am_V i sz dC dI cA s R B1 B2 g H locs cells slots) {n : Int} (hdc : am_dc P pc = some (.bipush n)) (hr : am_GR Go CQ P Q (am_S P (.bipush n) pc L st g)) : W p l e R s m args below meth c H locs cells slots (am_Z i sz dC dI cA s below B1 B2 Q) (F0 m pc ls (st.map (am_v i))) := by
  exact lv_bipush hx.1 hx.2.1 (am_dcK (k := 2) hdc fun _ => rfl) rfl (hG _ hr _ _ _ _ _ hL hV)
theorem am_s_sipush (hx : am_Ctx i sz dC dI cA d P p R s m args meth c) (hG : ∀ f, Go f → am_Go i sz dC dI cA P p l e R s m args below meth c B1 B2 Q f) (hL : am_LR i L ls (am_m P)) (hV : am_V i sz dC dI cA s R B1 B2 g H locs cells slots) {n : Int} (hdc : am_dc P pc = some (.sipush n)) (hr : am_GR Go CQ P Q (am_S P (.sipush n) pc L st g)) : W p l e R s m args below meth c H locs cells slots (am_Z i sz dC dI cA s below B1 B2 Q) (F0 m pc ls (st.map (am_v i))) := by
  exact lv_sipush hx.1 hx.2.1 (am_dcK (k := 3) hdc fun _ => rfl) rfl (hG _ hr _ _ _ _ _ hL hV)
theorem am_s_lconst (hx : am_Ctx i sz dC dI cA d P p R s m args meth c) (hG : ∀ f, Go f → am_Go i sz dC dI cA P p l e R s m args below meth c B1 B2 Q f) (hL : am_LR i L ls (am_m P)) (hV : am_V i sz dC dI cA s R B1 B2 g H locs cells slots) {n : Fin 2} (hdc : am_dc P pc = some (.lconst n)) (hr : am_GR Go CQ P Q (am_S P (.lconst n) pc L st g)) : W p l e R s m args below meth c H locs cells slots (am_Z i sz dC dI cA s below B1 B2 Q) (F0 m pc ls (st.map (am_v i))) := by
  exact lv_lconst hx.1 hx.2.1 (am_dcK (k := 1) hdc fun _ => rfl) rfl (hG _ hr _ _ _ _ _ hL hV)
theorem am_s_fconst (hx : am_Ctx i sz dC dI cA d P p R s m args meth c) (hG : ∀ f, Go f → am_Go i sz dC dI cA P p l e R s m args below meth c B1 B2 Q f) (hL : am_LR i L ls (am_m P)) (hV : am_V i sz dC dI cA s R B1 B2 g H locs cells slots) {n : Fin 3} (hdc : am_dc P pc = some (.fconst n)) (hr : am_GR Go CQ P Q (am_S P (.fconst n) pc L st g)) : W p l e R s m args below meth c H locs cells slots (am_Z i sz dC dI cA s below B1 B2 Q) (F0 m pc ls (st.map (am_v i))) := by
  unfold am_S at hr; dsimp only at hr
  split at hr <;> rename_i e0
  · subst e0
    exact lv_fconst0 hx.1 hx.2.1 (am_dcK (k := 1) hdc fun _ => rfl) (hG _ hr _ _ _ _ _ hL hV)
  · exact hr.elim
theorem am_s_iload_n (hx : am_Ctx i sz dC dI cA d P p R s m args meth c) (hG : ∀ f, Go f → am_Go i sz dC dI cA P p l e R s m args below meth c B1 B2 Q f) (hL : am_LR i L ls (am_m P)) (hV : am_V i sz dC dI cA s R B1 B2 g H locs cells slots) {k : Fin 4} (hdc : am_dc P pc = some (.iload_n k)) (hr : am_GR Go CQ P Q (am_S P (.iload_n k) pc L st g)) : W p l e R s m args below meth c H locs cells slots (am_Z i sz dC dI cA s below B1 B2 Q) (F0 m pc ls (st.map (am_v i))) := by
  unfold am_S at hr; dsimp only at hr
  unfold am_ldI at hr
  split at hr <;> rename_i e0
  · exact lv_iload_n hx.1 hx.2.1 (am_dcK (k := 1) hdc fun _ => rfl) rfl (hL.at e0) (hG _ hr _ _ _ _ _ hL hV)
  · exact hr.elim
theorem am_s_iload (hx : am_Ctx i sz dC dI cA d P p R s m args meth c) (hG : ∀ f, Go f → am_Go i sz dC dI cA P p l e R s m args below meth c B1 B2 Q f) (hL : am_LR i L ls (am_m P)) (hV : am_V i sz dC dI cA s R B1 B2 g H locs cells slots) {k : Nat} (hdc : am_dc P pc = some (.iload k)) (hr : am_GR Go CQ P Q (am_S P (.iload k) pc L st g)) : W p l e R s m args below meth c H locs cells slots (am_Z i sz dC dI cA s below B1 B2 Q) (F0 m pc ls (st.map (am_v i))) := by
  unfold am_S at hr; dsimp only at hr
  unfold am_ldI at hr
  split at hr <;> rename_i e0
  · exact lv_iload hx.1 hx.2.1 (am_dcK (k := 2) hdc fun _ => rfl) (hL.at e0) (hG _ hr _ _ _ _ _ hL hV)
  · exact hr.elim
theorem am_s_lload_n (hx : am_Ctx i sz dC dI cA d P p R s m args meth c) (hG : ∀ f, Go f → am_Go i sz dC dI cA P p l e R s m args below meth c B1 B2 Q f) (hL : am_LR i L ls (am_m P)) (hV : am_V i sz dC dI cA s R B1 B2 g H locs cells slots) {k : Fin 4} (hdc : am_dc P pc = some (.lload_n k)) (hr : am_GR Go CQ P Q (am_S P (.lload_n k) pc L st g)) : W p l e R s m args below meth c H locs cells slots (am_Z i sz dC dI cA s below B1 B2 Q) (F0 m pc ls (st.map (am_v i))) := by
  unfold am_S at hr; dsimp only at hr
  unfold am_ldL at hr
  split at hr <;> rename_i e0
  · exact lv_lload_n hx.1 hx.2.1 (am_dcK (k := 1) hdc fun _ => rfl) rfl (hL.at e0) (hG _ hr _ _ _ _ _ hL hV)
  · exact hr.elim
theorem am_s_lload (hx : am_Ctx i sz dC dI cA d P p R s m args meth c) (hG : ∀ f, Go f → am_Go i sz dC dI cA P p l e R s m args below meth c B1 B2 Q f) (hL : am_LR i L ls (am_m P)) (hV : am_V i sz dC dI cA s R B1 B2 g H locs cells slots) {k : Nat} (hdc : am_dc P pc = some (.lload k)) (hr : am_GR Go CQ P Q (am_S P (.lload k) pc L st g)) : W p l e R s m args below meth c H locs cells slots (am_Z i sz dC dI cA s below B1 B2 Q) (F0 m pc ls (st.map (am_v i))) := by
  unfold am_S at hr; dsimp only at hr
  unfold am_ldL at hr
  split at hr <;> rename_i e0
  · exact lv_lload hx.1 hx.2.1 (am_dcK (k := 2) hdc fun _ => rfl) (hL.at e0) (hG _ hr _ _ _ _ _ hL hV)
  · exact hr.elim
theorem am_s_fload_n (hx : am_Ctx i sz dC dI cA d P p R s m args meth c) (hG : ∀ f, Go f → am_Go i sz dC dI cA P p l e R s m args below meth c B1 B2 Q f) (hL : am_LR i L ls (am_m P)) (hV : am_V i sz dC dI cA s R B1 B2 g H locs cells slots) {k : Fin 4} (hdc : am_dc P pc = some (.fload_n k)) (hr : am_GR Go CQ P Q (am_S P (.fload_n k) pc L st g)) : W p l e R s m args below meth c H locs cells slots (am_Z i sz dC dI cA s below B1 B2 Q) (F0 m pc ls (st.map (am_v i))) := by
  unfold am_S at hr; dsimp only at hr
  unfold am_ldF at hr
  split at hr <;> rename_i e0
  · exact lv_fload_n hx.1 hx.2.1 (am_dcK (k := 1) hdc fun _ => rfl) rfl (hL.at e0) (hG _ hr _ _ _ _ _ hL hV)
  · exact hr.elim
theorem am_s_fload (hx : am_Ctx i sz dC dI cA d P p R s m args meth c) (hG : ∀ f, Go f → am_Go i sz dC dI cA P p l e R s m args below meth c B1 B2 Q f) (hL : am_LR i L ls (am_m P)) (hV : am_V i sz dC dI cA s R B1 B2 g H locs cells slots) {k : Nat} (hdc : am_dc P pc = some (.fload k)) (hr : am_GR Go CQ P Q (am_S P (.fload k) pc L st g)) : W p l e R s m args below meth c H locs cells slots (am_Z i sz dC dI cA s below B1 B2 Q) (F0 m pc ls (st.map (am_v i))) := by
  unfold am_S at hr; dsimp only at hr
  unfold am_ldF at hr
  split at hr <;> rename_i e0
  · exact lv_fload hx.1 hx.2.1 (am_dcK (k := 2) hdc fun _ => rfl) (hL.at e0) (hG _ hr _ _ _ _ _ hL hV)
  · exact hr.elim
theorem am_s_aload_n (hx : am_Ctx i sz dC dI cA d P p R s m args meth c) (hG : ∀ f, Go f → am_Go i sz dC dI cA P p l e R s m args below meth c B1 B2 Q f) (hL : am_LR i L ls (am_m P)) (hV : am_V i sz dC dI cA s R B1 B2 g H locs cells slots) {k : Fin 4} (hdc : am_dc P pc = some (.aload_n k)) (hr : am_GR Go CQ P Q (am_S P (.aload_n k) pc L st g)) : W p l e R s m args below meth c H locs cells slots (am_Z i sz dC dI cA s below B1 B2 Q) (F0 m pc ls (st.map (am_v i))) := by
  unfold am_S at hr; dsimp only at hr
  unfold am_ldA at hr
  split at hr <;> rename_i e0
  · exact lv_aload_n hx.1 hx.2.1 (am_dcK (k := 1) hdc fun _ => rfl) rfl (hL.at e0) (hG _ hr _ _ _ _ _ hL hV)
  · exact hr.elim
theorem am_s_aload (hx : am_Ctx i sz dC dI cA d P p R s m args meth c) (hG : ∀ f, Go f → am_Go i sz dC dI cA P p l e R s m args below meth c B1 B2 Q f) (hL : am_LR i L ls (am_m P)) (hV : am_V i sz dC dI cA s R B1 B2 g H locs cells slots) {k : Nat} (hdc : am_dc P pc = some (.aload k)) (hr : am_GR Go CQ P Q (am_S P (.aload k) pc L st g)) : W p l e R s m args below meth c H locs cells slots (am_Z i sz dC dI cA s below B1 B2 Q) (F0 m pc ls (st.map (am_v i))) := by
  unfold am_S at hr; dsimp only at hr
  unfold am_ldA at hr
  split at hr <;> rename_i e0
  · exact lv_aload hx.1 hx.2.1 (am_dcK (k := 2) hdc fun _ => rfl) (hL.at e0) (hG _ hr _ _ _ _ _ hL hV)
  · exact hr.elim
theorem am_s_istore_n (hx : am_Ctx i sz dC dI cA d P p R s m args meth c) (hG : ∀ f, Go f → am_Go i sz dC dI cA P p l e R s m args below meth c B1 B2 Q f) (hL : am_LR i L ls (am_m P)) (hV : am_V i sz dC dI cA s R B1 B2 g H locs cells slots) {k : Fin 4} (hdc : am_dc P pc = some (.istore_n k)) (hr : am_GR Go CQ P Q (am_S P (.istore_n k) pc L st g)) : W p l e R s m args below meth c H locs cells slots (am_Z i sz dC dI cA s below B1 B2 Q) (F0 m pc ls (st.map (am_v i))) := by
  unfold am_S at hr; dsimp only at hr
  unfold am_stI at hr
  split at hr
  · rename_i x r
    split at hr <;> rename_i e0
    · obtain ⟨hl, lv, h1, h2⟩ := hL
      exact lv_istore_n hx.1 hx.2.1 (am_dcK (k := 1) hdc fun _ => rfl) rfl h1 (by rw [← hl]; exact e0) rfl fun ls' h' => hG _ hr _ _ _ _ _ (am_LR.s1 (v := .int x) hl h2 h') hV
    · exact hr.elim
  · exact hr.elim
theorem am_s_istore (hx : am_Ctx i sz dC dI cA d P p R s m args meth c) (hG : ∀ f, Go f → am_Go i sz dC dI cA P p l e R s m args below meth c B1 B2 Q f) (hL : am_LR i L ls (am_m P)) (hV : am_V i sz dC dI cA s R B1 B2 g H locs cells slots) {k : Nat} (hdc : am_dc P pc = some (.istore k)) (hr : am_GR Go CQ P Q (am_S P (.istore k) pc L st g)) : W p l e R s m args below meth c H locs cells slots (am_Z i sz dC dI cA s below B1 B2 Q) (F0 m pc ls (st.map (am_v i))) := by
  unfold am_S at hr; dsimp only at hr
  unfold am_stI at hr
  split at hr
  · rename_i x r
    split at hr <;> rename_i e0
    · obtain ⟨hl, lv, h1, h2⟩ := hL
      exact lv_istore hx.1 hx.2.1 (am_dcK (k := 2) hdc fun _ => rfl) h1 (by rw [← hl]; exact e0) rfl fun ls' h' => hG _ hr _ _ _ _ _ (am_LR.s1 (v := .int x) hl h2 h') hV
    · exact hr.elim
  · exact hr.elim
theorem am_s_lstore_n (hx : am_Ctx i sz dC dI cA d P p R s m args meth c) (hG : ∀ f, Go f → am_Go i sz dC dI cA P p l e R s m args below meth c B1 B2 Q f) (hL : am_LR i L ls (am_m P)) (hV : am_V i sz dC dI cA s R B1 B2 g H locs cells slots) {k : Fin 4} (hdc : am_dc P pc = some (.lstore_n k)) (hr : am_GR Go CQ P Q (am_S P (.lstore_n k) pc L st g)) : W p l e R s m args below meth c H locs cells slots (am_Z i sz dC dI cA s below B1 B2 Q) (F0 m pc ls (st.map (am_v i))) := by
  unfold am_S at hr; dsimp only at hr
  unfold am_stL at hr
  split at hr
  · rename_i x r
    split at hr <;> rename_i e0
    · obtain ⟨hl, lv, h1, h2⟩ := hL
      exact lv_lstore_n hx.1 hx.2.1 (am_dcK (k := 1) hdc fun _ => rfl) rfl h1 (by rw [← hl]; exact e0) rfl fun ls' h' => hG _ hr _ _ _ _ _ (am_LR.s2 (v := .long x) hl h2 h') hV
    · exact hr.elim
  · exact hr.elim
theorem am_s_lstore (hx : am_Ctx i sz dC dI cA d P p R s m args meth c) (hG : ∀ f, Go f → am_Go i sz dC dI cA P p l e R s m args below meth c B1 B2 Q f) (hL : am_LR i L ls (am_m P)) (hV : am_V i sz dC dI cA s R B1 B2 g H locs cells slots) {k : Nat} (hdc : am_dc P pc = some (.lstore k)) (hr : am_GR Go CQ P Q (am_S P (.lstore k) pc L st g)) : W p l e R s m args below meth c H locs cells slots (am_Z i sz dC dI cA s below B1 B2 Q) (F0 m pc ls (st.map (am_v i))) := by
  unfold am_S at hr; dsimp only at hr
  unfold am_stL at hr
  split at hr
  · rename_i x r
    split at hr <;> rename_i e0
    · obtain ⟨hl, lv, h1, h2⟩ := hL
      exact lv_lstore hx.1 hx.2.1 (am_dcK (k := 2) hdc fun _ => rfl) h1 (by rw [← hl]; exact e0) rfl fun ls' h' => hG _ hr _ _ _ _ _ (am_LR.s2 (v := .long x) hl h2 h') hV
    · exact hr.elim
  · exact hr.elim
theorem am_s_fstore_n (hx : am_Ctx i sz dC dI cA d P p R s m args meth c) (hG : ∀ f, Go f → am_Go i sz dC dI cA P p l e R s m args below meth c B1 B2 Q f) (hL : am_LR i L ls (am_m P)) (hV : am_V i sz dC dI cA s R B1 B2 g H locs cells slots) {k : Fin 4} (hdc : am_dc P pc = some (.fstore_n k)) (hr : am_GR Go CQ P Q (am_S P (.fstore_n k) pc L st g)) : W p l e R s m args below meth c H locs cells slots (am_Z i sz dC dI cA s below B1 B2 Q) (F0 m pc ls (st.map (am_v i))) := by
  unfold am_S at hr; dsimp only at hr
  unfold am_stF at hr
  split at hr
  · rename_i x r
    split at hr <;> rename_i e0
    · obtain ⟨hl, lv, h1, h2⟩ := hL
      exact lv_fstore_n hx.1 hx.2.1 (am_dcK (k := 1) hdc fun _ => rfl) rfl h1 (by rw [← hl]; exact e0) rfl fun ls' h' => hG _ hr _ _ _ _ _ (am_LR.s1 (v := .float x) hl h2 h') hV
    · exact hr.elim
  · exact hr.elim
theorem am_s_fstore (hx : am_Ctx i sz dC dI cA d P p R s m args meth c) (hG : ∀ f, Go f → am_Go i sz dC dI cA P p l e R s m args below meth c B1 B2 Q f) (hL : am_LR i L ls (am_m P)) (hV : am_V i sz dC dI cA s R B1 B2 g H locs cells slots) {k : Nat} (hdc : am_dc P pc = some (.fstore k)) (hr : am_GR Go CQ P Q (am_S P (.fstore k) pc L st g)) : W p l e R s m args below meth c H locs cells slots (am_Z i sz dC dI cA s below B1 B2 Q) (F0 m pc ls (st.map (am_v i))) := by
  unfold am_S at hr; dsimp only at hr
  unfold am_stF at hr
  split at hr
  · rename_i x r
    split at hr <;> rename_i e0
    · obtain ⟨hl, lv, h1, h2⟩ := hL
      exact lv_fstore hx.1 hx.2.1 (am_dcK (k := 2) hdc fun _ => rfl) h1 (by rw [← hl]; exact e0) rfl fun ls' h' => hG _ hr _ _ _ _ _ (am_LR.s1 (v := .float x) hl h2 h') hV
    · exact hr.elim
  · exact hr.elim
theorem am_s_astore_n (hx : am_Ctx i sz dC dI cA d P p R s m args meth c) (hG : ∀ f, Go f → am_Go i sz dC dI cA P p l e R s m args below meth c B1 B2 Q f) (hL : am_LR i L ls (am_m P)) (hV : am_V i sz dC dI cA s R B1 B2 g H locs cells slots) {k : Fin 4} (hdc : am_dc P pc = some (.astore_n k)) (hr : am_GR Go CQ P Q (am_S P (.astore_n k) pc L st g)) : W p l e R s m args below meth c H locs cells slots (am_Z i sz dC dI cA s below B1 B2 Q) (F0 m pc ls (st.map (am_v i))) := by
  unfold am_S at hr; dsimp only at hr
  unfold am_stA at hr
  split at hr
  · rename_i x r
    split at hr <;> rename_i e0
    · obtain ⟨hl, lv, h1, h2⟩ := hL
      exact lv_astore_n hx.1 hx.2.1 (am_dcK (k := 1) hdc fun _ => rfl) rfl h1 (by rw [← hl]; exact e0) rfl fun ls' h' => hG _ hr _ _ _ _ _ (am_LR.s1 (v := .ref x) hl h2 h') hV
    · exact hr.elim
  · exact hr.elim
theorem am_s_astore (hx : am_Ctx i sz dC dI cA d P p R s m args meth c) (hG : ∀ f, Go f → am_Go i sz dC dI cA P p l e R s m args below meth c B1 B2 Q f) (hL : am_LR i L ls (am_m P)) (hV : am_V i sz dC dI cA s R B1 B2 g H locs cells slots) {k : Nat} (hdc : am_dc P pc = some (.astore k)) (hr : am_GR Go CQ P Q (am_S P (.astore k) pc L st g)) : W p l e R s m args below meth c H locs cells slots (am_Z i sz dC dI cA s below B1 B2 Q) (F0 m pc ls (st.map (am_v i))) := by
  unfold am_S at hr; dsimp only at hr
  unfold am_stA at hr
  split at hr
  · rename_i x r
    split at hr <;> rename_i e0
    · obtain ⟨hl, lv, h1, h2⟩ := hL
      exact lv_astore hx.1 hx.2.1 (am_dcK (k := 2) hdc fun _ => rfl) h1 (by rw [← hl]; exact e0) rfl fun ls' h' => hG _ hr _ _ _ _ _ (am_LR.s1 (v := .ref x) hl h2 h') hV
    · exact hr.elim
  · exact hr.elim
theorem am_s_iinc (hx : am_Ctx i sz dC dI cA d P p R s m args meth c) (hG : ∀ f, Go f → am_Go i sz dC dI cA P p l e R s m args below meth c B1 B2 Q f) (hL : am_LR i L ls (am_m P)) (hV : am_V i sz dC dI cA s R B1 B2 g H locs cells slots) {k : Nat} {n : Int} (hdc : am_dc P pc = some (.iinc k n)) (hr : am_GR Go CQ P Q (am_S P (.iinc k n) pc L st g)) : W p l e R s m args below meth c H locs cells slots (am_Z i sz dC dI cA s below B1 B2 Q) (F0 m pc ls (st.map (am_v i))) := by
  unfold am_S at hr; dsimp only at hr
  split at hr <;> rename_i e0
  · rename_i x
    split at hr <;> rename_i e1
    · obtain ⟨hl, lv, h1, h2⟩ := hL
      obtain ⟨j, hj⟩ := List.getElem?_of_mem (h2 _ _ e0)
      exact lv_iinc hx.1 hx.2.1 (am_dcK (k := 3) hdc fun _ => rfl) h1 (k := j) (x := x) hj rfl (by rw [← hl]; exact e1) rfl fun ls' h' => hG _ hr _ _ _ _ _ (am_LR.s1 (v := .int (x + Int32.ofInt n)) hl h2 h') hV
    · exact hr.elim
  · exact hr.elim
theorem am_s_iadd (hx : am_Ctx i sz dC dI cA d P p R s m args meth c) (hG : ∀ f, Go f → am_Go i sz dC dI cA P p l e R s m args below meth c B1 B2 Q f) (hL : am_LR i L ls (am_m P)) (hV : am_V i sz dC dI cA s R B1 B2 g H locs cells slots)  (hdc : am_dc P pc = some (.iadd)) (hr : am_GR Go CQ P Q (am_S P (.iadd) pc L st g)) : W p l e R s m args below meth c H locs cells slots (am_Z i sz dC dI cA s below B1 B2 Q) (F0 m pc ls (st.map (am_v i))) := by
  unfold am_S at hr; dsimp only at hr
  unfold am_ii at hr
  split at hr
  · exact lv_iadd hx.1 hx.2.1 (am_dcK (k := 1) hdc fun _ => rfl) (hG _ hr _ _ _ _ _ hL hV)
  · exact hr.elim
theorem am_s_isub (hx : am_Ctx i sz dC dI cA d P p R s m args meth c) (hG : ∀ f, Go f → am_Go i sz dC dI cA P p l e R s m args below meth c B1 B2 Q f) (hL : am_LR i L ls (am_m P)) (hV : am_V i sz dC dI cA s R B1 B2 g H locs cells slots)  (hdc : am_dc P pc = some (.isub)) (hr : am_GR Go CQ P Q (am_S P (.isub) pc L st g)) : W p l e R s m args below meth c H locs cells slots (am_Z i sz dC dI cA s below B1 B2 Q) (F0 m pc ls (st.map (am_v i))) := by
  unfold am_S at hr; dsimp only at hr
  unfold am_ii at hr
  split at hr
  · exact lv_isub hx.1 hx.2.1 (am_dcK (k := 1) hdc fun _ => rfl) (hG _ hr _ _ _ _ _ hL hV)
  · exact hr.elim
theorem am_s_imul (hx : am_Ctx i sz dC dI cA d P p R s m args meth c) (hG : ∀ f, Go f → am_Go i sz dC dI cA P p l e R s m args below meth c B1 B2 Q f) (hL : am_LR i L ls (am_m P)) (hV : am_V i sz dC dI cA s R B1 B2 g H locs cells slots)  (hdc : am_dc P pc = some (.imul)) (hr : am_GR Go CQ P Q (am_S P (.imul) pc L st g)) : W p l e R s m args below meth c H locs cells slots (am_Z i sz dC dI cA s below B1 B2 Q) (F0 m pc ls (st.map (am_v i))) := by
  unfold am_S at hr; dsimp only at hr
  unfold am_ii at hr
  split at hr
  · exact lv_imul hx.1 hx.2.1 (am_dcK (k := 1) hdc fun _ => rfl) (hG _ hr _ _ _ _ _ hL hV)
  · exact hr.elim
theorem am_s_iand (hx : am_Ctx i sz dC dI cA d P p R s m args meth c) (hG : ∀ f, Go f → am_Go i sz dC dI cA P p l e R s m args below meth c B1 B2 Q f) (hL : am_LR i L ls (am_m P)) (hV : am_V i sz dC dI cA s R B1 B2 g H locs cells slots)  (hdc : am_dc P pc = some (.iand)) (hr : am_GR Go CQ P Q (am_S P (.iand) pc L st g)) : W p l e R s m args below meth c H locs cells slots (am_Z i sz dC dI cA s below B1 B2 Q) (F0 m pc ls (st.map (am_v i))) := by
  unfold am_S at hr; dsimp only at hr
  unfold am_ii at hr
  split at hr
  · exact lv_iand hx.1 hx.2.1 (am_dcK (k := 1) hdc fun _ => rfl) (hG _ hr _ _ _ _ _ hL hV)
  · exact hr.elim
theorem am_s_ishl (hx : am_Ctx i sz dC dI cA d P p R s m args meth c) (hG : ∀ f, Go f → am_Go i sz dC dI cA P p l e R s m args below meth c B1 B2 Q f) (hL : am_LR i L ls (am_m P)) (hV : am_V i sz dC dI cA s R B1 B2 g H locs cells slots)  (hdc : am_dc P pc = some (.ishl)) (hr : am_GR Go CQ P Q (am_S P (.ishl) pc L st g)) : W p l e R s m args below meth c H locs cells slots (am_Z i sz dC dI cA s below B1 B2 Q) (F0 m pc ls (st.map (am_v i))) := by
  unfold am_S at hr; dsimp only at hr
  unfold am_ii at hr
  split at hr
  · exact lv_ishl hx.1 hx.2.1 (am_dcK (k := 1) hdc fun _ => rfl) (hG _ hr _ _ _ _ _ hL hV)
  · exact hr.elim
theorem am_s_ishr (hx : am_Ctx i sz dC dI cA d P p R s m args meth c) (hG : ∀ f, Go f → am_Go i sz dC dI cA P p l e R s m args below meth c B1 B2 Q f) (hL : am_LR i L ls (am_m P)) (hV : am_V i sz dC dI cA s R B1 B2 g H locs cells slots)  (hdc : am_dc P pc = some (.ishr)) (hr : am_GR Go CQ P Q (am_S P (.ishr) pc L st g)) : W p l e R s m args below meth c H locs cells slots (am_Z i sz dC dI cA s below B1 B2 Q) (F0 m pc ls (st.map (am_v i))) := by
  unfold am_S at hr; dsimp only at hr
  unfold am_ii at hr
  split at hr
  · exact lv_ishr hx.1 hx.2.1 (am_dcK (k := 1) hdc fun _ => rfl) (hG _ hr _ _ _ _ _ hL hV)
  · exact hr.elim
theorem am_s_ladd (hx : am_Ctx i sz dC dI cA d P p R s m args meth c) (hG : ∀ f, Go f → am_Go i sz dC dI cA P p l e R s m args below meth c B1 B2 Q f) (hL : am_LR i L ls (am_m P)) (hV : am_V i sz dC dI cA s R B1 B2 g H locs cells slots)  (hdc : am_dc P pc = some (.ladd)) (hr : am_GR Go CQ P Q (am_S P (.ladd) pc L st g)) : W p l e R s m args below meth c H locs cells slots (am_Z i sz dC dI cA s below B1 B2 Q) (F0 m pc ls (st.map (am_v i))) := by
  unfold am_S at hr; dsimp only at hr
  unfold am_ll at hr
  split at hr
  · exact lv_ladd hx.1 hx.2.1 (am_dcK (k := 1) hdc fun _ => rfl) (hG _ hr _ _ _ _ _ hL hV)
  · exact hr.elim
theorem am_s_lsub (hx : am_Ctx i sz dC dI cA d P p R s m args meth c) (hG : ∀ f, Go f → am_Go i sz dC dI cA P p l e R s m args below meth c B1 B2 Q f) (hL : am_LR i L ls (am_m P)) (hV : am_V i sz dC dI cA s R B1 B2 g H locs cells slots)  (hdc : am_dc P pc = some (.lsub)) (hr : am_GR Go CQ P Q (am_S P (.lsub) pc L st g)) : W p l e R s m args below meth c H locs cells slots (am_Z i sz dC dI cA s below B1 B2 Q) (F0 m pc ls (st.map (am_v i))) := by
  unfold am_S at hr; dsimp only at hr
  unfold am_ll at hr
  split at hr
  · exact lv_lsub hx.1 hx.2.1 (am_dcK (k := 1) hdc fun _ => rfl) (hG _ hr _ _ _ _ _ hL hV)
  · exact hr.elim
theorem am_s_lmul (hx : am_Ctx i sz dC dI cA d P p R s m args meth c) (hG : ∀ f, Go f → am_Go i sz dC dI cA P p l e R s m args below meth c B1 B2 Q f) (hL : am_LR i L ls (am_m P)) (hV : am_V i sz dC dI cA s R B1 B2 g H locs cells slots)  (hdc : am_dc P pc = some (.lmul)) (hr : am_GR Go CQ P Q (am_S P (.lmul) pc L st g)) : W p l e R s m args below meth c H locs cells slots (am_Z i sz dC dI cA s below B1 B2 Q) (F0 m pc ls (st.map (am_v i))) := by
  unfold am_S at hr; dsimp only at hr
  unfold am_ll at hr
  split at hr
  · exact lv_lmul hx.1 hx.2.1 (am_dcK (k := 1) hdc fun _ => rfl) (hG _ hr _ _ _ _ _ hL hV)
  · exact hr.elim
theorem am_s_idiv (hx : am_Ctx i sz dC dI cA d P p R s m args meth c) (hG : ∀ f, Go f → am_Go i sz dC dI cA P p l e R s m args below meth c B1 B2 Q f) (hL : am_LR i L ls (am_m P)) (hV : am_V i sz dC dI cA s R B1 B2 g H locs cells slots)  (hdc : am_dc P pc = some (.idiv)) (hr : am_GR Go CQ P Q (am_S P (.idiv) pc L st g)) : W p l e R s m args below meth c H locs cells slots (am_Z i sz dC dI cA s below B1 B2 Q) (F0 m pc ls (st.map (am_v i))) := by
  unfold am_S at hr; dsimp only at hr
  unfold am_dd at hr
  split at hr
  · split at hr <;> rename_i e0
    · exact hr.elim
    · exact lv_idiv hx.1 hx.2.1 (am_dcK (k := 1) hdc fun _ => rfl) e0 (hG _ hr _ _ _ _ _ hL hV)
  · exact hr.elim
theorem am_s_irem (hx : am_Ctx i sz dC dI cA d P p R s m args meth c) (hG : ∀ f, Go f → am_Go i sz dC dI cA P p l e R s m args below meth c B1 B2 Q f) (hL : am_LR i L ls (am_m P)) (hV : am_V i sz dC dI cA s R B1 B2 g H locs cells slots)  (hdc : am_dc P pc = some (.irem)) (hr : am_GR Go CQ P Q (am_S P (.irem) pc L st g)) : W p l e R s m args below meth c H locs cells slots (am_Z i sz dC dI cA s below B1 B2 Q) (F0 m pc ls (st.map (am_v i))) := by
  unfold am_S at hr; dsimp only at hr
  unfold am_dd at hr
  split at hr
  · split at hr <;> rename_i e0
    · exact hr.elim
    · exact lv_irem hx.1 hx.2.1 (am_dcK (k := 1) hdc fun _ => rfl) e0 (hG _ hr _ _ _ _ _ hL hV)
  · exact hr.elim
theorem am_s_ldiv (hx : am_Ctx i sz dC dI cA d P p R s m args meth c) (hG : ∀ f, Go f → am_Go i sz dC dI cA P p l e R s m args below meth c B1 B2 Q f) (hL : am_LR i L ls (am_m P)) (hV : am_V i sz dC dI cA s R B1 B2 g H locs cells slots)  (hdc : am_dc P pc = some (.ldiv)) (hr : am_GR Go CQ P Q (am_S P (.ldiv) pc L st g)) : W p l e R s m args below meth c H locs cells slots (am_Z i sz dC dI cA s below B1 B2 Q) (F0 m pc ls (st.map (am_v i))) := by
  unfold am_S at hr; dsimp only at hr
  unfold am_ld2 at hr
  split at hr
  · split at hr <;> rename_i e0
    · exact hr.elim
    · exact lv_ldiv hx.1 hx.2.1 (am_dcK (k := 1) hdc fun _ => rfl) e0 (hG _ hr _ _ _ _ _ hL hV)
  · exact hr.elim
theorem am_s_lrem (hx : am_Ctx i sz dC dI cA d P p R s m args meth c) (hG : ∀ f, Go f → am_Go i sz dC dI cA P p l e R s m args below meth c B1 B2 Q f) (hL : am_LR i L ls (am_m P)) (hV : am_V i sz dC dI cA s R B1 B2 g H locs cells slots)  (hdc : am_dc P pc = some (.lrem)) (hr : am_GR Go CQ P Q (am_S P (.lrem) pc L st g)) : W p l e R s m args below meth c H locs cells slots (am_Z i sz dC dI cA s below B1 B2 Q) (F0 m pc ls (st.map (am_v i))) := by
  unfold am_S at hr; dsimp only at hr
  unfold am_ld2 at hr
  split at hr
  · split at hr <;> rename_i e0
    · exact hr.elim
    · exact lv_lrem hx.1 hx.2.1 (am_dcK (k := 1) hdc fun _ => rfl) e0 (hG _ hr _ _ _ _ _ hL hV)
  · exact hr.elim
theorem am_s_ineg (hx : am_Ctx i sz dC dI cA d P p R s m args meth c) (hG : ∀ f, Go f → am_Go i sz dC dI cA P p l e R s m args below meth c B1 B2 Q f) (hL : am_LR i L ls (am_m P)) (hV : am_V i sz dC dI cA s R B1 B2 g H locs cells slots)  (hdc : am_dc P pc = some (.ineg)) (hr : am_GR Go CQ P Q (am_S P (.ineg) pc L st g)) : W p l e R s m args below meth c H locs cells slots (am_Z i sz dC dI cA s below B1 B2 Q) (F0 m pc ls (st.map (am_v i))) := by
  unfold am_S at hr; dsimp only at hr
  split at hr
  · exact lv_ineg hx.1 hx.2.1 (am_dcK (k := 1) hdc fun _ => rfl) (hG _ hr _ _ _ _ _ hL hV)
  · exact hr.elim
theorem am_s_lneg (hx : am_Ctx i sz dC dI cA d P p R s m args meth c) (hG : ∀ f, Go f → am_Go i sz dC dI cA P p l e R s m args below meth c B1 B2 Q f) (hL : am_LR i L ls (am_m P)) (hV : am_V i sz dC dI cA s R B1 B2 g H locs cells slots)  (hdc : am_dc P pc = some (.lneg)) (hr : am_GR Go CQ P Q (am_S P (.lneg) pc L st g)) : W p l e R s m args below meth c H locs cells slots (am_Z i sz dC dI cA s below B1 B2 Q) (F0 m pc ls (st.map (am_v i))) := by
  unfold am_S at hr; dsimp only at hr
  split at hr
  · exact lv_lneg hx.1 hx.2.1 (am_dcK (k := 1) hdc fun _ => rfl) (hG _ hr _ _ _ _ _ hL hV)
  · exact hr.elim
theorem am_s_lcmp (hx : am_Ctx i sz dC dI cA d P p R s m args meth c) (hG : ∀ f, Go f → am_Go i sz dC dI cA P p l e R s m args below meth c B1 B2 Q f) (hL : am_LR i L ls (am_m P)) (hV : am_V i sz dC dI cA s R B1 B2 g H locs cells slots)  (hdc : am_dc P pc = some (.lcmp)) (hr : am_GR Go CQ P Q (am_S P (.lcmp) pc L st g)) : W p l e R s m args below meth c H locs cells slots (am_Z i sz dC dI cA s below B1 B2 Q) (F0 m pc ls (st.map (am_v i))) := by
  unfold am_S at hr; dsimp only at hr
  split at hr
  · exact W.lcmp hx.1 hx.2.1 (am_dcK (k := 1) hdc fun _ => rfl) (hG _ hr _ _ _ _ _ hL hV)
  · exact hr.elim
theorem am_s_i2l (hx : am_Ctx i sz dC dI cA d P p R s m args meth c) (hG : ∀ f, Go f → am_Go i sz dC dI cA P p l e R s m args below meth c B1 B2 Q f) (hL : am_LR i L ls (am_m P)) (hV : am_V i sz dC dI cA s R B1 B2 g H locs cells slots)  (hdc : am_dc P pc = some (.i2l)) (hr : am_GR Go CQ P Q (am_S P (.i2l) pc L st g)) : W p l e R s m args below meth c H locs cells slots (am_Z i sz dC dI cA s below B1 B2 Q) (F0 m pc ls (st.map (am_v i))) := by
  unfold am_S at hr; dsimp only at hr
  split at hr
  · exact lv_i2l hx.1 hx.2.1 (am_dcK (k := 1) hdc fun _ => rfl) rfl (hG _ hr _ _ _ _ _ hL hV)
  · exact hr.elim
theorem am_s_l2i (hx : am_Ctx i sz dC dI cA d P p R s m args meth c) (hG : ∀ f, Go f → am_Go i sz dC dI cA P p l e R s m args below meth c B1 B2 Q f) (hL : am_LR i L ls (am_m P)) (hV : am_V i sz dC dI cA s R B1 B2 g H locs cells slots)  (hdc : am_dc P pc = some (.l2i)) (hr : am_GR Go CQ P Q (am_S P (.l2i) pc L st g)) : W p l e R s m args below meth c H locs cells slots (am_Z i sz dC dI cA s below B1 B2 Q) (F0 m pc ls (st.map (am_v i))) := by
  unfold am_S at hr; dsimp only at hr
  split at hr
  · exact lv_l2i hx.1 hx.2.1 (am_dcK (k := 1) hdc fun _ => rfl) rfl (hG _ hr _ _ _ _ _ hL hV)
  · exact hr.elim
theorem am_s_i2c (hx : am_Ctx i sz dC dI cA d P p R s m args meth c) (hG : ∀ f, Go f → am_Go i sz dC dI cA P p l e R s m args below meth c B1 B2 Q f) (hL : am_LR i L ls (am_m P)) (hV : am_V i sz dC dI cA s R B1 B2 g H locs cells slots)  (hdc : am_dc P pc = some (.i2c)) (hr : am_GR Go CQ P Q (am_S P (.i2c) pc L st g)) : W p l e R s m args below meth c H locs cells slots (am_Z i sz dC dI cA s below B1 B2 Q) (F0 m pc ls (st.map (am_v i))) := by
  unfold am_S at hr; dsimp only at hr
  split at hr
  · exact lv_i2c hx.1 hx.2.1 (am_dcK (k := 1) hdc fun _ => rfl) rfl (hG _ hr _ _ _ _ _ hL hV)
  · exact hr.elim
theorem am_s_i2b (hx : am_Ctx i sz dC dI cA d P p R s m args meth c) (hG : ∀ f, Go f → am_Go i sz dC dI cA P p l e R s m args below meth c B1 B2 Q f) (hL : am_LR i L ls (am_m P)) (hV : am_V i sz dC dI cA s R B1 B2 g H locs cells slots)  (hdc : am_dc P pc = some (.i2b)) (hr : am_GR Go CQ P Q (am_S P (.i2b) pc L st g)) : W p l e R s m args below meth c H locs cells slots (am_Z i sz dC dI cA s below B1 B2 Q) (F0 m pc ls (st.map (am_v i))) := by
  unfold am_S at hr; dsimp only at hr
  split at hr
  · exact lv_i2b hx.1 hx.2.1 (am_dcK (k := 1) hdc fun _ => rfl) rfl (hG _ hr _ _ _ _ _ hL hV)
  · exact hr.elim
theorem am_s_i2f (hx : am_Ctx i sz dC dI cA d P p R s m args meth c) (hG : ∀ f, Go f → am_Go i sz dC dI cA P p l e R s m args below meth c B1 B2 Q f) (hL : am_LR i L ls (am_m P)) (hV : am_V i sz dC dI cA s R B1 B2 g H locs cells slots)  (hdc : am_dc P pc = some (.i2f)) (hr : am_GR Go CQ P Q (am_S P (.i2f) pc L st g)) : W p l e R s m args below meth c H locs cells slots (am_Z i sz dC dI cA s below B1 B2 Q) (F0 m pc ls (st.map (am_v i))) := by
  unfold am_S at hr; dsimp only at hr
  split at hr
  · exact lv_i2f hx.1 hx.2.1 (am_dcK (k := 1) hdc fun _ => rfl) (hG _ hr _ _ _ _ _ hL hV)
  · exact hr.elim
theorem am_s_f2d (hx : am_Ctx i sz dC dI cA d P p R s m args meth c) (hG : ∀ f, Go f → am_Go i sz dC dI cA P p l e R s m args below meth c B1 B2 Q f) (hL : am_LR i L ls (am_m P)) (hV : am_V i sz dC dI cA s R B1 B2 g H locs cells slots)  (hdc : am_dc P pc = some (.f2d)) (hr : am_GR Go CQ P Q (am_S P (.f2d) pc L st g)) : W p l e R s m args below meth c H locs cells slots (am_Z i sz dC dI cA s below B1 B2 Q) (F0 m pc ls (st.map (am_v i))) := by
  unfold am_S at hr; dsimp only at hr
  split at hr
  · split at hr <;> rename_i e0
    · exact lv_f2d hx.1 hx.2.1 (am_dcK (k := 1) hdc fun _ => rfl) e0 (hG _ hr _ _ _ _ _ hL hV)
    · exact hr.elim
  · exact hr.elim
theorem am_s_fdiv (hx : am_Ctx i sz dC dI cA d P p R s m args meth c) (hG : ∀ f, Go f → am_Go i sz dC dI cA P p l e R s m args below meth c B1 B2 Q f) (hL : am_LR i L ls (am_m P)) (hV : am_V i sz dC dI cA s R B1 B2 g H locs cells slots)  (hdc : am_dc P pc = some (.fdiv)) (hr : am_GR Go CQ P Q (am_S P (.fdiv) pc L st g)) : W p l e R s m args below meth c H locs cells slots (am_Z i sz dC dI cA s below B1 B2 Q) (F0 m pc ls (st.map (am_v i))) := by
  unfold am_S at hr; dsimp only at hr
  split at hr
  · split at hr <;> rename_i e0
    · exact lv_fdiv hx.1 hx.2.1 (am_dcK (k := 1) hdc fun _ => rfl) e0 (hG _ hr _ _ _ _ _ hL hV)
    · exact hr.elim
  · exact hr.elim
theorem am_s_fcmp (hx : am_Ctx i sz dC dI cA d P p R s m args meth c) (hG : ∀ f, Go f → am_Go i sz dC dI cA P p l e R s m args below meth c B1 B2 Q f) (hL : am_LR i L ls (am_m P)) (hV : am_V i sz dC dI cA s R B1 B2 g H locs cells slots) {op : CmpOp} (hdc : am_dc P pc = some (.fcmp op)) (hr : am_GR Go CQ P Q (am_S P (.fcmp op) pc L st g)) : W p l e R s m args below meth c H locs cells slots (am_Z i sz dC dI cA s below B1 B2 Q) (F0 m pc ls (st.map (am_v i))) := by
  unfold am_S at hr; dsimp only at hr
  split at hr
  · exact lv_fcmp hx.1 hx.2.1 (am_dcK (k := 1) hdc fun _ => rfl) (hG _ hr _ _ _ _ _ hL hV)
  · exact hr.elim
theorem am_s_dcmp (hx : am_Ctx i sz dC dI cA d P p R s m args meth c) (hG : ∀ f, Go f → am_Go i sz dC dI cA P p l e R s m args below meth c B1 B2 Q f) (hL : am_LR i L ls (am_m P)) (hV : am_V i sz dC dI cA s R B1 B2 g H locs cells slots) {op : CmpOp} (hdc : am_dc P pc = some (.dcmp op)) (hr : am_GR Go CQ P Q (am_S P (.dcmp op) pc L st g)) : W p l e R s m args below meth c H locs cells slots (am_Z i sz dC dI cA s below B1 B2 Q) (F0 m pc ls (st.map (am_v i))) := by
  unfold am_S at hr; dsimp only at hr
  split at hr
  · exact lv_dcmp hx.1 hx.2.1 (am_dcK (k := 1) hdc fun _ => rfl) (hG _ hr _ _ _ _ _ hL hV)
  · exact hr.elim
theorem am_s_dup (hx : am_Ctx i sz dC dI cA d P p R s m args meth c) (hG : ∀ f, Go f → am_Go i sz dC dI cA P p l e R s m args below meth c B1 B2 Q f) (hL : am_LR i L ls (am_m P)) (hV : am_V i sz dC dI cA s R B1 B2 g H locs cells slots)  (hdc : am_dc P pc = some (.dup)) (hr : am_GR Go CQ P Q (am_S P (.dup) pc L st g)) : W p l e R s m args below meth c H locs cells slots (am_Z i sz dC dI cA s below B1 B2 Q) (F0 m pc ls (st.map (am_v i))) := by
  unfold am_S at hr; dsimp only at hr
  split at hr
  · split at hr <;> rename_i e0
    · exact lv_dup hx.1 hx.2.1 (am_dcK (k := 1) hdc fun _ => rfl) (by rw [am_v_cat]; exact e0) (hG _ hr _ _ _ _ _ hL hV)
    · exact hr.elim
  · exact hr.elim
theorem am_s_dup_x1 (hx : am_Ctx i sz dC dI cA d P p R s m args meth c) (hG : ∀ f, Go f → am_Go i sz dC dI cA P p l e R s m args below meth c B1 B2 Q f) (hL : am_LR i L ls (am_m P)) (hV : am_V i sz dC dI cA s R B1 B2 g H locs cells slots)  (hdc : am_dc P pc = some (.dup_x1)) (hr : am_GR Go CQ P Q (am_S P (.dup_x1) pc L st g)) : W p l e R s m args below meth c H locs cells slots (am_Z i sz dC dI cA s below B1 B2 Q) (F0 m pc ls (st.map (am_v i))) := by
  unfold am_S at hr; dsimp only at hr
  split at hr
  · split at hr <;> rename_i e0
    · exact lv_dup_x1 hx.1 hx.2.1 (am_dcK (k := 1) hdc fun _ => rfl) (by rw [am_v_cat]; exact e0.1) (by rw [am_v_cat]; exact e0.2) (hG _ hr _ _ _ _ _ hL hV)
    · exact hr.elim
  · exact hr.elim
theorem am_s_pop (hx : am_Ctx i sz dC dI cA d P p R s m args meth c) (hG : ∀ f, Go f → am_Go i sz dC dI cA P p l e R s m args below meth c B1 B2 Q f) (hL : am_LR i L ls (am_m P)) (hV : am_V i sz dC dI cA s R B1 B2 g H locs cells slots)  (hdc : am_dc P pc = some (.pop)) (hr : am_GR Go CQ P Q (am_S P (.pop) pc L st g)) : W p l e R s m args below meth c H locs cells slots (am_Z i sz dC dI cA s below B1 B2 Q) (F0 m pc ls (st.map (am_v i))) := by
  unfold am_S at hr; dsimp only at hr
  split at hr
  · split at hr <;> rename_i e0
    · exact lv_pop hx.1 hx.2.1 (am_dcK (k := 1) hdc fun _ => rfl) (by rw [am_v_cat]; exact e0) (hG _ hr _ _ _ _ _ hL hV)
    · exact hr.elim
  · exact hr.elim
theorem am_s_dup2 (hx : am_Ctx i sz dC dI cA d P p R s m args meth c) (hG : ∀ f, Go f → am_Go i sz dC dI cA P p l e R s m args below meth c B1 B2 Q f) (hL : am_LR i L ls (am_m P)) (hV : am_V i sz dC dI cA s R B1 B2 g H locs cells slots)  (hdc : am_dc P pc = some (.dup2)) (hr : am_GR Go CQ P Q (am_S P (.dup2) pc L st g)) : W p l e R s m args below meth c H locs cells slots (am_Z i sz dC dI cA s below B1 B2 Q) (F0 m pc ls (st.map (am_v i))) := by
  unfold am_S at hr; dsimp only at hr
  split at hr
  · split at hr <;> rename_i e0
    · exact lv_dup2_11 hx.1 hx.2.1 (am_dcK (k := 1) hdc fun _ => rfl) (by rw [am_v_cat]; exact e0.1) (by rw [am_v_cat]; exact e0.2) (hG _ hr _ _ _ _ _ hL hV)
    · exact hr.elim
  · exact hr.elim
theorem am_s_goto (hx : am_Ctx i sz dC dI cA d P p R s m args meth c) (hG : ∀ f, Go f → am_Go i sz dC dI cA P p l e R s m args below meth c B1 B2 Q f) (hL : am_LR i L ls (am_m P)) (hV : am_V i sz dC dI cA s R B1 B2 g H locs cells slots) {off : Int} (hdc : am_dc P pc = some (.goto off)) (hr : am_GR Go CQ P Q (am_S P (.goto off) pc L st g)) : W p l e R s m args below meth c H locs cells slots (am_Z i sz dC dI cA s below B1 B2 Q) (F0 m pc ls (st.map (am_v i))) := by
  unfold am_S at hr; dsimp only at hr
  split at hr <;> rename_i e0
  · exact lv_goto hx.1 hx.2.1 (am_dcK (k := 3) hdc fun _ => rfl) (am_jpE e0) (hG _ hr _ _ _ _ _ hL hV)
  · exact hr.elim
theorem am_s_ifnonnull (hx : am_Ctx i sz dC dI cA d P p R s m args meth c) (hG : ∀ f, Go f → am_Go i sz dC dI cA P p l e R s m args below meth c B1 B2 Q f) (hL : am_LR i L ls (am_m P)) (hV : am_V i sz dC dI cA s R B1 B2 g H locs cells slots) {off : Int} (hdc : am_dc P pc = some (.ifnonnull off)) (hr : am_GR Go CQ P Q (am_S P (.ifnonnull off) pc L st g)) : W p l e R s m args below meth c H locs cells slots (am_Z i sz dC dI cA s below B1 B2 Q) (F0 m pc ls (st.map (am_v i))) := by
  unfold am_S at hr; dsimp only at hr
  split at hr
  · split at hr <;> rename_i e0
    · exact lv_ifnonnull hx.1 hx.2.1 (am_dcK (k := 3) hdc fun _ => rfl) (am_jpE e0) (hG _ hr _ _ _ _ _ hL hV)
    · exact hr.elim
  · exact hr.elim
theorem am_s_ifCond_eq (hx : am_Ctx i sz dC dI cA d P p R s m args meth c) (hG : ∀ f, Go f → am_Go i sz dC dI cA P p l e R s m args below meth c B1 B2 Q f) (hL : am_LR i L ls (am_m P)) (hV : am_V i sz dC dI cA s R B1 B2 g H locs cells slots) {off : Int} (hdc : am_dc P pc = some (.ifCond .eq off)) (hr : am_GR Go CQ P Q (am_S P (.ifCond .eq off) pc L st g)) : W p l e R s m args below meth c H locs cells slots (am_Z i sz dC dI cA s below B1 B2 Q) (F0 m pc ls (st.map (am_v i))) := by
  unfold am_S am_cmp at hr; dsimp only at hr
  split at hr
  · split at hr <;> rename_i e0
    · exact lv_if_eq hx.1 hx.2.1 (am_dcK (k := 3) hdc fun _ => rfl) (am_jpE e0) (fun q => hG _ (by rw [if_pos q] at hr; exact hr) _ _ _ _ _ hL hV) (fun q => hG _ (by rw [if_neg q] at hr; exact hr) _ _ _ _ _ hL hV)
    · exact hr.elim
  · exact hr.elim
theorem am_s_ifCond_ne (hx : am_Ctx i sz dC dI cA d P p R s m args meth c) (hG : ∀ f, Go f → am_Go i sz dC dI cA P p l e R s m args below meth c B1 B2 Q f) (hL : am_LR i L ls (am_m P)) (hV : am_V i sz dC dI cA s R B1 B2 g H locs cells slots) {off : Int} (hdc : am_dc P pc = some (.ifCond .ne off)) (hr : am_GR Go CQ P Q (am_S P (.ifCond .ne off) pc L st g)) : W p l e R s m args below meth c H locs cells slots (am_Z i sz dC dI cA s below B1 B2 Q) (F0 m pc ls (st.map (am_v i))) := by
  unfold am_S am_cmp at hr; dsimp only at hr
  split at hr
  · split at hr <;> rename_i e0
    · exact lv_if_ne hx.1 hx.2.1 (am_dcK (k := 3) hdc fun _ => rfl) (am_jpE e0) (fun q => hG _ (by rw [if_neg q] at hr; exact hr) _ _ _ _ _ hL hV) (fun q => hG _ (by rw [if_pos q] at hr; exact hr) _ _ _ _ _ hL hV)
    · exact hr.elim
  · exact hr.elim
theorem am_s_ifCond_lt (hx : am_Ctx i sz dC dI cA d P p R s m args meth c) (hG : ∀ f, Go f → am_Go i sz dC dI cA P p l e R s m args below meth c B1 B2 Q f) (hL : am_LR i L ls (am_m P)) (hV : am_V i sz dC dI cA s R B1 B2 g H locs cells slots) {off : Int} (hdc : am_dc P pc = some (.ifCond .lt off)) (hr : am_GR Go CQ P Q (am_S P (.ifCond .lt off) pc L st g)) : W p l e R s m args below meth c H locs cells slots (am_Z i sz dC dI cA s below B1 B2 Q) (F0 m pc ls (st.map (am_v i))) := by
  unfold am_S am_cmp at hr; dsimp only at hr
  split at hr
  · split at hr <;> rename_i e0
    · exact lv_if_lt hx.1 hx.2.1 (am_dcK (k := 3) hdc fun _ => rfl) (am_jpE e0) (fun q => hG _ (by rw [if_pos q] at hr; exact hr) _ _ _ _ _ hL hV) (fun q => hG _ (by rw [if_neg q] at hr; exact hr) _ _ _ _ _ hL hV)
    · exact hr.elim
  · exact hr.elim
theorem am_s_ifCond_ge (hx : am_Ctx i sz dC dI cA d P p R s m args meth c) (hG : ∀ f, Go f → am_Go i sz dC dI cA P p l e R s m args below meth c B1 B2 Q f) (hL : am_LR i L ls (am_m P)) (hV : am_V i sz dC dI cA s R B1 B2 g H locs cells slots) {off : Int} (hdc : am_dc P pc = some (.ifCond .ge off)) (hr : am_GR Go CQ P Q (am_S P (.ifCond .ge off) pc L st g)) : W p l e R s m args below meth c H locs cells slots (am_Z i sz dC dI cA s below B1 B2 Q) (F0 m pc ls (st.map (am_v i))) := by
  unfold am_S am_cmp at hr; dsimp only at hr
  split at hr
  · split at hr <;> rename_i e0
    · exact lv_if_ge hx.1 hx.2.1 (am_dcK (k := 3) hdc fun _ => rfl) (am_jpE e0) (fun q => hG _ (by rw [if_pos q] at hr; exact hr) _ _ _ _ _ hL hV) (fun q => hG _ (by rw [if_neg q] at hr; exact hr) _ _ _ _ _ hL hV)
    · exact hr.elim
  · exact hr.elim
theorem am_s_ifCond_gt (hx : am_Ctx i sz dC dI cA d P p R s m args meth c) (hG : ∀ f, Go f → am_Go i sz dC dI cA P p l e R s m args below meth c B1 B2 Q f) (hL : am_LR i L ls (am_m P)) (hV : am_V i sz dC dI cA s R B1 B2 g H locs cells slots) {off : Int} (hdc : am_dc P pc = some (.ifCond .gt off)) (hr : am_GR Go CQ P Q (am_S P (.ifCond .gt off) pc L st g)) : W p l e R s m args below meth c H locs cells slots (am_Z i sz dC dI cA s below B1 B2 Q) (F0 m pc ls (st.map (am_v i))) := by
  unfold am_S am_cmp at hr; dsimp only at hr
  split at hr
  · split at hr <;> rename_i e0
    · exact lv_if_gt hx.1 hx.2.1 (am_dcK (k := 3) hdc fun _ => rfl) (am_jpE e0) (fun q => hG _ (by rw [if_pos q] at hr; exact hr) _ _ _ _ _ hL hV) (fun q => hG _ (by rw [if_neg q] at hr; exact hr) _ _ _ _ _ hL hV)
    · exact hr.elim
  · exact hr.elim
theorem am_s_ifCond_le (hx : am_Ctx i sz dC dI cA d P p R s m args meth c) (hG : ∀ f, Go f → am_Go i sz dC dI cA P p l e R s m args below meth c B1 B2 Q f) (hL : am_LR i L ls (am_m P)) (hV : am_V i sz dC dI cA s R B1 B2 g H locs cells slots) {off : Int} (hdc : am_dc P pc = some (.ifCond .le off)) (hr : am_GR Go CQ P Q (am_S P (.ifCond .le off) pc L st g)) : W p l e R s m args below meth c H locs cells slots (am_Z i sz dC dI cA s below B1 B2 Q) (F0 m pc ls (st.map (am_v i))) := by
  unfold am_S am_cmp at hr; dsimp only at hr
  split at hr
  · split at hr <;> rename_i e0
    · exact lv_if_le hx.1 hx.2.1 (am_dcK (k := 3) hdc fun _ => rfl) (am_jpE e0) (fun q => hG _ (by rw [if_pos q] at hr; exact hr) _ _ _ _ _ hL hV) (fun q => hG _ (by rw [if_neg q] at hr; exact hr) _ _ _ _ _ hL hV)
    · exact hr.elim
  · exact hr.elim
theorem am_s_if_icmp_eq (hx : am_Ctx i sz dC dI cA d P p R s m args meth c) (hG : ∀ f, Go f → am_Go i sz dC dI cA P p l e R s m args below meth c B1 B2 Q f) (hL : am_LR i L ls (am_m P)) (hV : am_V i sz dC dI cA s R B1 B2 g H locs cells slots) {off : Int} (hdc : am_dc P pc = some (.if_icmp .eq off)) (hr : am_GR Go CQ P Q (am_S P (.if_icmp .eq off) pc L st g)) : W p l e R s m args below meth c H locs cells slots (am_Z i sz dC dI cA s below B1 B2 Q) (F0 m pc ls (st.map (am_v i))) := by
  unfold am_S am_cmp at hr; dsimp only at hr
  split at hr
  · split at hr <;> rename_i e0
    · exact lv_icmp_eq hx.1 hx.2.1 (am_dcK (k := 3) hdc fun _ => rfl) (am_jpE e0) (fun q => hG _ (by rw [if_pos q] at hr; exact hr) _ _ _ _ _ hL hV) (fun q => hG _ (by rw [if_neg q] at hr; exact hr) _ _ _ _ _ hL hV)
    · exact hr.elim
  · exact hr.elim
theorem am_s_if_icmp_ne (hx : am_Ctx i sz dC dI cA d P p R s m args meth c) (hG : ∀ f, Go f → am_Go i sz dC dI cA P p l e R s m args below meth c B1 B2 Q f) (hL : am_LR i L ls (am_m P)) (hV : am_V i sz dC dI cA s R B1 B2 g H locs cells slots) {off : Int} (hdc : am_dc P pc = some (.if_icmp .ne off)) (hr : am_GR Go CQ P Q (am_S P (.if_icmp .ne off) pc L st g)) : W p l e R s m args below meth c H locs cells slots (am_Z i sz dC dI cA s below B1 B2 Q) (F0 m pc ls (st.map (am_v i))) := by
  unfold am_S am_cmp at hr; dsimp only at hr
  split at hr
  · split at hr <;> rename_i e0
    · exact lv_icmp_ne hx.1 hx.2.1 (am_dcK (k := 3) hdc fun _ => rfl) (am_jpE e0) (fun q => hG _ (by rw [if_neg q] at hr; exact hr) _ _ _ _ _ hL hV) (fun q => hG _ (by rw [if_pos q] at hr; exact hr) _ _ _ _ _ hL hV)
    · exact hr.elim
  · exact hr.elim
theorem am_s_if_icmp_lt (hx : am_Ctx i sz dC dI cA d P p R s m args meth c) (hG : ∀ f, Go f → am_Go i sz dC dI cA P p l e R s m args below meth c B1 B2 Q f) (hL : am_LR i L ls (am_m P)) (hV : am_V i sz dC dI cA s R B1 B2 g H locs cells slots) {off : Int} (hdc : am_dc P pc = some (.if_icmp .lt off)) (hr : am_GR Go CQ P Q (am_S P (.if_icmp .lt off) pc L st g)) : W p l e R s m args below meth c H locs cells slots (am_Z i sz dC dI cA s below B1 B2 Q) (F0 m pc ls (st.map (am_v i))) := by
  unfold am_S am_cmp at hr; dsimp only at hr
  split at hr
  · split at hr <;> rename_i e0
    · exact lv_icmp_lt hx.1 hx.2.1 (am_dcK (k := 3) hdc fun _ => rfl) (am_jpE e0) (fun q => hG _ (by rw [if_pos q] at hr; exact hr) _ _ _ _ _ hL hV) (fun q => hG _ (by rw [if_neg q] at hr; exact hr) _ _ _ _ _ hL hV)
    · exact hr.elim
  · exact hr.elim
theorem am_s_if_icmp_ge (hx : am_Ctx i sz dC dI cA d P p R s m args meth c) (hG : ∀ f, Go f → am_Go i sz dC dI cA P p l e R s m args below meth c B1 B2 Q f) (hL : am_LR i L ls (am_m P)) (hV : am_V i sz dC dI cA s R B1 B2 g H locs cells slots) {off : Int} (hdc : am_dc P pc = some (.if_icmp .ge off)) (hr : am_GR Go CQ P Q (am_S P (.if_icmp .ge off) pc L st g)) : W p l e R s m args below meth c H locs cells slots (am_Z i sz dC dI cA s below B1 B2 Q) (F0 m pc ls (st.map (am_v i))) := by
  unfold am_S am_cmp at hr; dsimp only at hr
  split at hr
  · split at hr <;> rename_i e0
    · exact lv_icmp_ge hx.1 hx.2.1 (am_dcK (k := 3) hdc fun _ => rfl) (am_jpE e0) (fun q => hG _ (by rw [if_pos q] at hr; exact hr) _ _ _ _ _ hL hV) (fun q => hG _ (by rw [if_neg q] at hr; exact hr) _ _ _ _ _ hL hV)
    · exact hr.elim
  · exact hr.elim
theorem am_s_if_icmp_gt (hx : am_Ctx i sz dC dI cA d P p R s m args meth c) (hG : ∀ f, Go f → am_Go i sz dC dI cA P p l e R s m args below meth c B1 B2 Q f) (hL : am_LR i L ls (am_m P)) (hV : am_V i sz dC dI cA s R B1 B2 g H locs cells slots) {off : Int} (hdc : am_dc P pc = some (.if_icmp .gt off)) (hr : am_GR Go CQ P Q (am_S P (.if_icmp .gt off) pc L st g)) : W p l e R s m args below meth c H locs cells slots (am_Z i sz dC dI cA s below B1 B2 Q) (F0 m pc ls (st.map (am_v i))) := by
  unfold am_S am_cmp at hr; dsimp only at hr
  split at hr
  · split at hr <;> rename_i e0
    · exact lv_icmp_gt hx.1 hx.2.1 (am_dcK (k := 3) hdc fun _ => rfl) (am_jpE e0) (fun q => hG _ (by rw [if_pos q] at hr; exact hr) _ _ _ _ _ hL hV) (fun q => hG _ (by rw [if_neg q] at hr; exact hr) _ _ _ _ _ hL hV)
    · exact hr.elim
  · exact hr.elim
theorem am_s_if_icmp_le (hx : am_Ctx i sz dC dI cA d P p R s m args meth c) (hG : ∀ f, Go f → am_Go i sz dC dI cA P p l e R s m args below meth c B1 B2 Q f) (hL : am_LR i L ls (am_m P)) (hV : am_V i sz dC dI cA s R B1 B2 g H locs cells slots) {off : Int} (hdc : am_dc P pc = some (.if_icmp .le off)) (hr : am_GR Go CQ P Q (am_S P (.if_icmp .le off) pc L st g)) : W p l e R s m args below meth c H locs cells slots (am_Z i sz dC dI cA s below B1 B2 Q) (F0 m pc ls (st.map (am_v i))) := by
  unfold am_S am_cmp at hr; dsimp only at hr
  split at hr
  · split at hr <;> rename_i e0
    · exact lv_icmp_le hx.1 hx.2.1 (am_dcK (k := 3) hdc fun _ => rfl) (am_jpE e0) (fun q => hG _ (by rw [if_pos q] at hr; exact hr) _ _ _ _ _ hL hV) (fun q => hG _ (by rw [if_neg q] at hr; exact hr) _ _ _ _ _ hL hV)
    · exact hr.elim
  · exact hr.elim
theorem am_s_tsw (hx : am_Ctx i sz dC dI cA d P p R s m args meth c) (hG : ∀ f, Go f → am_Go i sz dC dI cA P p l e R s m args below meth c B1 B2 Q f) (hL : am_LR i L ls (am_m P)) (hV : am_V i sz dC dI cA s R B1 B2 g H locs cells slots) {df : Int} {lo : Int} {hi : Int} {offs : Array Int} (hdc : am_dc P pc = some (.tableswitch df lo hi offs)) (hr : am_GR Go CQ P Q (am_S P (.tableswitch df lo hi offs) pc L st g)) : W p l e R s m args below meth c H locs cells slots (am_Z i sz dC dI cA s below B1 B2 Q) (F0 m pc ls (st.map (am_v i))) := by
  obtain ⟨n0, hd⟩ := am_dcA hdc
  unfold am_S at hr; dsimp only at hr
  split at hr
  · split at hr <;> rename_i e0
    · split at hr <;> rename_i e1
      · exact lv_tableOut hx.1 hx.2.1 hd e0 (am_jpE e1) (hG _ hr _ _ _ _ _ hL hV)
      · exact hr.elim
    · split at hr <;> rename_i e1
      · split at hr <;> rename_i e2
        · exact lv_tableIn hx.1 hx.2.1 hd (fun q => e0 (Or.inl q)) (fun q => e0 (Or.inr q)) e1 (am_jpE e2) (hG _ hr _ _ _ _ _ hL hV)
        · exact hr.elim
      · exact hr.elim
  · exact hr.elim
theorem am_s_getfield (hx : am_Ctx i sz dC dI cA d P p R s m args meth c) (hG : ∀ f, Go f → am_Go i sz dC dI cA P p l e R s m args below meth c B1 B2 Q f) (hL : am_LR i L ls (am_m P)) (hV : am_V i sz dC dI cA s R B1 B2 g H locs cells slots) {k : Nat} (hdc : am_dc P pc = some (.getfield k)) (hr : am_GR Go CQ P Q (am_S P (.getfield k) pc L st g)) : W p l e R s m args below meth c H locs cells slots (am_Z i sz dC dI cA s below B1 B2 Q) (F0 m pc ls (st.map (am_v i))) := by
  unfold am_S at hr; dsimp only at hr
  split at hr
  · rename_i a r
    cases h1 : am_fl P k with
    | none => rw [h1] at hr; exact hr.elim
    | some q =>
      rw [h1] at hr
      have hr : am_GR Go CQ P Q ((am_gf g a q.1 q.2).bind fun v => am_go (pc + 3) L (v :: r) g) := hr
      cases h2 : am_gf g a q.1 q.2 with
      | none => rw [h2] at hr; exact hr.elim
      | some v =>
        rw [h2] at hr
        obtain ⟨V, e1, e2⟩ := am_gf_eq h2
        subst e2
        obtain ⟨f1, f2, f3⟩ := am_flF hx.2.2.2.2.2.2.2.2.2.2.2.2.2.2 h1
        have q1 := (hV.1.1 _ _ e1).2
        by_cases h13 : q.1 = 13
        · obtain ⟨qc, qk⟩ := q
          have h13 : qc = 13 := h13
          subst h13
          exact am_w_getS hx f2 f3 q1 (am_dcK (k := 3) hdc fun _ => rfl) (hG _ hr _ _ _ _ _ hL hV)
        · exact am_w_getf hx.1 hx.2.1 hx.2.2.2.2.2.1 hx.2.2.2.2.2.2.2.2.2.2.1 hx.2.2.2.2.1 (by omega) f2 f3 (q1.obj h13).2 (am_dcK (k := 3) hdc fun _ => rfl) (hG _ hr _ _ _ _ _ hL hV)
  · exact hr.elim
theorem am_s_putfield (hx : am_Ctx i sz dC dI cA d P p R s m args meth c) (hG : ∀ f, Go f → am_Go i sz dC dI cA P p l e R s m args below meth c B1 B2 Q f) (hL : am_LR i L ls (am_m P)) (hV : am_V i sz dC dI cA s R B1 B2 g H locs cells slots) (hx0 : am_II i sz) {k : Nat} (hdc : am_dc P pc = some (.putfield k)) (hr : am_GR Go CQ P Q (am_S P (.putfield k) pc L st g)) : W p l e R s m args below meth c H locs cells slots (am_Z i sz dC dI cA s below B1 B2 Q) (F0 m pc ls (st.map (am_v i))) := by
  unfold am_S at hr; dsimp only at hr
  split at hr
  · rename_i v a r
    cases h1 : am_fl P k with
    | none => rw [h1] at hr; exact hr.elim
    | some q =>
      rw [h1] at hr
      have hr : am_GR Go CQ P Q (if am_ok (am_ft q.1 q.2).1 v && (!(am_ft q.1 q.2).2 || (am_ini P && am_co q.1 == am_o P)) && decide (q.1 < 13) then (am_pf g a q.1 q.2 v).bind fun g' => am_go (pc + 3) L r g' else none) := hr
      split at hr <;> rename_i e0
      · cases h2 : am_pf g a q.1 q.2 v with
        | none => rw [h2] at hr; exact hr.elim
        | some g2 =>
          rw [h2] at hr
          obtain ⟨V, e1, e2, e3⟩ := am_pf_eq h2
          subst e3
          obtain ⟨f1, f2, f3⟩ := am_flF hx.2.2.2.2.2.2.2.2.2.2.2.2.2.2 h1
          have q1 := (hV.1.1 _ _ e1).2
          simp only [Bool.and_eq_true, Bool.or_eq_true, Bool.not_eq_true', beq_iff_eq, decide_eq_true_eq] at e0
          obtain ⟨n1, n2⟩ := am_ok_fit (i := i) e0.1.1
          exact am_w_putf hx.1 hx.2.1 hx.2.2.2.2.2.1 hx.2.2.2.2.2.2.2.2.2.2.1 hx.2.2.2.2.1 e0.2 f2 f3 (fun hf => by
            obtain ⟨h3, h4⟩ : am_ini P = true ∧ am_co q.1 = am_o P := e0.1.2.elim (fun z => by rw [hf] at z; cases z) (fun z => ⟨z.1, z.2⟩)
            have hP := hx.2.2.2.2.2.2.2.2.2.2.2.2.2.2
            rw [(am_Mf hP).2.2.2.2.2.2] at h3
            refine ⟨hx.2.2.2.2.2.2.2.1.trans (of_decide_eq_true h3), ?_⟩
            rw [← h4, (am_Cf e0.2).2.1]) (q1.obj (by omega)).2 n1 n2 (am_dcK (k := 3) hdc fun _ => rfl) fun H1 z t1 z1 o1 => hG _ hr _ _ _ _ _ hL (hV.put hx0 e2 (hV.1.set hx0 e2 e1 (q := .inr (q.1, updV V q.2 v)) (am_at.mk e2 e0.2 (by rw [am_updV] at t1; exact t1)) z1 o1) rfl ⟨_, am_set_at⟩ o1)
      · exact hr.elim
  · exact hr.elim
theorem am_s_getstatic (hx : am_Ctx i sz dC dI cA d P p R s m args meth c) (hG : ∀ f, Go f → am_Go i sz dC dI cA P p l e R s m args below meth c B1 B2 Q f) (hL : am_LR i L ls (am_m P)) (hV : am_V i sz dC dI cA s R B1 B2 g H locs cells slots) {k : Nat} (hdc : am_dc P pc = some (.getstatic k)) (hr : am_GR Go CQ P Q (am_S P (.getstatic k) pc L st g)) : W p l e R s m args below meth c H locs cells slots (am_Z i sz dC dI cA s below B1 B2 Q) (F0 m pc ls (st.map (am_v i))) := by
  unfold am_S at hr; dsimp only at hr
  split at hr <;> rename_i h1
  · exact am_w_gets hx hV h1 (am_dcK (k := 3) hdc fun _ => rfl) (hG _ hr _ _ _ _ _ hL hV)
  · split at hr <;> rename_i e1
    · obtain ⟨-, ⟨-, z2⟩, -⟩ := hV.1.1 _ _ e1
      refine am_w_gets hx hV h1 (am_dcK (k := 3) hdc fun _ => rfl) ?_
      have e9 : am_stv i dI 102 = am_zr dI := rfl
      rw [e9, ← z2 rfl]
      exact (hG _ hr _ _ _ _ _ hL hV)
    · exact hr.elim
  · rename_i a ha hb
    refine am_w_gets hx hV h1 (am_dcK (k := 3) hdc fun _ => rfl) ?_
    have e9 : am_stv i dI _ = .ref (i _) := (if_neg ha).trans (if_neg hb)
    rw [e9]
    exact (hG _ hr _ _ _ _ _ hL hV)
  · exact hr.elim
theorem am_s_ldc (hx : am_Ctx i sz dC dI cA d P p R s m args meth c) (hG : ∀ f, Go f → am_Go i sz dC dI cA P p l e R s m args below meth c B1 B2 Q f) (hL : am_LR i L ls (am_m P)) (hV : am_V i sz dC dI cA s R B1 B2 g H locs cells slots) {k : Nat} (hdc : am_dc P pc = some (.ldc k)) (hr : am_GR Go CQ P Q (am_S P (.ldc k) pc L st g)) : W p l e R s m args below meth c H locs cells slots (am_Z i sz dC dI cA s below B1 B2 Q) (F0 m pc ls (st.map (am_v i))) := by
  unfold am_S at hr; dsimp only at hr
  split at hr <;> rename_i e0
  · exact am_w_ldc hx e0 (am_dcK (k := 2) hdc fun _ => rfl) (hG _ hr _ _ _ _ _ hL hV)
  · cases h1 : am_cs P k with
    | none => rw [h1] at hr; exact hr.elim
    | some a =>
      rw [h1] at hr
      exact am_w_ldcS hx h1 (am_dcK (k := 2) hdc fun _ => rfl) (hG _ hr _ _ _ _ _ hL hV)
theorem am_s_ldc2_w (hx : am_Ctx i sz dC dI cA d P p R s m args meth c) (hG : ∀ f, Go f → am_Go i sz dC dI cA P p l e R s m args below meth c B1 B2 Q f) (hL : am_LR i L ls (am_m P)) (hV : am_V i sz dC dI cA s R B1 B2 g H locs cells slots) {k : Nat} (hdc : am_dc P pc = some (.ldc2_w k)) (hr : am_GR Go CQ P Q (am_S P (.ldc2_w k) pc L st g)) : W p l e R s m args below meth c H locs cells slots (am_Z i sz dC dI cA s below B1 B2 Q) (F0 m pc ls (st.map (am_v i))) := by
  unfold am_S at hr; dsimp only at hr
  cases h1 : am_cl8 P k with
  | none => rw [h1] at hr; exact hr.elim
  | some x =>
    rw [h1] at hr
    exact am_w_ldc2 hx h1 (am_dcK (k := 3) hdc fun _ => rfl) (hG _ hr _ _ _ _ _ hL hV)
theorem am_s_arraylength (hx : am_Ctx i sz dC dI cA d P p R s m args meth c) (hG : ∀ f, Go f → am_Go i sz dC dI cA P p l e R s m args below meth c B1 B2 Q f) (hL : am_LR i L ls (am_m P)) (hV : am_V i sz dC dI cA s R B1 B2 g H locs cells slots)  (hdc : am_dc P pc = some (.arraylength)) (hr : am_GR Go CQ P Q (am_S P (.arraylength) pc L st g)) : W p l e R s m args below meth c H locs cells slots (am_Z i sz dC dI cA s below B1 B2 Q) (F0 m pc ls (st.map (am_v i))) := by
  unfold am_S at hr; dsimp only at hr
  split at hr
  · rename_i a r
    cases h1 : am_sz g a with
    | none => rw [h1] at hr; exact hr.elim
    | some n =>
      rw [h1] at hr
      exact am_w_alen hx.1 hx.2.1 hx.2.2.2.2.2.2.2.2.2.2.1 hx.2.2.2.2.2.2.2.2.2.2.2.2.2.1.2.2.1.2.2.1 hV.1 h1 (am_dcK (k := 1) hdc fun _ => rfl) (hG _ hr _ _ _ _ _ hL hV)
  · exact hr.elim
theorem am_s_iaload (hx : am_Ctx i sz dC dI cA d P p R s m args meth c) (hG : ∀ f, Go f → am_Go i sz dC dI cA P p l e R s m args below meth c B1 B2 Q f) (hL : am_LR i L ls (am_m P)) (hV : am_V i sz dC dI cA s R B1 B2 g H locs cells slots)  (hdc : am_dc P pc = some (.iaload)) (hr : am_GR Go CQ P Q (am_S P (.iaload) pc L st g)) : W p l e R s m args below meth c H locs cells slots (am_Z i sz dC dI cA s below B1 B2 Q) (F0 m pc ls (st.map (am_v i))) := by
  unfold am_S at hr; dsimp only at hr
  unfold am_ld at hr
  split at hr
  · rename_i x a r
    cases h1 : am_iat .iaload g a x with
    | none => rw [h1] at hr; exact hr.elim
    | some v =>
      rw [h1] at hr
      exact am_w_load hx.1 hx.2.1 hx.2.2.2.2.2.2.2.2.2.2.1 hx.2.2.2.2.2.2.2.2.2.2.2.2.2.1.2.2.1.2.2.1 hV.1 h1 (am_dcK (k := 1) hdc fun _ => rfl) (hG _ hr _ _ _ _ _ hL hV)
  · exact hr.elim
theorem am_s_baload (hx : am_Ctx i sz dC dI cA d P p R s m args meth c) (hG : ∀ f, Go f → am_Go i sz dC dI cA P p l e R s m args below meth c B1 B2 Q f) (hL : am_LR i L ls (am_m P)) (hV : am_V i sz dC dI cA s R B1 B2 g H locs cells slots)  (hdc : am_dc P pc = some (.baload)) (hr : am_GR Go CQ P Q (am_S P (.baload) pc L st g)) : W p l e R s m args below meth c H locs cells slots (am_Z i sz dC dI cA s below B1 B2 Q) (F0 m pc ls (st.map (am_v i))) := by
  unfold am_S at hr; dsimp only at hr
  unfold am_ld at hr
  split at hr
  · rename_i x a r
    cases h1 : am_iat .baload g a x with
    | none => rw [h1] at hr; exact hr.elim
    | some v =>
      rw [h1] at hr
      exact am_w_load hx.1 hx.2.1 hx.2.2.2.2.2.2.2.2.2.2.1 hx.2.2.2.2.2.2.2.2.2.2.2.2.2.1.2.2.1.2.2.1 hV.1 h1 (am_dcK (k := 1) hdc fun _ => rfl) (hG _ hr _ _ _ _ _ hL hV)
  · exact hr.elim
theorem am_s_caload (hx : am_Ctx i sz dC dI cA d P p R s m args meth c) (hG : ∀ f, Go f → am_Go i sz dC dI cA P p l e R s m args below meth c B1 B2 Q f) (hL : am_LR i L ls (am_m P)) (hV : am_V i sz dC dI cA s R B1 B2 g H locs cells slots)  (hdc : am_dc P pc = some (.caload)) (hr : am_GR Go CQ P Q (am_S P (.caload) pc L st g)) : W p l e R s m args below meth c H locs cells slots (am_Z i sz dC dI cA s below B1 B2 Q) (F0 m pc ls (st.map (am_v i))) := by
  unfold am_S at hr; dsimp only at hr
  unfold am_ld at hr
  split at hr
  · rename_i x a r
    cases h1 : am_iat .caload g a x with
    | none => rw [h1] at hr; exact hr.elim
    | some v =>
      rw [h1] at hr
      exact am_w_load hx.1 hx.2.1 hx.2.2.2.2.2.2.2.2.2.2.1 hx.2.2.2.2.2.2.2.2.2.2.2.2.2.1.2.2.1.2.2.1 hV.1 h1 (am_dcK (k := 1) hdc fun _ => rfl) (hG _ hr _ _ _ _ _ hL hV)
  · exact hr.elim
theorem am_s_laload (hx : am_Ctx i sz dC dI cA d P p R s m args meth c) (hG : ∀ f, Go f → am_Go i sz dC dI cA P p l e R s m args below meth c B1 B2 Q f) (hL : am_LR i L ls (am_m P)) (hV : am_V i sz dC dI cA s R B1 B2 g H locs cells slots)  (hdc : am_dc P pc = some (.laload)) (hr : am_GR Go CQ P Q (am_S P (.laload) pc L st g)) : W p l e R s m args below meth c H locs cells slots (am_Z i sz dC dI cA s below B1 B2 Q) (F0 m pc ls (st.map (am_v i))) := by
  unfold am_S at hr; dsimp only at hr
  unfold am_ld at hr
  split at hr
  · rename_i x a r
    cases h1 : am_iat .laload g a x with
    | none => rw [h1] at hr; exact hr.elim
    | some v =>
      rw [h1] at hr
      exact am_w_load hx.1 hx.2.1 hx.2.2.2.2.2.2.2.2.2.2.1 hx.2.2.2.2.2.2.2.2.2.2.2.2.2.1.2.2.1.2.2.1 hV.1 h1 (am_dcK (k := 1) hdc fun _ => rfl) (hG _ hr _ _ _ _ _ hL hV)
  · exact hr.elim
theorem am_s_daload (hx : am_Ctx i sz dC dI cA d P p R s m args meth c) (hG : ∀ f, Go f → am_Go i sz dC dI cA P p l e R s m args below meth c B1 B2 Q f) (hL : am_LR i L ls (am_m P)) (hV : am_V i sz dC dI cA s R B1 B2 g H locs cells slots)  (hdc : am_dc P pc = some (.daload)) (hr : am_GR Go CQ P Q (am_S P (.daload) pc L st g)) : W p l e R s m args below meth c H locs cells slots (am_Z i sz dC dI cA s below B1 B2 Q) (F0 m pc ls (st.map (am_v i))) := by
  unfold am_S at hr; dsimp only at hr
  unfold am_ld at hr
  split at hr
  · rename_i x a r
    cases h1 : am_iat .daload g a x with
    | none => rw [h1] at hr; exact hr.elim
    | some v =>
      rw [h1] at hr
      exact am_w_load hx.1 hx.2.1 hx.2.2.2.2.2.2.2.2.2.2.1 hx.2.2.2.2.2.2.2.2.2.2.2.2.2.1.2.2.1.2.2.1 hV.1 h1 (am_dcK (k := 1) hdc fun _ => rfl) (hG _ hr _ _ _ _ _ hL hV)
  · exact hr.elim
theorem am_s_aaload (hx : am_Ctx i sz dC dI cA d P p R s m args meth c) (hG : ∀ f, Go f → am_Go i sz dC dI cA P p l e R s m args below meth c B1 B2 Q f) (hL : am_LR i L ls (am_m P)) (hV : am_V i sz dC dI cA s R B1 B2 g H locs cells slots)  (hdc : am_dc P pc = some (.aaload)) (hr : am_GR Go CQ P Q (am_S P (.aaload) pc L st g)) : W p l e R s m args below meth c H locs cells slots (am_Z i sz dC dI cA s below B1 B2 Q) (F0 m pc ls (st.map (am_v i))) := by
  unfold am_S at hr; dsimp only at hr
  unfold am_ld at hr
  split at hr
  · rename_i x a r
    cases h1 : am_iat .aaload g a x with
    | none => rw [h1] at hr; exact hr.elim
    | some v =>
      rw [h1] at hr
      exact am_w_load hx.1 hx.2.1 hx.2.2.2.2.2.2.2.2.2.2.1 hx.2.2.2.2.2.2.2.2.2.2.2.2.2.1.2.2.1.2.2.1 hV.1 h1 (am_dcK (k := 1) hdc fun _ => rfl) (hG _ hr _ _ _ _ _ hL hV)
  · exact hr.elim
theorem am_s_iastore (hx : am_Ctx i sz dC dI cA d P p R s m args meth c) (hG : ∀ f, Go f → am_Go i sz dC dI cA P p l e R s m args below meth c B1 B2 Q f) (hL : am_LR i L ls (am_m P)) (hV : am_V i sz dC dI cA s R B1 B2 g H locs cells slots) (hx0 : am_II i sz)  (hdc : am_dc P pc = some (.iastore)) (hr : am_GR Go CQ P Q (am_S P (.iastore) pc L st g)) : W p l e R s m args below meth c H locs cells slots (am_Z i sz dC dI cA s below B1 B2 Q) (F0 m pc ls (st.map (am_v i))) := by
  unfold am_S at hr; dsimp only at hr
  unfold am_st at hr
  split at hr
  · rename_i v x a r
    cases h1 : am_sat .iastore g a x v with
    | none => rw [h1] at hr; exact hr.elim
    | some g2 =>
      rw [h1] at hr
      exact am_w_store hx.1 hx.2.1 hx.2.2.2.2.2.2.2.2.2.2.1 hx0 hV.1 h1 (am_dcK (k := 1) hdc fun _ => rfl) fun H1 z h32 hR1 hg2 o1 => hG _ hr _ _ _ _ _ hL (hV.put hx0 h32 hR1 hg2 (am_sat_tr h1) o1)
  · exact hr.elim
theorem am_s_bastore (hx : am_Ctx i sz dC dI cA d P p R s m args meth c) (hG : ∀ f, Go f → am_Go i sz dC dI cA P p l e R s m args below meth c B1 B2 Q f) (hL : am_LR i L ls (am_m P)) (hV : am_V i sz dC dI cA s R B1 B2 g H locs cells slots) (hx0 : am_II i sz)  (hdc : am_dc P pc = some (.bastore)) (hr : am_GR Go CQ P Q (am_S P (.bastore) pc L st g)) : W p l e R s m args below meth c H locs cells slots (am_Z i sz dC dI cA s below B1 B2 Q) (F0 m pc ls (st.map (am_v i))) := by
  unfold am_S at hr; dsimp only at hr
  unfold am_st at hr
  split at hr
  · rename_i v x a r
    cases h1 : am_sat .bastore g a x v with
    | none => rw [h1] at hr; exact hr.elim
    | some g2 =>
      rw [h1] at hr
      exact am_w_store hx.1 hx.2.1 hx.2.2.2.2.2.2.2.2.2.2.1 hx0 hV.1 h1 (am_dcK (k := 1) hdc fun _ => rfl) fun H1 z h32 hR1 hg2 o1 => hG _ hr _ _ _ _ _ hL (hV.put hx0 h32 hR1 hg2 (am_sat_tr h1) o1)
  · exact hr.elim
theorem am_s_castore (hx : am_Ctx i sz dC dI cA d P p R s m args meth c) (hG : ∀ f, Go f → am_Go i sz dC dI cA P p l e R s m args below meth c B1 B2 Q f) (hL : am_LR i L ls (am_m P)) (hV : am_V i sz dC dI cA s R B1 B2 g H locs cells slots) (hx0 : am_II i sz)  (hdc : am_dc P pc = some (.castore)) (hr : am_GR Go CQ P Q (am_S P (.castore) pc L st g)) : W p l e R s m args below meth c H locs cells slots (am_Z i sz dC dI cA s below B1 B2 Q) (F0 m pc ls (st.map (am_v i))) := by
  unfold am_S at hr; dsimp only at hr
  unfold am_st at hr
  split at hr
  · rename_i v x a r
    cases h1 : am_sat .castore g a x v with
    | none => rw [h1] at hr; exact hr.elim
    | some g2 =>
      rw [h1] at hr
      exact am_w_store hx.1 hx.2.1 hx.2.2.2.2.2.2.2.2.2.2.1 hx0 hV.1 h1 (am_dcK (k := 1) hdc fun _ => rfl) fun H1 z h32 hR1 hg2 o1 => hG _ hr _ _ _ _ _ hL (hV.put hx0 h32 hR1 hg2 (am_sat_tr h1) o1)
  · exact hr.elim
theorem am_s_lastore (hx : am_Ctx i sz dC dI cA d P p R s m args meth c) (hG : ∀ f, Go f → am_Go i sz dC dI cA P p l e R s m args below meth c B1 B2 Q f) (hL : am_LR i L ls (am_m P)) (hV : am_V i sz dC dI cA s R B1 B2 g H locs cells slots) (hx0 : am_II i sz)  (hdc : am_dc P pc = some (.lastore)) (hr : am_GR Go CQ P Q (am_S P (.lastore) pc L st g)) : W p l e R s m args below meth c H locs cells slots (am_Z i sz dC dI cA s below B1 B2 Q) (F0 m pc ls (st.map (am_v i))) := by
  unfold am_S at hr; dsimp only at hr
  unfold am_st at hr
  split at hr
  · rename_i v x a r
    cases h1 : am_sat .lastore g a x v with
    | none => rw [h1] at hr; exact hr.elim
    | some g2 =>
      rw [h1] at hr
      exact am_w_store hx.1 hx.2.1 hx.2.2.2.2.2.2.2.2.2.2.1 hx0 hV.1 h1 (am_dcK (k := 1) hdc fun _ => rfl) fun H1 z h32 hR1 hg2 o1 => hG _ hr _ _ _ _ _ hL (hV.put hx0 h32 hR1 hg2 (am_sat_tr h1) o1)
  · exact hr.elim
theorem am_s_dastore (hx : am_Ctx i sz dC dI cA d P p R s m args meth c) (hG : ∀ f, Go f → am_Go i sz dC dI cA P p l e R s m args below meth c B1 B2 Q f) (hL : am_LR i L ls (am_m P)) (hV : am_V i sz dC dI cA s R B1 B2 g H locs cells slots) (hx0 : am_II i sz)  (hdc : am_dc P pc = some (.dastore)) (hr : am_GR Go CQ P Q (am_S P (.dastore) pc L st g)) : W p l e R s m args below meth c H locs cells slots (am_Z i sz dC dI cA s below B1 B2 Q) (F0 m pc ls (st.map (am_v i))) := by
  unfold am_S at hr; dsimp only at hr
  unfold am_st at hr
  split at hr
  · rename_i v x a r
    cases h1 : am_sat .dastore g a x v with
    | none => rw [h1] at hr; exact hr.elim
    | some g2 =>
      rw [h1] at hr
      exact am_w_store hx.1 hx.2.1 hx.2.2.2.2.2.2.2.2.2.2.1 hx0 hV.1 h1 (am_dcK (k := 1) hdc fun _ => rfl) fun H1 z h32 hR1 hg2 o1 => hG _ hr _ _ _ _ _ hL (hV.put hx0 h32 hR1 hg2 (am_sat_tr h1) o1)
  · exact hr.elim
theorem am_s_aastore (hx : am_Ctx i sz dC dI cA d P p R s m args meth c) (hG : ∀ f, Go f → am_Go i sz dC dI cA P p l e R s m args below meth c B1 B2 Q f) (hL : am_LR i L ls (am_m P)) (hV : am_V i sz dC dI cA s R B1 B2 g H locs cells slots) (hx0 : am_II i sz)  (hdc : am_dc P pc = some (.aastore)) (hr : am_GR Go CQ P Q (am_S P (.aastore) pc L st g)) : W p l e R s m args below meth c H locs cells slots (am_Z i sz dC dI cA s below B1 B2 Q) (F0 m pc ls (st.map (am_v i))) := by
  unfold am_S at hr; dsimp only at hr
  unfold am_st at hr
  split at hr
  · rename_i v x a r
    cases h1 : am_sat .aastore g a x v with
    | none => rw [h1] at hr; exact hr.elim
    | some g2 =>
      rw [h1] at hr
      exact am_w_store hx.1 hx.2.1 hx.2.2.2.2.2.2.2.2.2.2.1 hx0 hV.1 h1 (am_dcK (k := 1) hdc fun _ => rfl) fun H1 z h32 hR1 hg2 o1 => hG _ hr _ _ _ _ _ hL (hV.put hx0 h32 hR1 hg2 (am_sat_tr h1) o1)
  · exact hr.elim
theorem am_s_newarray (hx : am_Ctx i sz dC dI cA d P p R s m args meth c) (hG : ∀ f, Go f → am_Go i sz dC dI cA P p l e R s m args below meth c B1 B2 Q f) (hL : am_LR i L ls (am_m P)) (hV : am_V i sz dC dI cA s R B1 B2 g H locs cells slots) (hx0 : am_II i sz) {t : ArrayType} (hdc : am_dc P pc = some (.newarray t)) (hr : am_GR Go CQ P Q (am_S P (.newarray t) pc L st g)) : W p l e R s m args below meth c H locs cells slots (am_Z i sz dC dI cA s below B1 B2 Q) (F0 m pc ls (st.map (am_v i))) := by
  unfold am_S at hr; dsimp only at hr
  split at hr
  · rename_i n r
    cases h1 : am_arr t n.toNatClampNeg with
    | none => rw [h1] at hr; exact hr.elim
    | some q =>
      rw [h1] at hr
      have hr : am_GR Go CQ P Q (if ¬ n < 0 ∧ n.toNatClampNeg ≤ 10000 ∧ 1 ≤ g.2.2.1 ∧ n.toNatClampNeg ≤ g.2.2.2 then am_go (pc + 2) L (.ref g.2.1 :: r) (am_psh g q n.toNatClampNeg) else none) := hr
      split at hr <;> rename_i e0
      · obtain ⟨n1, n2, n3, n4⟩ := e0
        have v4 := hV.2.2.2.1; have v5 := hV.2.2.2.2.1; have v6 := hV.2.2.2.2.2.1; have v7 := hV.2.2.2.2.2.2.1
        exact am_w_newa hx.1 hx.2.1 hx.2.2.2.2.2.1 hx.2.2.2.2.2.2.2.2.2.2.1 hx0 hV.1 h1 n1 n2 (by omega) (by omega) (am_dcK (k := 2) hdc fun _ => rfl) fun H1 hR1 o1 => hG _ hr _ _ _ _ _ hL (hV.new hx0 hR1 o1 (Nat.le_succ _) am_psh_tr n3 n4 rfl rfl)
      · exact hr.elim
  · exact hr.elim
theorem am_s_anewarray (hx : am_Ctx i sz dC dI cA d P p R s m args meth c) (hG : ∀ f, Go f → am_Go i sz dC dI cA P p l e R s m args below meth c B1 B2 Q f) (hL : am_LR i L ls (am_m P)) (hV : am_V i sz dC dI cA s R B1 B2 g H locs cells slots) (hx0 : am_II i sz) {k : Nat} (hdc : am_dc P pc = some (.anewarray k)) (hr : am_GR Go CQ P Q (am_S P (.anewarray k) pc L st g)) : W p l e R s m args below meth c H locs cells slots (am_Z i sz dC dI cA s below B1 B2 Q) (F0 m pc ls (st.map (am_v i))) := by
  unfold am_S at hr; dsimp only at hr
  split at hr
  · rename_i n r
    cases h1 : am_an P k with
    | none => rw [h1] at hr; exact hr.elim
    | some C =>
      rw [h1] at hr
      have hr : am_GR Go CQ P Q (if ¬ n < 0 ∧ n.toNatClampNeg ≤ 10000 ∧ 1 ≤ g.2.2.1 ∧ n.toNatClampNeg ≤ g.2.2.2 then am_go (pc + 3) L (.ref g.2.1 :: r) (am_psh g (.inl (.object C, n.toNatClampNeg, .inr (.inr (.inr (.inr fun _ => none))))) n.toNatClampNeg) else none) := hr
      split at hr <;> rename_i e0
      · obtain ⟨n1, n2, n3, n4⟩ := e0
        have v4 := hV.2.2.2.1; have v5 := hV.2.2.2.2.1; have v6 := hV.2.2.2.2.2.1; have v7 := hV.2.2.2.2.2.2.1
        exact am_w_anew hx.1 hx.2.1 hx.2.2.2.2.2.1 hx.2.2.2.2.2.2.2.2.2.2.1 hx.2.2.2.2.2.2.2.2.2.2.2.1 hx0 hV.1 hx.2.2.2.2.2.2.2.2.2.2.2.2.2.2 hx.2.2.2.2.1 h1 n1 n2 (by omega) (by omega) (am_dcK (k := 3) hdc fun _ => rfl) fun H1 hR1 o1 => hG _ hr _ _ _ _ _ hL (hV.new hx0 hR1 o1 (Nat.le_succ _) am_psh_tr n3 n4 rfl rfl)
      · exact hr.elim
  · exact hr.elim
theorem am_s_mul (hx : am_Ctx i sz dC dI cA d P p R s m args meth c) (hG : ∀ f, Go f → am_Go i sz dC dI cA P p l e R s m args below meth c B1 B2 Q f) (hL : am_LR i L ls (am_m P)) (hV : am_V i sz dC dI cA s R B1 B2 g H locs cells slots) (hx0 : am_II i sz) {k : Nat} {dims : Nat} (hdc : am_dc P pc = some (.multianewarray k dims)) (hr : am_GR Go CQ P Q (am_S P (.multianewarray k dims) pc L st g)) : W p l e R s m args below meth c H locs cells slots (am_Z i sz dC dI cA s below B1 B2 Q) (F0 m pc ls (st.map (am_v i))) := by
  unfold am_S at hr; dsimp only at hr
  split at hr
  · rename_i k2 n r
    split at hr <;> rename_i e0
    · simp only [Bool.and_eq_true, Bool.not_eq_true', decide_eq_true_eq, decide_eq_false_iff_not, beq_iff_eq] at e0
      obtain ⟨⟨⟨⟨⟨⟨⟨m1, m2⟩, m3⟩, m4⟩, m5⟩, m6⟩, m7⟩, m8⟩ := e0
      subst m2
      have v4 := hV.2.2.2.1; have v5 := hV.2.2.2.2.1; have v6 := hV.2.2.2.2.2.1; have v7 := hV.2.2.2.2.2.2.1
      refine am_w_mul hx.1 hx.2.1 hx.2.2.2.2.2.1 hx.2.2.2.2.2.2.2.2.2.2.1 hx.2.2.2.2.2.2.2.2.2.2.2.1 hx0 hV.1 hx.2.2.2.2.2.2.2.2.2.2.2.2.2.2 hx.2.2.2.2.1 m1 m3 m4 m5 m6 (by omega) (by omega) (am_dcK (k := 4) hdc fun _ => rfl) fun H1 hR1 o1 => ?_
      rw [Nat.add_assoc cells, Nat.add_assoc slots]
      exact hG _ hr _ _ _ _ _ hL (hV.new hx0 hR1 o1 (by show g.2.1 ≤ g.2.1 + 1 + _; omega) am_mul_tr m7 m8 rfl rfl)
    · exact hr.elim
  · exact hr.elim
end AMS
