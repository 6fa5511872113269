/-! What the abstract machine's numbers stand for in the machine's heap and frame. -/
def am_v (i : Nat → Nat) : Value → Value
  | .ref a => .ref (i a)
  | v => v
theorem am_v_cat (i : Nat → Nat) (v : Value) : (am_v i v).category = v.category := by cases v <;> rfl
def am_xc (i : Nat → Nat) (x : (Nat → Int32) ⊕ (Nat → Int64) ⊕ (Nat → UInt32) ⊕ (Nat → UInt64) ⊕ (Nat → Option Nat)) : (Nat → Int32) ⊕ (Nat → Int64) ⊕ (Nat → UInt32) ⊕ (Nat → UInt64) ⊕ (Nat → Option Nat) := match x with
  | .inl f => .inl f
  | .inr (.inl f) => .inr (.inl f)
  | .inr (.inr (.inl f)) => .inr (.inr (.inl f))
  | .inr (.inr (.inr (.inl f))) => .inr (.inr (.inr (.inl f)))
  | .inr (.inr (.inr (.inr f))) => .inr (.inr (.inr (.inr fun j => (f j).map i)))
def am_tys : List FieldType := [.int, .long, .boolean, .char, .byte, .double, .object "ModelSheet$Tree", .object "ModelSheet$Rule", .array .int]
/-- a static of the JDK's that nobody looks into: null or a reference -/
def am_zr (dI : Nat → Nat → Nat) : Value := if dI 20 0 = 0 then .null else .ref (dI 20 1)
/-- the arrays that stood before, and their types -/
def am_olds : List Nat := [0, 1, 12, 13, 14, 15, 16, 17, 18, 19, 20]
def am_oty (a : Nat) : FieldType := if a < 2 then .int else .byte
def am_vm (cell : Cell) : Prop := (∀ k, cell.vm ≠ .statics k) ∧ cell.vm ≠ .unknown
def am_oA (c : ClassId) (n : Nat) (x : (Nat → Int32) ⊕ (Nat → Int64) ⊕ (Nat → UInt32) ⊕ (Nat → UInt64) ⊕ (Nat → Option Nat)) (cell : Cell) : Prop := ∃ f, x = .inl f ∧ cell.cls = c ∧ am_vm cell ∧ (n ≤ cell.slots.size ∧ cell.slots.size.toInt32 = Int32.ofNat n) ∧ ∀ j, j < n → cell.slots[j]? = some (.int (f j))
def am_at (i : Nat → Nat) (dC : Nat → ClassId) (dI : Nat → Nat → Nat) (cA : FieldType → ClassId) (a : Nat) (q : am_A) (H : Heap) : Prop := match q with
  | .inl (ty, n, x) => ty ∈ am_tys ∧ ((32 ≤ a ∧ H[i a]? = some (vp_cell (cA ty) (n, am_xc i x))) ∨ (a ∈ am_olds ∧ am_oty a = ty ∧ ∃ cell, H[i a]? = some cell ∧ am_oA (dI 21 a) n x cell))
  | .inr (ci, V) => (ci < 14 ∧ (a = 2 → am_v i (V 2) = am_zr dI)) ∧ ∃ cell, H[i a]? = some cell ∧ cell.cls = dC ci ∧ (am_vm cell ∧ (ci ≠ 13 → cell.vm = .none)) ∧ ∀ k, k < am_uN ci → cell.slots[dI ci k]? = some (am_v i (V k))
theorem am_olds_lt : ∀ a ∈ am_olds, a < 32 := by decide
theorem am_olds_ty : ∀ a ∈ am_olds, am_oty a = .int ∨ am_oty a = .byte := by decide
def am_II (i : Nat → Nat) (sz : Nat) : Prop := (∀ a b, 32 ≤ a → i a = i b → a = b) ∧ (∀ a, 32 ≤ a → i a = sz + (a - 32)) ∧ ∀ a, a < 32 → i a < sz
def am_R (i : Nat → Nat) (dC : Nat → ClassId) (dI : Nat → Nat → Nat) (cA : FieldType → ClassId) (g : am_G) (H : Heap) : Prop := (∀ a q, g.1 a = some q → a < g.2.1 ∧ am_at i dC dI cA a q H) ∧ H.size = i g.2.1 ∧ 32 ≤ g.2.1
section AMR
variable {i : Nat → Nat} {sz : Nat} {dC : Nat → ClassId} {dI : Nat → Nat → Nat} {cA : FieldType → ClassId} {g : am_G} {H H1 : Heap}
theorem am_at.kept {a : Nat} {q : am_A} (h : am_at i dC dI cA a q H) (e : H1[i a]? = H[i a]?) : am_at i dC dI cA a q H1 := by
  unfold am_at at h ⊢
  rcases q with ⟨ty, n, x⟩ | ⟨ci, V⟩
  · dsimp only at h ⊢
    rw [e]
    exact h
  · dsimp only at h ⊢
    rw [e]
    exact h
theorem am_at.new {a : Nat} {ty : FieldType} {n : Nat} {x : (Nat → Int32) ⊕ (Nat → Int64) ⊕ (Nat → UInt32) ⊕ (Nat → UInt64) ⊕ (Nat → Option Nat)} (h : am_at i dC dI cA a (.inl (ty, n, x)) H) (hn : 32 ≤ a ∨ (ty ≠ .int ∧ ty ≠ .byte)) : ty ∈ am_tys ∧ H[i a]? = some (vp_cell (cA ty) (n, am_xc i x)) := by
  obtain ⟨h1, ⟨-, h2⟩ | ⟨h2, h3, -⟩⟩ := h
  · exact ⟨h1, h2⟩
  · rcases hn with hn | ⟨hn, hn2⟩
    · have := am_olds_lt a h2; omega
    · rcases am_olds_ty a h2 with e | e
      · exact absurd (h3.symm.trans e) hn
      · exact absurd (h3.symm.trans e) hn2
theorem am_at.obj {a ci : Nat} {V : Nat → Value} (h : am_at i dC dI cA a (.inr (ci, V)) H) (hn : ci ≠ 13) : ci < 14 ∧ t_OB (i a) (dC ci) (am_uN ci) (dI ci) H (fun k => am_v i (V k)) := by
  obtain ⟨⟨h1, -⟩, cell, h2, h3, ⟨-, h4⟩, h5⟩ := h
  exact ⟨h1, cell, h2, h3, h4 hn, h5⟩
theorem am_at.mk {a ci : Nat} {V : Nat → Value} (ha : 32 ≤ a) (hc : ci < 13) (h : t_OB (i a) (dC ci) (am_uN ci) (dI ci) H (fun k => am_v i (V k))) : am_at i dC dI cA a (.inr (ci, V)) H := by
  obtain ⟨cell, h2, h3, h4, h5⟩ := h
  exact ⟨⟨by omega, fun e => absurd e (by omega)⟩, cell, h2, h3, ⟨⟨fun k q => (by rw [h4] at q; cases q), fun q => (by rw [h4] at q; cases q)⟩, fun _ => h4⟩, h5⟩
theorem am_R.set (hi : am_II i sz) (h : am_R i dC dI cA g H) {a : Nat} (h32 : 32 ≤ a) {q q0 : am_A} (h0 : g.1 a = some q0) (ha : am_at i dC dI cA a q H1) (hz : H1.size = H.size) (ho : ∀ x, x ≠ i a → H1[x]? = H[x]?) : am_R i dC dI cA (am_set g a q) H1 := by
  refine ⟨fun b q' hb => ?_, hz.trans h.2.1, h.2.2⟩
  by_cases e : b = a
  · subst e
    have hb' : (if b = b then some q else g.1 b) = some q' := hb
    rw [if_pos rfl] at hb'
    cases hb'
    exact ⟨(h.1 _ _ h0).1, ha⟩
  · have hb' : (if b = a then some q else g.1 b) = some q' := hb
    rw [if_neg e] at hb'
    obtain ⟨h1, h2⟩ := h.1 _ _ hb'
    exact ⟨h1, h2.kept (ho _ fun x => e (hi.1 _ _ h32 x.symm).symm)⟩
theorem am_II.succ (hi : am_II i sz) {n : Nat} (h : 32 ≤ n) (k : Nat) : i (n + k) = i n + k := by
  rw [hi.2.1 _ (by omega), hi.2.1 _ h]; omega
theorem am_II.lt (hi : am_II i sz) {a n : Nat} (h : a < n) (hn : 32 ≤ n) : i a < i n := by
  rw [hi.2.1 n hn]
  rcases Nat.lt_or_ge a 32 with h1 | h1
  · have := hi.2.2 a h1; omega
  · rw [hi.2.1 a h1]; omega
theorem am_II.ge (hi : am_II i sz) {a : Nat} (h : 32 ≤ a) : sz ≤ i a := by rw [hi.2.1 a h]; omega
theorem am_R.psh (hi : am_II i sz) (h : am_R i dC dI cA g H) {q : am_A} {n : Nat} (ha : am_at i dC dI cA g.2.1 q H1) (hz : H1.size = H.size + 1) (ho : ∀ x, x < H.size → H1[x]? = H[x]?) : am_R i dC dI cA (am_psh g q n) H1 := by
  refine ⟨fun b q' hb => ?_, ?_, Nat.le_succ_of_le h.2.2⟩
  · have hb' : (if b = g.2.1 then some q else g.1 b) = some q' := hb
    by_cases e : b = g.2.1
    · rw [if_pos e] at hb'
      cases hb'
      subst e
      exact ⟨Nat.lt_succ_self _, ha⟩
    · rw [if_neg e] at hb'
      obtain ⟨h1, h2⟩ := h.1 _ _ hb'
      exact ⟨Nat.lt_succ_of_lt h1, h2.kept (ho _ (by rw [h.2.1]; exact hi.lt h1 h.2.2))⟩
  · show H1.size = i (g.2.1 + 1)
    rw [hz, h.2.1, hi.succ h.2.2]
end AMR
/-! Locals -/
def am_LR (i : Nat → Nat) (L : am_Lo) (ls : Array Slot) (nL : Nat) : Prop := L.length = nL ∧ ∃ lv, lv_has ls nL lv ∧ ∀ (j : Nat) (v : Value), L.getD j none = some v → (j, am_v i v) ∈ lv
section AML
variable {i : Nat → Nat} {L : am_Lo} {ls ls' : Array Slot} {nL : Nat}
theorem am_LR.at (h : am_LR i L ls nL) {j : Nat} {v : Value} (hj : L.getD j none = some v) : ls[j]? = some (.val (am_v i v)) := by
  obtain ⟨-, lv, h1, h2⟩ := h
  exact h1.2.2 _ (h2 j v hj)
theorem am_gd_set {L : am_Lo} {j k : Nat} {x : Option Value} {v : Value} (h : (L.set j x).getD k none = some v) : (k = j ∧ x = some v) ∨ (k ≠ j ∧ L.getD k none = some v) := by
  rw [List.getD_eq_getElem?_getD, List.getElem?_set] at h
  by_cases e : j = k
  · subst e
    rw [if_pos rfl] at h
    left
    refine ⟨rfl, ?_⟩
    split at h
    · simpa using h
    · simp at h
  · rw [if_neg e] at h
    right
    exact ⟨fun q => e q.symm, by rw [List.getD_eq_getElem?_getD]; exact h⟩
theorem am_clr_len (L : am_Lo) (j : Nat) : (am_clr L j).length = L.length := by
  unfold am_clr
  split
  · rfl
  · split
    · split <;> simp
    · rfl
theorem am_clr_gd {L : am_Lo} {j k : Nat} {v : Value} (h : (am_clr L j).getD k none = some v) : L.getD k none = some v ∧ ¬ (k + 1 = j ∧ v.category = 2) := by
  unfold am_clr at h
  split at h
  · exact ⟨h, fun q => by omega⟩
  · rename_i j
    split at h <;> rename_i e
    · rename_i w
      split at h <;> rename_i e2
      · rcases am_gd_set h with ⟨rfl, q⟩ | ⟨q, q2⟩
        · cases q
        · exact ⟨q2, fun z => q (by omega)⟩
      · refine ⟨h, fun z => ?_⟩
        obtain rfl : k = j := by omega
        rw [e] at h
        cases h
        exact e2 z.2
    · refine ⟨h, fun z => ?_⟩
      obtain rfl : k = j := by omega
      rw [e] at h
      cases h
theorem am_LR.s1 (hl : L.length = nL) {lv : List (Nat × Value)} (h2 : ∀ (j : Nat) (v : Value), L.getD j none = some v → (j, am_v i v) ∈ lv) {j : Nat} {v : Value} (h : lv_has ls' nL ((j, am_v i v) :: lv.filter (fun q => !(q.1 == j) && !(q.1 + 1 == j && q.2.category == 2)))) : am_LR i (am_s1 L j v) ls' nL := by
  refine ⟨by unfold am_s1; rw [List.length_set, am_clr_len]; exact hl, _, h, fun k w hk => ?_⟩
  unfold am_s1 at hk
  rcases am_gd_set hk with ⟨rfl, q⟩ | ⟨q, q2⟩
  · cases q; exact List.mem_cons_self
  · obtain ⟨h3, h4⟩ := am_clr_gd q2
    refine List.mem_cons_of_mem _ (List.mem_filter.mpr ⟨h2 _ _ h3, ?_⟩)
    simp only [Bool.and_eq_true, Bool.not_eq_true', beq_eq_false_iff_ne, Bool.and_eq_false_iff, am_v_cat]
    refine ⟨q, ?_⟩
    by_cases z : k + 1 = j
    · exact Or.inr fun z2 => h4 ⟨z, z2⟩
    · exact Or.inl z
theorem am_LR.s2 (hl : L.length = nL) {lv : List (Nat × Value)} (h2 : ∀ (j : Nat) (v : Value), L.getD j none = some v → (j, am_v i v) ∈ lv) {j : Nat} {v : Value} (h : lv_has ls' nL ((j, am_v i v) :: lv.filter (fun q => !(q.1 == j) && (!(q.1 == j + 1) && !(q.1 + 1 == j && q.2.category == 2))))) : am_LR i (am_s2 L j v) ls' nL := by
  refine ⟨by unfold am_s2; rw [List.length_set, List.length_set, am_clr_len]; exact hl, _, h, fun k w hk => ?_⟩
  unfold am_s2 at hk
  rcases am_gd_set hk with ⟨rfl, q⟩ | ⟨q0, q1⟩
  · cases q
  · rcases am_gd_set q1 with ⟨rfl, q⟩ | ⟨q, q2⟩
    · cases q; exact List.mem_cons_self
    · obtain ⟨h3, h4⟩ := am_clr_gd q2
      refine List.mem_cons_of_mem _ (List.mem_filter.mpr ⟨h2 _ _ h3, ?_⟩)
      simp only [Bool.and_eq_true, Bool.not_eq_true', beq_eq_false_iff_ne, Bool.and_eq_false_iff, am_v_cat]
      refine ⟨q, q0, ?_⟩
      by_cases z : k + 1 = j
      · exact Or.inr fun z2 => h4 ⟨z, z2⟩
      · exact Or.inl z
theorem am_arg_sl (as : List Value) : (am_arg as).length = (lg_sl (as.map (am_v i))).length := by
  induction as with
  | nil => rfl
  | cons v r ih =>
    unfold am_arg lg_sl
    simp only [List.map_cons, List.flatMap_cons, List.length_append, List.length_cons, am_v_cat]
    have e : (lg_sl (r.map (am_v i))).length = (List.flatMap (fun v => if v.category = 2 then [Slot.val v, Slot.second] else [Slot.val v]) (r.map (am_v i))).length := rfl
    by_cases h : v.category = 2
    · rw [if_pos h, if_pos h]
      simp only [List.length_cons, List.length_nil]
      rw [← e, ← ih]; omega
    · rw [if_neg h, if_neg h]
      simp only [List.length_cons, List.length_nil]
      rw [← e, ← ih]; omega
theorem am_arg_lv (as : List Value) : ∀ (b j : Nat) (v : Value), (am_arg as).getD j none = some v → (b + j, am_v i v) ∈ lv_args b (as.map (am_v i)) := by
  induction as with
  | nil => intro b j v h; simp [am_arg] at h
  | cons w r ih =>
    intro b j v h
    unfold am_arg at h
    simp only [List.map_cons, lv_args, am_v_cat]
    cases j with
    | zero =>
      simp at h
      subst h
      exact List.mem_cons_self
    | succ j =>
      refine List.mem_cons_of_mem _ ?_
      by_cases hc : w.category = 2
      · rw [if_pos hc] at h ⊢
        cases j with
        | zero => simp at h
        | succ j =>
          have := ih (b + 2) j v (by simpa using h)
          rw [show b + (j + 1 + 1) = b + 2 + j by omega]
          exact this
      · rw [if_neg hc] at h ⊢
        have := ih (b + 1) j v (by simpa using h)
        rw [show b + (j + 1) = b + 1 + j by omega]
        exact this
theorem am_LR.entry {M : Nat} {as : List Value} (h : (am_arg as).length ≤ am_m M) : am_LR i (am_loc M as) ((lg_sl (as.map (am_v i)) ++ List.replicate (am_m M - (lg_sl (as.map (am_v i))).length) Slot.unset).toArray) (am_m M) := by
  refine ⟨by unfold am_loc; rw [List.length_append, List.length_replicate]; omega, _, lv_entry _ (by rw [← am_arg_sl]; exact h), fun j v hj => ?_⟩
  unfold am_loc at hj
  rw [List.getD_eq_getElem?_getD] at hj
  rcases Nat.lt_or_ge j (am_arg as).length with hl | hl
  · rw [List.getElem?_append_left hl] at hj
    have := am_arg_lv (i := i) as 0 j v (by rw [List.getD_eq_getElem?_getD]; exact hj)
    rw [Nat.zero_add] at this
    exact this
  · rw [List.getElem?_append_right hl, List.getElem?_replicate] at hj
    split at hj <;> simp at hj
end AML
