/-! What the tables give, and the instructions on cells, one by one. -/
theorem am_find {α : Type} {l : List α} {f : α → Bool} {x : α} (h : l.find? f = some x) : x ∈ l ∧ f x = true := ⟨List.mem_of_find?_eq_some h, List.find?_some h⟩
theorem am_Mf {P : Nat} (hP : P < 318) : am_n (am_o P) = (am_y P).cls ∧ am_m P ≤ 30 ∧ (parseMethodDescriptor (am_y P).desc).map (fun d => d.parameters.length) = some (am_NP.getD P 0) ∧ am_o P < 32 ∧ ((am_y P).cls ≠ "java/lang/invoke/MethodHandle" ∧ (am_y P).cls ≠ "java/lang/invoke/VarHandle") ∧ (plainFor (am_y P) = true ∨ P = 270) ∧ am_ini P = decide ((am_y P).name = "<init>") := by
  have h := am_kM P hP
  simp only [am_ckM, Bool.and_eq_true, Bool.or_eq_true, decide_eq_true_eq, beq_iff_eq] at h
  obtain ⟨⟨⟨⟨⟨⟨⟨h1, h2⟩, h3⟩, h4⟩, h5⟩, h6⟩, h7⟩, h8⟩ := h
  exact ⟨h1, h2, h3, h4, ⟨h5, h6⟩, h7, h8⟩
theorem am_flF {P k : Nat} {q : Nat × Nat} (hP : P < 318) (h : am_fl P k = some q) : q.1 < 14 ∧ q.2 < am_uN q.1 ∧ Cond.fieldLink (am_n (am_o P)) k (am_uT q.1 q.2).1 (am_uT q.1 q.2).2.1 (am_uT q.1 q.2).2.2.1 ∈ am_ws := by
  unfold am_fl at h
  obtain ⟨r, h1, rfl⟩ := Option.map_eq_some_iff.mp h
  obtain ⟨h2, h3⟩ := am_find h1
  have h4 := am_kF (am_o P) (am_Mf hP).2.2.2.1 r h2
  simp only [am_ckF, Bool.and_eq_true, decide_eq_true_eq] at h4
  obtain ⟨⟨h5, h6⟩, h7⟩ := h4
  have h8 : r.1 = k := by simpa using h3
  subst h8
  exact ⟨h6, h7, am_mem _ h5 rfl⟩
theorem am_Cf {c : Nat} (hc : c < 13) : am_nf c = am_uN c ∧ am_n (am_co c) = am_cn c ∧ ∀ k, k < am_uN c → parseFieldDescriptor (am_uT c k).2.2.1 = some (am_ft c k).1 ∧ (am_uT c k).2.2.2 = (am_ft c k).2 ∧ ((am_uT c k).2.2.2 = true → (am_uT c k).1 = am_cn c) ∧ u_lay (am_cn c) (am_uT c) k ∈ am_ws ∧ ∀ j, j < k → (am_uT c j).2.1 ≠ (am_uT c k).2.1 := by
  have h := am_kC c hc
  simp only [am_ckC, Bool.and_eq_true, decide_eq_true_eq, List.all_eq_true, List.mem_range, Bool.or_eq_true, Bool.not_eq_true', beq_iff_eq] at h
  obtain ⟨⟨h1, h2⟩, h3⟩ := h
  refine ⟨h2, h3, fun k hk => ?_⟩
  obtain ⟨⟨⟨⟨⟨g1, g2⟩, g3⟩, g4⟩, g5⟩, g6⟩ := h1 k hk
  refine ⟨g1, g2, fun q => ?_, List.mem_filter.mpr ⟨g4, g5⟩, g6⟩
  rcases g3 with g3 | g3
  · rw [g3] at q; cases q
  · exact g3
theorem am_Cin {c : Nat} (hc : c < 13) : ∀ w ∈ u_ws (am_cn c) (am_uT c) (am_uN c), w ∈ am_ws := by
  intro w hw
  obtain ⟨k, hk, rfl⟩ := List.mem_map.mp hw
  exact ((am_Cf hc).2.2 k (List.mem_range.mp hk)).2.2.2.1
def am_KK (dC : Nat → ClassId) (dI : Nat → Nat → Nat) (cA : FieldType → ClassId) (s : State) : Prop := (∀ q, q < 13 → u_Kn s (am_cn q) (am_uT q) (am_uN q) (dC q) (dI q)) ∧ ∀ ty, ty ∈ am_tys → ArrOfT s (cA ty) ty ∧ va_RA s (cA ty) ty
theorem am_KK.moved {dC : Nat → ClassId} {dI : Nat → Nat → Nat} {cA : FieldType → ClassId} {u U : State} (hvm : u.vm.Alike U.vm) (h : am_KK dC dI cA u) : am_KK dC dI cA U := ⟨fun q hq => u_Kn_moved hvm (h.1 q hq), fun ty ht => ⟨arrOfT_moved hvm (h.2 ty ht).1, (h.2 ty ht).2.moved hvm⟩⟩
section AMH
variable {i : Nat → Nat} {sz : Nat} {dC : Nat → ClassId} {dI : Nat → Nat → Nat} {cA : FieldType → ClassId}
variable {p : Program} {l : Launch} {e : Env} {R : Room} {s : State} {m : MethodId} {args : Array Value} {below : List Frame} {meth : Method} {c : Code} {H : Heap} {locs : List Loc} {cells slots : Nat} {Q : State → Prop}
variable {cc : ByteArray} {pc : Nat} {ls : Array Slot} {rest : List Value}
theorem am_apart (hts : ∀ w ∈ am_ws, w.before args s = true) (hK : am_KK dC dI cA s) {ci : Nat} (hc : ci < 13) : ∀ x y, x < am_uN ci → y < am_uN ci → x ≠ y → dI ci x ≠ dI ci y := by
  intro x y hx hy hne
  obtain ⟨hS, -⟩ := hK.1 ci hc
  obtain ⟨_, _, _, fa, hia, ea⟩ := hS x hx
  obtain ⟨_, _, _, fb, hib, eb⟩ := hS y hy
  rw [← ea, ← eb]
  obtain ⟨px, -, -, -, nx⟩ := (am_Cf hc).2.2 x hx
  obtain ⟨py, -, -, -, ny⟩ := (am_Cf hc).2.2 y hy
  refine u_apart (u_lays hts (am_Cin hc) hx) (u_lays hts (am_Cin hc) hy) hia hib ?_
  rw [(State.fieldFound?_type hia px).1, (State.fieldFound?_type hib py).1]
  rcases Nat.lt_or_gt_of_ne hne with h | h
  · exact ny x h
  · exact fun q => nx y h q.symm
theorem am_w_getf (hexec : p.tables.exec = Jvm.exec) (hb : c.code = cc) (hts : ∀ w ∈ am_ws, w.before args s = true) (hK : am_KK dC dI cA s) {own : String} (hown : s.vm.findClass own = some m.cls) {ci k idx : Nat} (hc : ci < 13) (hk : k < am_uN ci)
    (hlink : Cond.fieldLink own idx (am_uT ci k).1 (am_uT ci k).2.1 (am_uT ci k).2.2.1 ∈ am_ws) {a : Nat} {V : Nat → Value} (hat : t_OB a (dC ci) (am_uN ci) (dI ci) H V) (hdg : decode cc pc = .ok (.getfield idx, 3))
    (kk : W p l e R s m args below meth c H locs cells slots Q (F0 m (pc + 3) ls (V k :: rest))) : W p l e R s m args below meth c H locs cells slots Q (F0 m pc ls (.ref a :: rest)) := by
  obtain ⟨cell, q1, q2, q3, q4⟩ := hat
  obtain ⟨hS, hfc, kC, hkC, hkind⟩ := hK.1 ci hc
  obtain ⟨cf, kf, fi, f, hi, hsl⟩ := hS k hk
  refine W.getf hexec hb hown (hts _ hlink) hi (u_facts hfc hkC (u_lays hts (am_Cin hc) hk) hi).1 q1 (by rw [q3]; exact fun h => by cases h) (v := V k) ?_ rfl rfl hdg kk
  rw [hsl, q4 k hk]
theorem am_ok_fit {i : Nat → Nat} {ty : FieldType} {v : Value} (h : am_ok ty v = true) : narrow ty (am_v i v) = am_v i v ∧ fits ty (am_v i v) = true := by
  unfold am_ok at h
  split at h
  · exact ⟨rfl, rfl⟩
  · exact ⟨rfl, rfl⟩
  · exact ⟨rfl, rfl⟩
  · exact ⟨rfl, rfl⟩
  · exact ⟨rfl, rfl⟩
  · exact ⟨rfl, rfl⟩
  · rename_i x
    simp only [Bool.or_eq_true, beq_iff_eq] at h
    rcases h with rfl | rfl
    · exact ⟨rfl, rfl⟩
    · exact ⟨rfl, rfl⟩
  · rename_i x
    have hx : (x.toUInt32 % 65536).toInt32 = x := by simpa using h
    show narrow .char (.int x) = .int x ∧ fits .char (.int x) = true
    rw [← hx]
    exact ⟨pk_nc x, pk_fc x⟩
  · rename_i x
    have hx : x.toInt8.toInt32 = x := by simpa using h
    show narrow .byte (.int x) = .int x ∧ fits .byte (.int x) = true
    refine ⟨by rw [narrow_byte, hx], ?_⟩
    rw [← hx]
    exact pk_fb x
  · cases h
theorem am_w_putf (hexec : p.tables.exec = Jvm.exec) (hb : c.code = cc) (hts : ∀ w ∈ am_ws, w.before args s = true) (hK : am_KK dC dI cA s) {own : String} (hown : s.vm.findClass own = some m.cls) {ci k idx : Nat} (hc : ci < 13) (hk : k < am_uN ci)
    (hlink : Cond.fieldLink own idx (am_uT ci k).1 (am_uT ci k).2.1 (am_uT ci k).2.2.1 ∈ am_ws) (hfin : (am_ft ci k).2 = true → meth.name = "<init>" ∧ am_cn ci = own) {a : Nat} {V : Nat → Value} {v : Value} (hat : t_OB a (dC ci) (am_uN ci) (dI ci) H V) (hn : narrow (am_ft ci k).1 v = v) (hfit : fits (am_ft ci k).1 v = true) (hdg : decode cc pc = .ok (.putfield idx, 3))
    (kk : ∀ (H1 : Heap) (z : Nat), t_OB a (dC ci) (am_uN ci) (dI ci) H1 (updV V k v) → H1.size = H.size → (∀ x, x ≠ a → H1[x]? = H[x]?) → W p l e R s m args below meth c H1 (locs ++ [⟨a, z⟩]) cells slots Q (F0 m (pc + 3) ls rest)) : W p l e R s m args below meth c H locs cells slots Q (F0 m pc ls (v :: .ref a :: rest)) := by
  have hap := am_apart hts hK hc
  obtain ⟨cell, q1, q2, q3, q4⟩ := hat
  obtain ⟨hS, hfc, kC, hkC, hkind⟩ := hK.1 ci hc
  obtain ⟨cf, kf, fi, f, hi, hsl⟩ := hS k hk
  obtain ⟨hd, hfe, hown2, hlay0, -⟩ := (am_Cf hc).2.2 k hk
  have hlay := hts _ hlay0
  have hst := (u_facts hfc hkC (u_lays hts (am_Cin hc) hk) hi).1
  unfold u_lay at hlay
  by_cases hf : (am_uT ci k).2.2.2 = true
  · rw [if_pos hf] at hlay
    obtain ⟨hin2, hce⟩ := hfin (by rw [← hfe]; exact hf)
    have hcf : m.cls = cf := by
      obtain ⟨_, _, c', _, _, _, -, -, hf', -, -, -, hown3, -⟩ := Cond.laysFinal_spec hlay
      have e1 : c' = cf := by have := hi.symm.trans hf'; simp at this; exact this.1.symm
      rw [hown2 hf, hce] at hown3
      rw [← e1]; exact Option.some.inj (hown.symm.trans hown3)
    have h6 := u_fits hfc hkC hkind (Or.inr hlay) hi hd hn hfit
    refine W.putFinK hexec hb hown (hts _ hlink) hi hst hcf hin2 (by rw [q2]; exact h6) q1 q3 (by rw [hsl]; exact k2_hasslot (q4 k hk)) rfl rfl hdg fun H' e1 e2 e3 => ?_
    rw [hsl] at e1 ⊢
    exact kk H' _ ⟨_, e1, q2, q3, t_set q4 hap hk v⟩ e2 e3
  · rw [if_neg hf] at hlay
    have h6 := u_store hfc hkC hkind hlay hi hd hn hfit
    refine W.putK hexec hb (f := f) ⟨hown, hts _ hlink, ⟨_, _, _, hi⟩, hst⟩ (by rw [q2]; exact h6) q1 q3 (by rw [hsl]; exact k2_hasslot (q4 k hk)) rfl rfl hdg fun H' e1 e2 e3 => ?_
    rw [hsl] at e1 ⊢
    exact kk H' _ ⟨_, e1, q2, q3, t_set q4 hap hk v⟩ e2 e3
end AMH
