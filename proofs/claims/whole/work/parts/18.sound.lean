/-! The abstract machine is sound: calls, ends, and the induction. -/
section AMS
variable {i : Nat → Nat} {sz : Nat} {dC : Nat → ClassId} {dI : Nat → Nat → Nat} {cA : FieldType → ClassId} {g : am_G} {B1 B2 : Nat}
variable {p : Program} {l : Launch} {e : Env} {R : Room} {s : State} {m : MethodId} {args : Array Value} {below : List Frame} {meth : Method} {c : Code} {H : Heap} {locs : List Loc} {cells slots : Nat} {Q : am_Ou → am_G → Prop}
variable {P d pc : Nat} {ls : Array Slot} {L : am_Lo} {st : List Value} {Go : am_Fr → Prop} {CQ : Nat → List Value → am_G → (am_Ou → am_G → Prop) → Prop}
theorem am_LR.size {nL : Nat} (h : am_LR i L ls nL) : ls.size = nL := by
  obtain ⟨-, lv, h1, -⟩ := h
  exact h1.1
theorem am_take_rev {n : Nat} (h : n ≤ st.length) : st = ((st.take n).reverse).reverse ++ st.drop n := by
  rw [List.reverse_reverse, List.take_append_drop]
theorem am_take_one {n a : Nat} (h : n + 1 ≤ st.length) (hr : st.getD n .null = .ref a) : (st.take (n + 1)).reverse = .ref a :: (st.take n).reverse := by
  rw [List.take_add_one]
  have h1 : st[n]? = some st[n] := List.getElem?_eq_getElem (by omega)
  rw [List.getD_eq_getElem?_getD, h1] at hr
  have h2 : st[n] = .ref a := hr
  rw [h1, h2]
  simp
theorem am_s_invokestatic (htr : e.platform.stackTraces = false) (hx0 : am_II i sz) (hx : am_Ctx i sz dC dI cA (d + 1) P p R s m args meth c) (hG : ∀ f, Go f → am_Go i sz dC dI cA P p l e R s m args below meth c B1 B2 Q f) (hL : am_LR i L ls (am_m P)) (hV : am_V i sz dC dI cA s R B1 B2 g H locs cells slots) {k : Nat} (hdc : am_dc P pc = some (.invokestatic k)) (hr : am_GR Go (am_SC i sz dC dI cA d) P Q (am_S P (.invokestatic k) pc L st g)) : W p l e R s m args below meth c H locs cells slots (am_Z i sz dC dI cA s below B1 B2 Q) (F0 m pc ls (st.map (am_v i))) := by
  unfold am_S at hr; dsimp only at hr
  have hd := am_dcK (k := 3) hdc fun _ => rfl
  have hP := hx.2.2.2.2.2.2.2.2.2.2.2.2.2.2
  split at hr <;> rename_i e0
  · split at hr
    · rename_i M0 n0 n dp a sp a0 r
      split at hr <;> rename_i c7
      · have key : ∀ {ty : FieldType} {g' : am_G}, ty ∈ [FieldType.int, FieldType.byte] → am_cp ty g a0 a sp dp n = some g' → Go (pc + 3, L, r, g') → W p l e R s m args below meth c H locs cells slots (am_Z i sz dC dI cA s below B1 B2 Q) (F0 m pc ls ((.int n :: .int dp :: .ref a :: .int sp :: .ref a0 :: r : List Value).map (am_v i))) := by
          intro ty g' hty h hgo
          unfold am_cp at h
          obtain ⟨x, h1, h⟩ := Option.bind_eq_some_iff.mp h
          obtain ⟨z, h2, h⟩ := Option.bind_eq_some_iff.mp h
          split at h <;> rename_i e1
          · cases h
            obtain ⟨c1, c2, c3, c4, c5, c6, c8⟩ := e1
            exact am_w_copy hx0 hx hV e0 hL.size (by rw [List.length_map]; exact c7) hty h1 h2 c3 c2 c1 c4 c5 c6 (fun j hj => List.all_eq_true.mp c8 j (List.mem_range.mpr hj)) hd fun H1 locs1 hV1 => hG _ hgo _ _ _ _ _ hL hV1
          · cases h
        split at hr <;> rename_i e1
        · exact key (by simp) e1 hr
        · cases e2 : am_cp .byte g a0 a sp dp n with
          | none => rw [e2] at hr; exact hr.elim
          | some g' => rw [e2] at hr; exact key (by simp) e2 hr
      · exact hr.elim
    · exact hr.elim
  · unfold am_inv at hr
    cases h1 : am_iv P k with
    | none => rw [h1] at hr; exact hr.elim
    | some q =>
      obtain ⟨kd, M, n⟩ := q
      rw [h1] at hr
      dsimp only at hr
      split at hr <;> rename_i e1
      · obtain ⟨k1, k2, k3⟩ := e1
        obtain rfl : kd = 0 := by simpa using k1
        obtain ⟨-, -, hN, h2, h3, h4⟩ := am_iv0 hP h1
        refine am_w_call htr hx0 hx hV h3 h2 h4 hr hL.size hd k3 (fun T hT X => ?_) fun pc' st' g' H' locs' cells' slots' hq hV' => hG _ hq _ _ _ _ _ hL hV'
        have := am_lkS (pc := pc) (ls := ls) (rest := (st.drop n).map (am_v i)) hx X h1 (vs := (st.take n).reverse.map (am_v i)) (by simp; omega) hd
        have e9 : st.map (am_v i) = ((st.take n).reverse.map (am_v i)).reverse ++ (st.drop n).map (am_v i) := by
          rw [← List.map_reverse, ← List.map_append, ← am_take_rev k2]
        rw [e9]
        exact this
      · exact hr.elim
theorem am_lk167 {T : State} {rest : List Value} (hx : am_Ctx i sz dC dI cA d P p R s m args meth c) (X : Stand p l e R s m args below meth c T locs cells slots) {idx M n kd : Nat} (hkd : kd = 1 ∨ kd = 6 ∨ kd = 7) (hiv : am_iv P idx = some (kd, M, n)) {vs : List Value} {b ci : Nat} (hl : vs.length + 1 = n) {cell : Cell} (hcell : T.heap[b]? = some cell) (hvm : am_vm cell) (hcn : s.vm.findClass (am_n (am_co ci)) = some cell.cls) (h2 : M < 318) (hc : (if kd = 1 then am_co ci == am_o M else ci == 12) = true) (hdg : decode (am_b P) pc = .ok (.invokevirtual idx, 3)) : am_LK p l e R s m args below meth c T locs cells slots pc ls (vs.reverse ++ .ref b :: rest) rest M (.ref b :: vs) := by
  rcases hkd with rfl | hkd
  · rw [if_pos rfl, beq_iff_eq] at hc
    rw [hc, (am_Mf h2).1] at hcn
    exact am_lkV hx X hiv hl hcell hvm hcn hdg
  · rw [if_neg (by rcases hkd with rfl | rfl <;> decide), beq_iff_eq] at hc
    subst hc
    have e9 : am_n (am_co 12) = "java/lang/StringBuilder" := by decide +kernel
    rw [e9] at hcn
    exact am_lkW hx X hkd hiv hl hcell hvm hcn hdg
theorem am_s_invokevirtual (htr : e.platform.stackTraces = false) (hx0 : am_II i sz) (hx : am_Ctx i sz dC dI cA (d + 1) P p R s m args meth c) (hG : ∀ f, Go f → am_Go i sz dC dI cA P p l e R s m args below meth c B1 B2 Q f) (hL : am_LR i L ls (am_m P)) (hV : am_V i sz dC dI cA s R B1 B2 g H locs cells slots) {k : Nat} (hdc : am_dc P pc = some (.invokevirtual k)) (hr : am_GR Go (am_SC i sz dC dI cA d) P Q (am_S P (.invokevirtual k) pc L st g)) : W p l e R s m args below meth c H locs cells slots (am_Z i sz dC dI cA s below B1 B2 Q) (F0 m pc ls (st.map (am_v i))) := by
  unfold am_S at hr; dsimp only at hr
  have hd := am_dcK (k := 3) hdc fun _ => rfl
  have hP := hx.2.2.2.2.2.2.2.2.2.2.2.2.2.2
  split at hr <;> rename_i e0
  · unfold am_inv at hr
    cases h1 : am_iv P k with
    | none => rw [h1] at hr; exact hr.elim
    | some q =>
      obtain ⟨kd, M, n⟩ := q
      rw [h1] at hr
      unfold am_rcv at e0
      rw [h1] at e0
      dsimp only at hr e0
      split at hr <;> rename_i e1
      · obtain ⟨k1, k2, k3⟩ := e1
        have k1 : kd = 1 ∨ kd = 6 ∨ kd = 7 := by simpa using k1
        have key : am_NP.getD M 0 + 1 = n ∧ M < 318 ∧ 1 ≤ M ∧ am_o M ≠ 21 := by
          rcases k1 with rfl | rfl | rfl
          · exact (am_iv1 hP h1).2.2.2
          · exact (am_iv6 hP h1).2.2.2
          · exact (am_iv7 hP h1).2.2
        obtain ⟨hN, h2, h3, h4⟩ := key
        obtain ⟨n', rfl⟩ : ∃ n', n = n' + 1 := ⟨n - 1, by omega⟩
        rw [Nat.add_sub_cancel] at e0
        split at e0 <;> rename_i e2
        · rename_i a
          split at e0 <;> rename_i e3
          · rename_i ci
            simp only [Bool.and_eq_true, decide_eq_true_eq, beq_iff_eq] at e0
            obtain ⟨V, e4⟩ := am_oc_eq e3
            obtain ⟨-, ⟨hci, -⟩, cell, q1, q2, ⟨q3, -⟩, -⟩ := hV.1.1 _ _ e4
            have e5 := am_take_one k2 e2
            refine am_w_call htr hx0 hx hV h3 h2 h4 hr hL.size hd k3 (fun T hT X => ?_) fun pc' st' g' H' locs' cells' slots' hq hV' => hG _ hq _ _ _ _ _ hL hV'
            have hcn : s.vm.findClass (am_n (am_co ci)) = some cell.cls := by
              rcases Nat.lt_or_ge ci 13 with h13 | h13
              · have h5 := (hx.2.2.2.2.2.2.2.2.2.2.1.1 ci h13).2.1
                rw [(am_Cf h13).2.1, h5, q2]
              · obtain rfl : ci = 13 := by omega
                rw [q2]
                exact hx.2.2.2.2.2.2.2.2.2.2.2.2.2.1.2.2.1.2.1
            have := am_lk167 (pc := pc) (ls := ls) (rest := (st.drop (n' + 1)).map (am_v i)) hx X k1 h1 (vs := (st.take n').reverse.map (am_v i)) (b := i a) (by simp; omega) (by rw [hT]; exact q1) q3 hcn h2 e0.2 hd
            have e9 : st.map (am_v i) = ((st.take n').reverse.map (am_v i)).reverse ++ .ref (i a) :: (st.drop (n' + 1)).map (am_v i) := by
              conv => lhs; rw [am_take_rev (st := st) k2, e5]
              simp [am_v]
            rw [e9, e5]
            exact this
          · cases e0
        · cases e0
      · exact hr.elim
  · exact hr.elim
set_option maxRecDepth 100000 in
theorem am_kNe : ((List.range 32).all fun o => (am_tI.getD o []).all fun r => r.2.1 != 5 || decide ((am_n o, r.1, am_y r.2.2.1) ∈ am_nests)) = true := by decide +kernel
theorem am_nestIn {P k M n : Nat} (hP : P < 318) (h : am_iv P k = some (5, M, n)) : (am_n (am_o P), k, am_y M) ∈ am_nests := by
  unfold am_iv at h
  obtain ⟨r, h1, h0⟩ := Option.map_eq_some_iff.mp h
  obtain ⟨h2, h3⟩ := am_find h1
  have h4 := List.all_eq_true.mp (List.all_eq_true.mp am_kNe (am_o P) (List.mem_range.mpr (am_Mf hP).2.2.2.1)) r h2
  simp only [Prod.mk.injEq] at h0
  obtain ⟨g1, g2, g3⟩ := h0
  have h8 : r.1 = k := by simpa using h3
  rw [g1, g2, h8] at h4
  simpa using h4
theorem am_s_invokespecial (htr : e.platform.stackTraces = false) (hx0 : am_II i sz) (hx : am_Ctx i sz dC dI cA (d + 1) P p R s m args meth c) (hG : ∀ f, Go f → am_Go i sz dC dI cA P p l e R s m args below meth c B1 B2 Q f) (hL : am_LR i L ls (am_m P)) (hV : am_V i sz dC dI cA s R B1 B2 g H locs cells slots) {k : Nat} (hdc : am_dc P pc = some (.invokespecial k)) (hr : am_GR Go (am_SC i sz dC dI cA d) P Q (am_S P (.invokespecial k) pc L st g)) : W p l e R s m args below meth c H locs cells slots (am_Z i sz dC dI cA s below B1 B2 Q) (F0 m pc ls (st.map (am_v i))) := by
  unfold am_S at hr; dsimp only at hr
  have hd := am_dcK (k := 3) hdc fun _ => rfl
  have hP := hx.2.2.2.2.2.2.2.2.2.2.2.2.2.2
  split at hr <;> rename_i e0
  · split at hr
    · split at hr <;> rename_i e1
      · exact am_w_oini hx e0 hL.size (by rw [List.length_map]; exact e1) hd (hG _ hr _ _ _ _ _ hL hV)
      · exact hr.elim
    · exact hr.elim
  · split at hr <;> rename_i e9
    · unfold am_inv at hr
      rw [e0] at hr
      unfold am_rcv at e9
      rw [e0] at e9
      dsimp only at hr e9
      split at hr <;> rename_i e1
      · obtain ⟨k1, k2, k3⟩ := e1
        obtain ⟨-, -, -, hN, h2, h3, h4, -⟩ := am_iv8 hP e0
        rename_i M n
        obtain ⟨n', rfl⟩ : ∃ n', n = n' + 1 := ⟨n - 1, by omega⟩
        rw [Nat.add_sub_cancel] at e9
        split at e9 <;> rename_i e2
        · rename_i a
          split at e9 <;> rename_i e3
          · rename_i ci
            simp only [Bool.and_eq_true, decide_eq_true_eq] at e9
            obtain ⟨-, e9⟩ := e9
            rw [if_neg (by decide), beq_iff_eq] at e9
            subst e9
            obtain ⟨V, e4⟩ := am_oc_eq e3
            obtain ⟨-, -, cell, q1, q2, ⟨q3, -⟩, -⟩ := hV.1.1 _ _ e4
            have e5 := am_take_one k2 e2
            refine am_w_call htr hx0 hx hV h3 h2 h4 hr hL.size hd k3 (fun T hT X => ?_) fun pc' st' g' H' locs' cells' slots' hq hV' => hG _ hq _ _ _ _ _ hL hV'
            have hcls : s.vm.findClass "java/lang/StringBuilder" = some cell.cls := by
              have h5 := (hx.2.2.2.2.2.2.2.2.2.2.1.1 12 (by decide)).2.1
              rw [q2]
              exact h5
            have := am_lkU (pc := pc) (ls := ls) (rest := (st.drop (n' + 1)).map (am_v i)) hx X e0 (vs := (st.take n').reverse.map (am_v i)) (b := i a) (by simp; omega) (by rw [hT]; exact q1) q3 hcls hd
            have e8 : st.map (am_v i) = ((st.take n').reverse.map (am_v i)).reverse ++ .ref (i a) :: (st.drop (n' + 1)).map (am_v i) := by
              conv => lhs; rw [am_take_rev (st := st) k2, e5]
              simp [am_v]
            rw [e8, e5]
            exact this
          · cases e9
        · cases e9
      · exact hr.elim
    · exact hr.elim
  · split at hr <;> rename_i e9
    · unfold am_inv at hr
      cases h1 : am_iv P k with
      | none => rw [h1] at hr; exact hr.elim
      | some q =>
        obtain ⟨kd, M, n⟩ := q
        rw [h1] at hr
        unfold am_ref at e9
        rw [h1] at e9
        dsimp only at hr e9
        split at hr <;> rename_i e1
        · obtain ⟨k1, k2, k3⟩ := e1
          split at e9 <;> rename_i e2
          · rename_i a
            have k1 : kd = 2 ∨ kd = 5 := by simpa using k1
            have key : am_NP.getD M 0 + 1 = n ∧ M < 318 ∧ 1 ≤ M ∧ am_o M ≠ 21 := by
              rcases k1 with rfl | rfl
              · exact (am_iv2 hP h1).2.2.2
              · exact (am_iv5 hP h1).2.2.2
            obtain ⟨hN, h2, h3, h4⟩ := key
            obtain ⟨n', rfl⟩ : ∃ n', n = n' + 1 := ⟨n - 1, by omega⟩
            rw [Nat.add_sub_cancel] at e2
            have e5 := am_take_one k2 e2
            refine am_w_call htr hx0 hx hV h3 h2 h4 hr hL.size hd k3 (fun T hT X => ?_) fun pc' st' g' H' locs' cells' slots' hq hV' => hG _ hq _ _ _ _ _ hL hV'
            have e8 : st.map (am_v i) = ((st.take n').reverse.map (am_v i)).reverse ++ .ref (i a) :: (st.drop (n' + 1)).map (am_v i) := by
              conv => lhs; rw [am_take_rev (st := st) k2, e5]
              simp [am_v]
            rw [e8, e5]
            rcases k1 with rfl | rfl
            · exact am_lkI (pc := pc) (ls := ls) (rest := (st.drop (n' + 1)).map (am_v i)) hx X h1 (vs := (st.take n').reverse.map (am_v i)) (b := i a) (by simp; omega) hd
            · exact am_lkN (pc := pc) (ls := ls) (rest := (st.drop (n' + 1)).map (am_v i)) hx X h1 (vs := (st.take n').reverse.map (am_v i)) (b := i a) (by simp; omega) (am_nestIn hP h1) hd
          · cases e9
        · exact hr.elim
    · exact hr.elim
theorem am_s_new (htr : e.platform.stackTraces = false) (hx0 : am_II i sz) (hx : am_Ctx i sz dC dI cA d P p R s m args meth c) (hG : ∀ f, Go f → am_Go i sz dC dI cA P p l e R s m args below meth c B1 B2 Q f) (hL : am_LR i L ls (am_m P)) (hV : am_V i sz dC dI cA s R B1 B2 g H locs cells slots) {k : Nat} (hdc : am_dc P pc = some (.new k)) (hr : am_GR Go CQ P Q (am_S P (.new k) pc L st g)) : W p l e R s m args below meth c H locs cells slots (am_Z i sz dC dI cA s below B1 B2 Q) (F0 m pc ls (st.map (am_v i))) := by
  unfold am_S at hr; dsimp only at hr
  have hd := am_dcK (k := 3) hdc fun _ => rfl
  have hP := hx.2.2.2.2.2.2.2.2.2.2.2.2.2.2
  have v4 := hV.2.2.2.1; have v5 := hV.2.2.2.2.1; have v6 := hV.2.2.2.2.2.1; have v7 := hV.2.2.2.2.2.2.1
  split at hr <;> rename_i e0
  · split at hr <;> rename_i e1
    · exact am_w_new hx.1 hx.2.1 hx.2.2.2.2.2.1 hx.2.2.2.2.2.2.2.2.2.2.1 hx0 hV.1 hP hx.2.2.2.2.1 e0 (by omega) (by omega) hd fun H1 hR1 o1 => hG _ hr _ _ _ _ _ hL (hV.new hx0 hR1 o1 (Nat.le_succ _) am_psh_tr e1.1 e1.2 rfl rfl)
    · exact hr.elim
  · cases h1 : am_xw P k with
    | none => rw [h1] at hr; exact hr.elim
    | some q =>
      rw [h1, Option.bind_some] at hr
      split at hr <;> rename_i e1
      · obtain ⟨d3, d4, d7, c1, c2, c3, c4⟩ := e1
        exact am_w_throw htr hx0 hx hV h1 c2 hL.size (by rw [List.length_map]; exact c1) c3 c4 hd d3 d4 d7 hr
      · exact hr.elim
theorem am_s_ret (hx : am_Ctx i sz dC dI cA d P p R s m args meth c) (hV : am_V i sz dC dI cA s R B1 B2 g H locs cells slots) {ins : Instr} (hi : ins = .ireturn ∨ ins = .lreturn ∨ ins = .freturn ∨ ins = .areturn ∨ ins = .return_) (hdc : am_dc P pc = some ins) (hr : am_GR Go CQ P Q (am_S P ins pc L st g)) : W p l e R s m args below meth c H locs cells slots (am_Z i sz dC dI cA s below B1 B2 Q) (F0 m pc ls (st.map (am_v i))) := by
  rcases hi with rfl | rfl | rfl | rfl | rfl
  · unfold am_S at hr; dsimp only at hr
    split at hr
    · split at hr <;> rename_i e0
      · exact am_w_iret hx hV e0 (am_dcK (k := 1) hdc fun _ => rfl) hr
      · exact hr.elim
    · exact hr.elim
  · unfold am_S at hr; dsimp only at hr
    split at hr
    · split at hr <;> rename_i e0
      · exact am_w_lret hx hV e0 (am_dcK (k := 1) hdc fun _ => rfl) hr
      · exact hr.elim
    · exact hr.elim
  · unfold am_S at hr; dsimp only at hr
    split at hr
    · split at hr <;> rename_i e0
      · exact am_w_fret hx hV e0 (am_dcK (k := 1) hdc fun _ => rfl) hr
      · exact hr.elim
    · exact hr.elim
  · unfold am_S at hr; dsimp only at hr
    split at hr
    · split at hr <;> rename_i e0
      · exact am_w_aret hx hV e0 (am_dcK (k := 1) hdc fun _ => rfl) hr
      · exact hr.elim
    · exact hr.elim
  · unfold am_S at hr; dsimp only at hr
    split at hr
    · split at hr <;> rename_i e0
      · exact am_w_vret hx hV e0 (am_dcK (k := 1) hdc fun _ => rfl) hr
      · exact hr.elim
    · exact hr.elim
end AMS
