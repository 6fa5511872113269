/-! One step, the induction, every method. The cases were written by program. -/
section AMS
variable {i : Nat → Nat} {sz : Nat} {dC : Nat → ClassId} {dI : Nat → Nat → Nat} {cA : FieldType → ClassId} {g : am_G} {B1 B2 : Nat}
variable {p : Program} {l : Launch} {e : Env} {R : Room} {s : State} {m : MethodId} {args : Array Value} {below : List Frame} {meth : Method} {c : Code} {H : Heap} {locs : List Loc} {cells slots : Nat} {Q : am_Ou → am_G → Prop}
variable {P d pc : Nat} {ls : Array Slot} {L : am_Lo} {st : List Value} {Go : am_Fr → Prop} {CQ : Nat → List Value → am_G → (am_Ou → am_G → Prop) → Prop}
theorem am_step (htr : e.platform.stackTraces = false) (hx0 : am_II i sz) (hx : am_Ctx i sz dC dI cA (d + 1) P p R s m args meth c) (hG : ∀ f, Go f → am_Go i sz dC dI cA P p l e R s m args below meth c B1 B2 Q f) (hL : am_LR i L ls (am_m P)) (hV : am_V i sz dC dI cA s R B1 B2 g H locs cells slots) {ins : Instr} (hdc : am_dc P pc = some ins) (hr : am_GR Go (am_SC i sz dC dI cA d) P Q (am_S P ins pc L st g)) : W p l e R s m args below meth c H locs cells slots (am_Z i sz dC dI cA s below B1 B2 Q) (F0 m pc ls (st.map (am_v i))) := by
  cases ins
  case iconst => exact am_s_iconst hx hG hL hV hdc hr
  case bipush => exact am_s_bipush hx hG hL hV hdc hr
  case sipush => exact am_s_sipush hx hG hL hV hdc hr
  case lconst => exact am_s_lconst hx hG hL hV hdc hr
  case fconst => exact am_s_fconst hx hG hL hV hdc hr
  case iload_n => exact am_s_iload_n hx hG hL hV hdc hr
  case iload => exact am_s_iload hx hG hL hV hdc hr
  case lload_n => exact am_s_lload_n hx hG hL hV hdc hr
  case lload => exact am_s_lload hx hG hL hV hdc hr
  case fload_n => exact am_s_fload_n hx hG hL hV hdc hr
  case fload => exact am_s_fload hx hG hL hV hdc hr
  case aload_n => exact am_s_aload_n hx hG hL hV hdc hr
  case aload => exact am_s_aload hx hG hL hV hdc hr
  case istore_n => exact am_s_istore_n hx hG hL hV hdc hr
  case istore => exact am_s_istore hx hG hL hV hdc hr
  case lstore_n => exact am_s_lstore_n hx hG hL hV hdc hr
  case lstore => exact am_s_lstore hx hG hL hV hdc hr
  case fstore_n => exact am_s_fstore_n hx hG hL hV hdc hr
  case fstore => exact am_s_fstore hx hG hL hV hdc hr
  case astore_n => exact am_s_astore_n hx hG hL hV hdc hr
  case astore => exact am_s_astore hx hG hL hV hdc hr
  case iinc => exact am_s_iinc hx hG hL hV hdc hr
  case iadd => exact am_s_iadd hx hG hL hV hdc hr
  case isub => exact am_s_isub hx hG hL hV hdc hr
  case imul => exact am_s_imul hx hG hL hV hdc hr
  case iand => exact am_s_iand hx hG hL hV hdc hr
  case ladd => exact am_s_ladd hx hG hL hV hdc hr
  case lsub => exact am_s_lsub hx hG hL hV hdc hr
  case lmul => exact am_s_lmul hx hG hL hV hdc hr
  case idiv => exact am_s_idiv hx hG hL hV hdc hr
  case irem => exact am_s_irem hx hG hL hV hdc hr
  case ldiv => exact am_s_ldiv hx hG hL hV hdc hr
  case lrem => exact am_s_lrem hx hG hL hV hdc hr
  case ineg => exact am_s_ineg hx hG hL hV hdc hr
  case lneg => exact am_s_lneg hx hG hL hV hdc hr
  case lcmp => exact am_s_lcmp hx hG hL hV hdc hr
  case i2l => exact am_s_i2l hx hG hL hV hdc hr
  case l2i => exact am_s_l2i hx hG hL hV hdc hr
  case i2c => exact am_s_i2c hx hG hL hV hdc hr
  case i2f => exact am_s_i2f hx hG hL hV hdc hr
  case f2d => exact am_s_f2d hx hG hL hV hdc hr
  case fdiv => exact am_s_fdiv hx hG hL hV hdc hr
  case fcmp => exact am_s_fcmp hx hG hL hV hdc hr
  case dcmp => exact am_s_dcmp hx hG hL hV hdc hr
  case dup => exact am_s_dup hx hG hL hV hdc hr
  case pop => exact am_s_pop hx hG hL hV hdc hr
  case dup2 => exact am_s_dup2 hx hG hL hV hdc hr
  case goto => exact am_s_goto hx hG hL hV hdc hr
  case tableswitch => exact am_s_tsw hx hG hL hV hdc hr
  case getfield => exact am_s_getfield hx hG hL hV hdc hr
  case putfield => exact am_s_putfield hx hG hL hV hx0 hdc hr
  case getstatic => exact am_s_getstatic hx hG hL hV hdc hr
  case ldc => exact am_s_ldc hx hG hL hV hdc hr
  case ldc2_w => exact am_s_ldc2_w hx hG hL hV hdc hr
  case arraylength => exact am_s_arraylength hx hG hL hV hdc hr
  case iaload => exact am_s_iaload hx hG hL hV hdc hr
  case baload => exact am_s_baload hx hG hL hV hdc hr
  case caload => exact am_s_caload hx hG hL hV hdc hr
  case laload => exact am_s_laload hx hG hL hV hdc hr
  case daload => exact am_s_daload hx hG hL hV hdc hr
  case aaload => exact am_s_aaload hx hG hL hV hdc hr
  case iastore => exact am_s_iastore hx hG hL hV hx0 hdc hr
  case bastore => exact am_s_bastore hx hG hL hV hx0 hdc hr
  case castore => exact am_s_castore hx hG hL hV hx0 hdc hr
  case lastore => exact am_s_lastore hx hG hL hV hx0 hdc hr
  case dastore => exact am_s_dastore hx hG hL hV hx0 hdc hr
  case aastore => exact am_s_aastore hx hG hL hV hx0 hdc hr
  case newarray => exact am_s_newarray hx hG hL hV hx0 hdc hr
  case anewarray => exact am_s_anewarray hx hG hL hV hx0 hdc hr
  case multianewarray => exact am_s_mul hx hG hL hV hx0 hdc hr
  case ifCond c0 off =>
    cases c0
    case eq => exact am_s_ifCond_eq hx hG hL hV hdc hr
    case ne => exact am_s_ifCond_ne hx hG hL hV hdc hr
    case lt => exact am_s_ifCond_lt hx hG hL hV hdc hr
    case ge => exact am_s_ifCond_ge hx hG hL hV hdc hr
    case gt => exact am_s_ifCond_gt hx hG hL hV hdc hr
    case le => exact am_s_ifCond_le hx hG hL hV hdc hr
  case if_icmp c0 off =>
    cases c0
    case eq => exact am_s_if_icmp_eq hx hG hL hV hdc hr
    case ne => exact am_s_if_icmp_ne hx hG hL hV hdc hr
    case lt => exact am_s_if_icmp_lt hx hG hL hV hdc hr
    case ge => exact am_s_if_icmp_ge hx hG hL hV hdc hr
    case gt => exact am_s_if_icmp_gt hx hG hL hV hdc hr
    case le => exact am_s_if_icmp_le hx hG hL hV hdc hr
  case invokestatic => exact am_s_invokestatic htr hx0 hx hG hL hV hdc hr
  case invokevirtual => exact am_s_invokevirtual htr hx0 hx hG hL hV hdc hr
  case invokespecial => exact am_s_invokespecial htr hx0 hx hG hL hV hdc hr
  case new => exact am_s_new htr hx0 hx hG hL hV hdc hr
  case ireturn => exact am_s_ret hx hV (by simp) hdc hr
  case lreturn => exact am_s_ret hx hV (by simp) hdc hr
  case freturn => exact am_s_ret hx hV (by simp) hdc hr
  case areturn => exact am_s_ret hx hV (by simp) hdc hr
  case return_ => exact am_s_ret hx hV (by simp) hdc hr
  case dup_x1 => exact am_s_dup_x1 hx hG hL hV hdc hr
  case i2b => exact am_s_i2b hx hG hL hV hdc hr
  case ifnonnull => exact am_s_ifnonnull hx hG hL hV hdc hr
  case ishl => exact am_s_ishl hx hG hL hV hdc hr
  case ishr => exact am_s_ishr hx hG hL hV hdc hr
  all_goals exact False.elim hr
theorem am_sound_W (htr : e.platform.stackTraces = false) (hx0 : am_II i sz) (hx : am_Ctx i sz dC dI cA (d + 1) P p R s m args meth c) (hSC : ∀ M as g Q, am_C d M as g Q → am_SC i sz dC dI cA d M as g Q) : ∀ (n : Nat) (f : am_Fr), am_W (am_C d) P Q n f → am_Go i sz dC dI cA P p l e R s m args below meth c B1 B2 Q f := by
  intro n
  induction n with
  | zero => intro f h; exact h.elim
  | succ n ih =>
    intro f h
    unfold am_W at h
    split at h <;> rename_i e0
    · rename_i ins
      have hr : am_GR (am_W (am_C d) P Q n) (am_SC i sz dC dI cA d) P Q (am_S P ins f.1 f.2.1 f.2.2.1 f.2.2.2) := by
        split at h <;> rename_i e2
        · exact h.elim
        · rw [e2]; exact h
        · rw [e2]; exact h
        · rw [e2]; exact hSC _ _ _ _ h
      obtain ⟨pc, L, st, g⟩ := f
      intro ls H locs cells slots hL hV
      exact am_step htr hx0 hx ih hL hV e0 hr
    · exact h.elim
theorem am_sound (hx0 : am_II i sz) : ∀ (d M : Nat) (as : List Value) (g : am_G) (Q : am_Ou → am_G → Prop), am_C d M as g Q → am_SC i sz dC dI cA d M as g Q := by
  intro d
  induction d with
  | zero => intro M as g Q h; exact h.elim
  | succ d ih =>
    intro M as g Q h p l e R s m below meth c T htr hx X hT hR hNS hc hs
    obtain ⟨h0, n, hw⟩ := h
    have hGo := am_sound_W (l := l) (below := below) (B1 := g.2.2.1) (B2 := g.2.2.2) htr hx0 hx ih n _ hw
    have hV : am_V i sz dC dI cA s R g.2.2.1 g.2.2.2 g T.heap [] 0 0 := ⟨by rw [hT]; exact hR, fun q _ => by rw [hT], fun q hq => (by cases hq), by omega, by omega, hc, hs, by rw [hT]; exact hNS⟩
    have hE := hGo _ T.heap [] 0 0 (am_LR.entry h0) hV T rfl X
    rw [lg_entry_eq]
    exact hE
end AMS
