/-! The reference's constructor, cell by cell. Written by program (wip/gen/genctor.py). -/
section QS
variable {L : Nat} {xs : Nat → Int32} {z : Value} {Lc : am_Lo} {st : List Value}
def qV103 : Nat → Value := fun k => defaultValue (am_ft 11 k).1
def qX175 : mm_X := fun b => if b = 129 then some (.inr (11, qV103)) else qX174 b
def qH187 (L : Nat) (xs : Nat → Int32) (z : Value) : am_G := mm_hp (L, xs, z, qP5) qM7 qX175 (130, 600926, 7288344)
theorem qS187 : am_psh (qH186 L xs z) (.inr (11, qV103)) 69 = (qH187 L xs z) := qpsh (w := (L, xs, z, qP5)) (μ := qM7) (X := qX174) (n := (129, 600927, 7288413)) (by decide) rfl rfl rfl
theorem qJ187 : am_S 0 (.new 91) 8 Lc st (qH186 L xs z) = am_go 11 Lc (.ref 129 :: st) (qH187 L xs z) := qnew w_0_91 (show 1 ≤ 600927 by decide) (show am_nf 11 ≤ 7288413 by decide) rfl qS187 rfl
def qX176 : mm_X := fun b => if b = 130 then some (.inl (.boolean, 18, .inl fun _ => 0)) else qX175 b
def qH188 (L : Nat) (xs : Nat → Int32) (z : Value) : am_G := mm_hp (L, xs, z, qP5) qM7 qX176 (131, 600925, 7288326)
theorem qS188 : am_psh (qH187 L xs z) (.inl (.boolean, 18, .inl fun _ => 0)) 18 = (qH188 L xs z) := qpsh (w := (L, xs, z, qP5)) (μ := qM7) (X := qX175) (n := (130, 600926, 7288344)) (by decide) rfl rfl rfl
theorem qJ188 : am_S 156 (.newarray .boolean) 7 Lc (.int (Int32.ofInt 18) :: st) (qH187 L xs z) = am_go 9 Lc (.ref 130 :: st) (qH188 L xs z) := qnwa (by decide) (by decide) (by decide) rfl (show 1 ≤ 600926 by decide) (show 18 ≤ 7288344 by decide) rfl qS188 rfl
def qV104 : Nat → Value := updV qV103 1 (.ref 130)
def qX177 : mm_X := fun b => if b = 129 then some (.inr (11, qV104)) else qX176 b
def qH189 (L : Nat) (xs : Nat → Int32) (z : Value) : am_G := mm_hp (L, xs, z, qP5) qM7 qX177 (131, 600925, 7288326)
theorem qJ189 : am_pf (qH188 L xs z) 129 11 1 (.ref 130) = some (qH189 L xs z) := qpf (w := (L, xs, z, qP5)) (μ := qM7) (X := qX176) (n := (131, 600925, 7288326)) (V := qV103) (by decide) rfl rfl rfl
def qX178 : mm_X := fun b => if b = 131 then some (.inl (.int, 18, .inl fun _ => 0)) else qX177 b
def qH190 (L : Nat) (xs : Nat → Int32) (z : Value) : am_G := mm_hp (L, xs, z, qP5) qM7 qX178 (132, 600924, 7288308)
theorem qS190 : am_psh (qH189 L xs z) (.inl (.int, 18, .inl fun _ => 0)) 18 = (qH190 L xs z) := qpsh (w := (L, xs, z, qP5)) (μ := qM7) (X := qX177) (n := (131, 600925, 7288326)) (by decide) rfl rfl rfl
theorem qJ190 : am_S 156 (.newarray .int) 15 Lc (.int (Int32.ofInt 18) :: st) (qH189 L xs z) = am_go 17 Lc (.ref 131 :: st) (qH190 L xs z) := qnwa (by decide) (by decide) (by decide) rfl (show 1 ≤ 600925 by decide) (show 18 ≤ 7288326 by decide) rfl qS190 rfl
def qV105 : Nat → Value := updV qV104 2 (.ref 131)
def qX179 : mm_X := fun b => if b = 129 then some (.inr (11, qV105)) else qX178 b
def qH191 (L : Nat) (xs : Nat → Int32) (z : Value) : am_G := mm_hp (L, xs, z, qP5) qM7 qX179 (132, 600924, 7288308)
theorem qJ191 : am_pf (qH190 L xs z) 129 11 2 (.ref 131) = some (qH191 L xs z) := qpf (w := (L, xs, z, qP5)) (μ := qM7) (X := qX178) (n := (132, 600924, 7288308)) (V := qV104) (by decide) rfl rfl rfl
def qX180 : mm_X := fun b => if b = 132 then some (.inl (.int, 18, .inl fun _ => 0)) else qX179 b
def qH192 (L : Nat) (xs : Nat → Int32) (z : Value) : am_G := mm_hp (L, xs, z, qP5) qM7 qX180 (133, 600923, 7288290)
theorem qS192 : am_psh (qH191 L xs z) (.inl (.int, 18, .inl fun _ => 0)) 18 = (qH192 L xs z) := qpsh (w := (L, xs, z, qP5)) (μ := qM7) (X := qX179) (n := (132, 600924, 7288308)) (by decide) rfl rfl rfl
theorem qJ192 : am_S 156 (.newarray .int) 23 Lc (.int (Int32.ofInt 18) :: st) (qH191 L xs z) = am_go 25 Lc (.ref 132 :: st) (qH192 L xs z) := qnwa (by decide) (by decide) (by decide) rfl (show 1 ≤ 600924 by decide) (show 18 ≤ 7288308 by decide) rfl qS192 rfl
def qV106 : Nat → Value := updV qV105 3 (.ref 132)
def qX181 : mm_X := fun b => if b = 129 then some (.inr (11, qV106)) else qX180 b
def qH193 (L : Nat) (xs : Nat → Int32) (z : Value) : am_G := mm_hp (L, xs, z, qP5) qM7 qX181 (133, 600923, 7288290)
theorem qJ193 : am_pf (qH192 L xs z) 129 11 3 (.ref 132) = some (qH193 L xs z) := qpf (w := (L, xs, z, qP5)) (μ := qM7) (X := qX180) (n := (133, 600923, 7288290)) (V := qV105) (by decide) rfl rfl rfl
def qX182 : mm_X := fun b => if b = 133 then some (.inl (.int, 18, .inl fun _ => 0)) else qX181 b
def qH194 (L : Nat) (xs : Nat → Int32) (z : Value) : am_G := mm_hp (L, xs, z, qP5) qM7 qX182 (134, 600922, 7288272)
theorem qS194 : am_psh (qH193 L xs z) (.inl (.int, 18, .inl fun _ => 0)) 18 = (qH194 L xs z) := qpsh (w := (L, xs, z, qP5)) (μ := qM7) (X := qX181) (n := (133, 600923, 7288290)) (by decide) rfl rfl rfl
theorem qJ194 : am_S 156 (.newarray .int) 31 Lc (.int (Int32.ofInt 18) :: st) (qH193 L xs z) = am_go 33 Lc (.ref 133 :: st) (qH194 L xs z) := qnwa (by decide) (by decide) (by decide) rfl (show 1 ≤ 600923 by decide) (show 18 ≤ 7288290 by decide) rfl qS194 rfl
def qV107 : Nat → Value := updV qV106 4 (.ref 133)
def qX183 : mm_X := fun b => if b = 129 then some (.inr (11, qV107)) else qX182 b
def qH195 (L : Nat) (xs : Nat → Int32) (z : Value) : am_G := mm_hp (L, xs, z, qP5) qM7 qX183 (134, 600922, 7288272)
theorem qJ195 : am_pf (qH194 L xs z) 129 11 4 (.ref 133) = some (qH195 L xs z) := qpf (w := (L, xs, z, qP5)) (μ := qM7) (X := qX182) (n := (134, 600922, 7288272)) (V := qV106) (by decide) rfl rfl rfl
def qX184 : mm_X := fun b => if b = 134 then some (.inl (.int, 3, .inl fun _ => 0)) else qX183 b
def qH196 (L : Nat) (xs : Nat → Int32) (z : Value) : am_G := mm_hp (L, xs, z, qP5) qM7 qX184 (135, 600921, 7288269)
theorem qS196 : am_psh (qH195 L xs z) (.inl (.int, 3, .inl fun _ => 0)) 3 = (qH196 L xs z) := qpsh (w := (L, xs, z, qP5)) (μ := qM7) (X := qX183) (n := (134, 600922, 7288272)) (by decide) rfl rfl rfl
theorem qJ196 : am_S 156 (.newarray .int) 38 Lc (.int (Int32.ofInt 3) :: st) (qH195 L xs z) = am_go 40 Lc (.ref 134 :: st) (qH196 L xs z) := qnwa (by decide) (by decide) (by decide) rfl (show 1 ≤ 600922 by decide) (show 3 ≤ 7288272 by decide) rfl qS196 rfl
def qV108 : Nat → Value := updV qV107 5 (.ref 134)
def qX185 : mm_X := fun b => if b = 129 then some (.inr (11, qV108)) else qX184 b
def qH197 (L : Nat) (xs : Nat → Int32) (z : Value) : am_G := mm_hp (L, xs, z, qP5) qM7 qX185 (135, 600921, 7288269)
theorem qJ197 : am_pf (qH196 L xs z) 129 11 5 (.ref 134) = some (qH197 L xs z) := qpf (w := (L, xs, z, qP5)) (μ := qM7) (X := qX184) (n := (135, 600921, 7288269)) (V := qV107) (by decide) rfl rfl rfl
def qX186 : mm_X := fun b => if b = 135 then some (.inl (.int, 8, .inl fun _ => 0)) else qX185 b
def qH198 (L : Nat) (xs : Nat → Int32) (z : Value) : am_G := mm_hp (L, xs, z, qP5) qM7 qX186 (136, 600920, 7288261)
theorem qS198 : am_psh (qH197 L xs z) (.inl (.int, 8, .inl fun _ => 0)) 8 = (qH198 L xs z) := qpsh (w := (L, xs, z, qP5)) (μ := qM7) (X := qX185) (n := (135, 600921, 7288269)) (by decide) rfl rfl rfl
theorem qJ198 : am_S 156 (.newarray .int) 46 Lc (.int (Int32.ofInt 8) :: st) (qH197 L xs z) = am_go 48 Lc (.ref 135 :: st) (qH198 L xs z) := qnwa (by decide) (by decide) (by decide) rfl (show 1 ≤ 600921 by decide) (show 8 ≤ 7288269 by decide) rfl qS198 rfl
def qV109 : Nat → Value := updV qV108 6 (.ref 135)
def qX187 : mm_X := fun b => if b = 129 then some (.inr (11, qV109)) else qX186 b
def qH199 (L : Nat) (xs : Nat → Int32) (z : Value) : am_G := mm_hp (L, xs, z, qP5) qM7 qX187 (136, 600920, 7288261)
theorem qJ199 : am_pf (qH198 L xs z) 129 11 6 (.ref 135) = some (qH199 L xs z) := qpf (w := (L, xs, z, qP5)) (μ := qM7) (X := qX186) (n := (136, 600920, 7288261)) (V := qV108) (by decide) rfl rfl rfl
def qX188 : mm_X := fun b => if b = 136 then some (.inl (.int, 3, .inl fun _ => 0)) else qX187 b
def qH200 (L : Nat) (xs : Nat → Int32) (z : Value) : am_G := mm_hp (L, xs, z, qP5) qM7 qX188 (137, 600919, 7288258)
theorem qS200 : am_psh (qH199 L xs z) (.inl (.int, 3, .inl fun _ => 0)) 3 = (qH200 L xs z) := qpsh (w := (L, xs, z, qP5)) (μ := qM7) (X := qX187) (n := (136, 600920, 7288261)) (by decide) rfl rfl rfl
theorem qJ200 : am_S 156 (.newarray .int) 53 Lc (.int (Int32.ofInt 3) :: st) (qH199 L xs z) = am_go 55 Lc (.ref 136 :: st) (qH200 L xs z) := qnwa (by decide) (by decide) (by decide) rfl (show 1 ≤ 600920 by decide) (show 3 ≤ 7288261 by decide) rfl qS200 rfl
def qV110 : Nat → Value := updV qV109 7 (.ref 136)
def qX189 : mm_X := fun b => if b = 129 then some (.inr (11, qV110)) else qX188 b
def qH201 (L : Nat) (xs : Nat → Int32) (z : Value) : am_G := mm_hp (L, xs, z, qP5) qM7 qX189 (137, 600919, 7288258)
theorem qJ201 : am_pf (qH200 L xs z) 129 11 7 (.ref 136) = some (qH201 L xs z) := qpf (w := (L, xs, z, qP5)) (μ := qM7) (X := qX188) (n := (137, 600919, 7288258)) (V := qV109) (by decide) rfl rfl rfl
def qV111 : Nat → Value := updV qV110 8 (.int (Int32.ofInt (1)))
def qX190 : mm_X := fun b => if b = 129 then some (.inr (11, qV111)) else qX189 b
def qH202 (L : Nat) (xs : Nat → Int32) (z : Value) : am_G := mm_hp (L, xs, z, qP5) qM7 qX190 (137, 600919, 7288258)
theorem qJ202 : am_pf (qH201 L xs z) 129 11 8 (.int (Int32.ofInt (1))) = some (qH202 L xs z) := qpf (w := (L, xs, z, qP5)) (μ := qM7) (X := qX189) (n := (137, 600919, 7288258)) (V := qV110) (by decide) rfl rfl rfl
def qX191 : mm_X := fun b => if b = 137 then some (.inl (.boolean, 648, .inl fun _ => 0)) else qX190 b
def qH203 (L : Nat) (xs : Nat → Int32) (z : Value) : am_G := mm_hp (L, xs, z, qP5) qM7 qX191 (138, 600918, 7287610)
theorem qS203 : am_psh (qH202 L xs z) (.inl (.boolean, 648, .inl fun _ => 0)) 648 = (qH203 L xs z) := qpsh (w := (L, xs, z, qP5)) (μ := qM7) (X := qX190) (n := (137, 600919, 7288258)) (by decide) rfl rfl rfl
theorem qJ203 : am_S 156 (.newarray .boolean) 67 Lc (.int (Int32.ofInt 648) :: st) (qH202 L xs z) = am_go 69 Lc (.ref 137 :: st) (qH203 L xs z) := qnwa (by decide) (by decide) (by decide) rfl (show 1 ≤ 600919 by decide) (show 648 ≤ 7288258 by decide) rfl qS203 rfl
def qV112 : Nat → Value := updV qV111 9 (.ref 137)
def qX192 : mm_X := fun b => if b = 129 then some (.inr (11, qV112)) else qX191 b
def qH204 (L : Nat) (xs : Nat → Int32) (z : Value) : am_G := mm_hp (L, xs, z, qP5) qM7 qX192 (138, 600918, 7287610)
theorem qJ204 : am_pf (qH203 L xs z) 129 11 9 (.ref 137) = some (qH204 L xs z) := qpf (w := (L, xs, z, qP5)) (μ := qM7) (X := qX191) (n := (138, 600918, 7287610)) (V := qV111) (by decide) rfl rfl rfl
def qX193 : mm_X := fun b => if b = 138 then some (.inl (.int, 648, .inl fun _ => 0)) else qX192 b
def qH205 (L : Nat) (xs : Nat → Int32) (z : Value) : am_G := mm_hp (L, xs, z, qP5) qM7 qX193 (139, 600917, 7286962)
theorem qS205 : am_psh (qH204 L xs z) (.inl (.int, 648, .inl fun _ => 0)) 648 = (qH205 L xs z) := qpsh (w := (L, xs, z, qP5)) (μ := qM7) (X := qX192) (n := (138, 600918, 7287610)) (by decide) rfl rfl rfl
theorem qJ205 : am_S 156 (.newarray .int) 76 Lc (.int (Int32.ofInt 648) :: st) (qH204 L xs z) = am_go 78 Lc (.ref 138 :: st) (qH205 L xs z) := qnwa (by decide) (by decide) (by decide) rfl (show 1 ≤ 600918 by decide) (show 648 ≤ 7287610 by decide) rfl qS205 rfl
def qV113 : Nat → Value := updV qV112 10 (.ref 138)
def qX194 : mm_X := fun b => if b = 129 then some (.inr (11, qV113)) else qX193 b
def qH206 (L : Nat) (xs : Nat → Int32) (z : Value) : am_G := mm_hp (L, xs, z, qP5) qM7 qX194 (139, 600917, 7286962)
theorem qJ206 : am_pf (qH205 L xs z) 129 11 10 (.ref 138) = some (qH206 L xs z) := qpf (w := (L, xs, z, qP5)) (μ := qM7) (X := qX193) (n := (139, 600917, 7286962)) (V := qV112) (by decide) rfl rfl rfl
def qX195 : mm_X := fun b => if b = 139 then some (.inl (.int, 24, .inl fun _ => 0)) else qX194 b
def qH207 (L : Nat) (xs : Nat → Int32) (z : Value) : am_G := mm_hp (L, xs, z, qP5) qM7 qX195 (140, 600916, 7286938)
theorem qS207 : am_psh (qH206 L xs z) (.inl (.int, 24, .inl fun _ => 0)) 24 = (qH207 L xs z) := qpsh (w := (L, xs, z, qP5)) (μ := qM7) (X := qX194) (n := (139, 600917, 7286962)) (by decide) rfl rfl rfl
theorem qJ207 : am_S 156 (.newarray .int) 84 Lc (.int (Int32.ofInt 24) :: st) (qH206 L xs z) = am_go 86 Lc (.ref 139 :: st) (qH207 L xs z) := qnwa (by decide) (by decide) (by decide) rfl (show 1 ≤ 600917 by decide) (show 24 ≤ 7286962 by decide) rfl qS207 rfl
def qV114 : Nat → Value := updV qV113 12 (.ref 139)
def qX196 : mm_X := fun b => if b = 129 then some (.inr (11, qV114)) else qX195 b
def qH208 (L : Nat) (xs : Nat → Int32) (z : Value) : am_G := mm_hp (L, xs, z, qP5) qM7 qX196 (140, 600916, 7286938)
theorem qJ208 : am_pf (qH207 L xs z) 129 11 12 (.ref 139) = some (qH208 L xs z) := qpf (w := (L, xs, z, qP5)) (μ := qM7) (X := qX195) (n := (140, 600916, 7286938)) (V := qV113) (by decide) rfl rfl rfl
def qX197 : mm_X := fun b => if b = 140 then some (.inl (.int, 24, .inl fun _ => 0)) else qX196 b
def qH209 (L : Nat) (xs : Nat → Int32) (z : Value) : am_G := mm_hp (L, xs, z, qP5) qM7 qX197 (141, 600915, 7286914)
theorem qS209 : am_psh (qH208 L xs z) (.inl (.int, 24, .inl fun _ => 0)) 24 = (qH209 L xs z) := qpsh (w := (L, xs, z, qP5)) (μ := qM7) (X := qX196) (n := (140, 600916, 7286938)) (by decide) rfl rfl rfl
theorem qJ209 : am_S 156 (.newarray .int) 92 Lc (.int (Int32.ofInt 24) :: st) (qH208 L xs z) = am_go 94 Lc (.ref 140 :: st) (qH209 L xs z) := qnwa (by decide) (by decide) (by decide) rfl (show 1 ≤ 600916 by decide) (show 24 ≤ 7286938 by decide) rfl qS209 rfl
def qV115 : Nat → Value := updV qV114 13 (.ref 140)
def qX198 : mm_X := fun b => if b = 129 then some (.inr (11, qV115)) else qX197 b
def qH210 (L : Nat) (xs : Nat → Int32) (z : Value) : am_G := mm_hp (L, xs, z, qP5) qM7 qX198 (141, 600915, 7286914)
theorem qJ210 : am_pf (qH209 L xs z) 129 11 13 (.ref 140) = some (qH210 L xs z) := qpf (w := (L, xs, z, qP5)) (μ := qM7) (X := qX197) (n := (141, 600915, 7286914)) (V := qV114) (by decide) rfl rfl rfl
def qX199 : mm_X := fun b => if b = 141 then some (.inl (.int, 8, .inl fun _ => 0)) else qX198 b
def qH211 (L : Nat) (xs : Nat → Int32) (z : Value) : am_G := mm_hp (L, xs, z, qP5) qM7 qX199 (142, 600914, 7286906)
theorem qS211 : am_psh (qH210 L xs z) (.inl (.int, 8, .inl fun _ => 0)) 8 = (qH211 L xs z) := qpsh (w := (L, xs, z, qP5)) (μ := qM7) (X := qX198) (n := (141, 600915, 7286914)) (by decide) rfl rfl rfl
theorem qJ211 : am_S 156 (.newarray .int) 100 Lc (.int (Int32.ofInt 8) :: st) (qH210 L xs z) = am_go 102 Lc (.ref 141 :: st) (qH211 L xs z) := qnwa (by decide) (by decide) (by decide) rfl (show 1 ≤ 600915 by decide) (show 8 ≤ 7286914 by decide) rfl qS211 rfl
def qV116 : Nat → Value := updV qV115 14 (.ref 141)
def qX200 : mm_X := fun b => if b = 129 then some (.inr (11, qV116)) else qX199 b
def qH212 (L : Nat) (xs : Nat → Int32) (z : Value) : am_G := mm_hp (L, xs, z, qP5) qM7 qX200 (142, 600914, 7286906)
theorem qJ212 : am_pf (qH211 L xs z) 129 11 14 (.ref 141) = some (qH212 L xs z) := qpf (w := (L, xs, z, qP5)) (μ := qM7) (X := qX199) (n := (142, 600914, 7286906)) (V := qV115) (by decide) rfl rfl rfl
def qX201 : mm_X := fun b => if b = 142 then some (.inl (.int, 512, .inl fun _ => 0)) else qX200 b
def qH213 (L : Nat) (xs : Nat → Int32) (z : Value) : am_G := mm_hp (L, xs, z, qP5) qM7 qX201 (143, 600913, 7286394)
theorem qS213 : am_psh (qH212 L xs z) (.inl (.int, 512, .inl fun _ => 0)) 512 = (qH213 L xs z) := qpsh (w := (L, xs, z, qP5)) (μ := qM7) (X := qX200) (n := (142, 600914, 7286906)) (by decide) rfl rfl rfl
theorem qJ213 : am_S 156 (.newarray .int) 109 Lc (.int (Int32.ofInt 512) :: st) (qH212 L xs z) = am_go 111 Lc (.ref 142 :: st) (qH213 L xs z) := qnwa (by decide) (by decide) (by decide) rfl (show 1 ≤ 600914 by decide) (show 512 ≤ 7286906 by decide) rfl qS213 rfl
def qV117 : Nat → Value := updV qV116 15 (.ref 142)
def qX202 : mm_X := fun b => if b = 129 then some (.inr (11, qV117)) else qX201 b
def qH214 (L : Nat) (xs : Nat → Int32) (z : Value) : am_G := mm_hp (L, xs, z, qP5) qM7 qX202 (143, 600913, 7286394)
theorem qJ214 : am_pf (qH213 L xs z) 129 11 15 (.ref 142) = some (qH214 L xs z) := qpf (w := (L, xs, z, qP5)) (μ := qM7) (X := qX201) (n := (143, 600913, 7286394)) (V := qV116) (by decide) rfl rfl rfl
def qX203 : mm_X := fun b => if b = 143 then some (.inl (.int, 512, .inl fun _ => 0)) else qX202 b
def qH215 (L : Nat) (xs : Nat → Int32) (z : Value) : am_G := mm_hp (L, xs, z, qP5) qM7 qX203 (144, 600912, 7285882)
theorem qS215 : am_psh (qH214 L xs z) (.inl (.int, 512, .inl fun _ => 0)) 512 = (qH215 L xs z) := qpsh (w := (L, xs, z, qP5)) (μ := qM7) (X := qX202) (n := (143, 600913, 7286394)) (by decide) rfl rfl rfl
theorem qJ215 : am_S 156 (.newarray .int) 118 Lc (.int (Int32.ofInt 512) :: st) (qH214 L xs z) = am_go 120 Lc (.ref 143 :: st) (qH215 L xs z) := qnwa (by decide) (by decide) (by decide) rfl (show 1 ≤ 600913 by decide) (show 512 ≤ 7286394 by decide) rfl qS215 rfl
def qV118 : Nat → Value := updV qV117 16 (.ref 143)
def qX204 : mm_X := fun b => if b = 129 then some (.inr (11, qV118)) else qX203 b
def qH216 (L : Nat) (xs : Nat → Int32) (z : Value) : am_G := mm_hp (L, xs, z, qP5) qM7 qX204 (144, 600912, 7285882)
theorem qJ216 : am_pf (qH215 L xs z) 129 11 16 (.ref 143) = some (qH216 L xs z) := qpf (w := (L, xs, z, qP5)) (μ := qM7) (X := qX203) (n := (144, 600912, 7285882)) (V := qV117) (by decide) rfl rfl rfl
def qX205 : mm_X := fun b => if b = 144 then some (.inl (.int, 512, .inl fun _ => 0)) else qX204 b
def qH217 (L : Nat) (xs : Nat → Int32) (z : Value) : am_G := mm_hp (L, xs, z, qP5) qM7 qX205 (145, 600911, 7285370)
theorem qS217 : am_psh (qH216 L xs z) (.inl (.int, 512, .inl fun _ => 0)) 512 = (qH217 L xs z) := qpsh (w := (L, xs, z, qP5)) (μ := qM7) (X := qX204) (n := (144, 600912, 7285882)) (by decide) rfl rfl rfl
theorem qJ217 : am_S 156 (.newarray .int) 127 Lc (.int (Int32.ofInt 512) :: st) (qH216 L xs z) = am_go 129 Lc (.ref 144 :: st) (qH217 L xs z) := qnwa (by decide) (by decide) (by decide) rfl (show 1 ≤ 600912 by decide) (show 512 ≤ 7285882 by decide) rfl qS217 rfl
def qV119 : Nat → Value := updV qV118 17 (.ref 144)
def qX206 : mm_X := fun b => if b = 129 then some (.inr (11, qV119)) else qX205 b
def qH218 (L : Nat) (xs : Nat → Int32) (z : Value) : am_G := mm_hp (L, xs, z, qP5) qM7 qX206 (145, 600911, 7285370)
theorem qJ218 : am_pf (qH217 L xs z) 129 11 17 (.ref 144) = some (qH218 L xs z) := qpf (w := (L, xs, z, qP5)) (μ := qM7) (X := qX205) (n := (145, 600911, 7285370)) (V := qV118) (by decide) rfl rfl rfl
def qX207 : mm_X := fun b => if b = 145 then some (.inl (.int, 8, .inl fun _ => 0)) else qX206 b
def qH219 (L : Nat) (xs : Nat → Int32) (z : Value) : am_G := mm_hp (L, xs, z, qP5) qM7 qX207 (146, 600910, 7285362)
theorem qS219 : am_psh (qH218 L xs z) (.inl (.int, 8, .inl fun _ => 0)) 8 = (qH219 L xs z) := qpsh (w := (L, xs, z, qP5)) (μ := qM7) (X := qX206) (n := (145, 600911, 7285370)) (by decide) rfl rfl rfl
theorem qJ219 : am_S 156 (.newarray .int) 135 Lc (.int (Int32.ofInt 8) :: st) (qH218 L xs z) = am_go 137 Lc (.ref 145 :: st) (qH219 L xs z) := qnwa (by decide) (by decide) (by decide) rfl (show 1 ≤ 600911 by decide) (show 8 ≤ 7285370 by decide) rfl qS219 rfl
def qV120 : Nat → Value := updV qV119 18 (.ref 145)
def qX208 : mm_X := fun b => if b = 129 then some (.inr (11, qV120)) else qX207 b
def qH220 (L : Nat) (xs : Nat → Int32) (z : Value) : am_G := mm_hp (L, xs, z, qP5) qM7 qX208 (146, 600910, 7285362)
theorem qJ220 : am_pf (qH219 L xs z) 129 11 18 (.ref 145) = some (qH220 L xs z) := qpf (w := (L, xs, z, qP5)) (μ := qM7) (X := qX207) (n := (146, 600910, 7285362)) (V := qV119) (by decide) rfl rfl rfl
def qX209 : mm_X := fun b => if b = 146 then some (.inl (.int, 192, .inl fun _ => 0)) else qX208 b
def qH221 (L : Nat) (xs : Nat → Int32) (z : Value) : am_G := mm_hp (L, xs, z, qP5) qM7 qX209 (147, 600909, 7285170)
theorem qS221 : am_psh (qH220 L xs z) (.inl (.int, 192, .inl fun _ => 0)) 192 = (qH221 L xs z) := qpsh (w := (L, xs, z, qP5)) (μ := qM7) (X := qX208) (n := (146, 600910, 7285362)) (by decide) rfl rfl rfl
theorem qJ221 : am_S 156 (.newarray .int) 144 Lc (.int (Int32.ofInt 192) :: st) (qH220 L xs z) = am_go 146 Lc (.ref 146 :: st) (qH221 L xs z) := qnwa (by decide) (by decide) (by decide) rfl (show 1 ≤ 600910 by decide) (show 192 ≤ 7285362 by decide) rfl qS221 rfl
def qV121 : Nat → Value := updV qV120 19 (.ref 146)
def qX210 : mm_X := fun b => if b = 129 then some (.inr (11, qV121)) else qX209 b
def qH222 (L : Nat) (xs : Nat → Int32) (z : Value) : am_G := mm_hp (L, xs, z, qP5) qM7 qX210 (147, 600909, 7285170)
theorem qJ222 : am_pf (qH221 L xs z) 129 11 19 (.ref 146) = some (qH222 L xs z) := qpf (w := (L, xs, z, qP5)) (μ := qM7) (X := qX209) (n := (147, 600909, 7285170)) (V := qV120) (by decide) rfl rfl rfl
def qX211 : mm_X := fun b => if b = 147 then some (.inl (.int, 192, .inl fun _ => 0)) else qX210 b
def qH223 (L : Nat) (xs : Nat → Int32) (z : Value) : am_G := mm_hp (L, xs, z, qP5) qM7 qX211 (148, 600908, 7284978)
theorem qS223 : am_psh (qH222 L xs z) (.inl (.int, 192, .inl fun _ => 0)) 192 = (qH223 L xs z) := qpsh (w := (L, xs, z, qP5)) (μ := qM7) (X := qX210) (n := (147, 600909, 7285170)) (by decide) rfl rfl rfl
theorem qJ223 : am_S 156 (.newarray .int) 153 Lc (.int (Int32.ofInt 192) :: st) (qH222 L xs z) = am_go 155 Lc (.ref 147 :: st) (qH223 L xs z) := qnwa (by decide) (by decide) (by decide) rfl (show 1 ≤ 600909 by decide) (show 192 ≤ 7285170 by decide) rfl qS223 rfl
def qV122 : Nat → Value := updV qV121 20 (.ref 147)
def qX212 : mm_X := fun b => if b = 129 then some (.inr (11, qV122)) else qX211 b
def qH224 (L : Nat) (xs : Nat → Int32) (z : Value) : am_G := mm_hp (L, xs, z, qP5) qM7 qX212 (148, 600908, 7284978)
theorem qJ224 : am_pf (qH223 L xs z) 129 11 20 (.ref 147) = some (qH224 L xs z) := qpf (w := (L, xs, z, qP5)) (μ := qM7) (X := qX211) (n := (148, 600908, 7284978)) (V := qV121) (by decide) rfl rfl rfl
def qX213 : mm_X := fun b => if b = 148 then some (.inl (.int, 3, .inl fun _ => 0)) else qX212 b
def qH225 (L : Nat) (xs : Nat → Int32) (z : Value) : am_G := mm_hp (L, xs, z, qP5) qM7 qX213 (149, 600907, 7284975)
theorem qS225 : am_psh (qH224 L xs z) (.inl (.int, 3, .inl fun _ => 0)) 3 = (qH225 L xs z) := qpsh (w := (L, xs, z, qP5)) (μ := qM7) (X := qX212) (n := (148, 600908, 7284978)) (by decide) rfl rfl rfl
theorem qJ225 : am_S 156 (.newarray .int) 160 Lc (.int (Int32.ofInt 3) :: st) (qH224 L xs z) = am_go 162 Lc (.ref 148 :: st) (qH225 L xs z) := qnwa (by decide) (by decide) (by decide) rfl (show 1 ≤ 600908 by decide) (show 3 ≤ 7284978 by decide) rfl qS225 rfl
def qV123 : Nat → Value := updV qV122 21 (.ref 148)
def qX214 : mm_X := fun b => if b = 129 then some (.inr (11, qV123)) else qX213 b
def qH226 (L : Nat) (xs : Nat → Int32) (z : Value) : am_G := mm_hp (L, xs, z, qP5) qM7 qX214 (149, 600907, 7284975)
theorem qJ226 : am_pf (qH225 L xs z) 129 11 21 (.ref 148) = some (qH226 L xs z) := qpf (w := (L, xs, z, qP5)) (μ := qM7) (X := qX213) (n := (149, 600907, 7284975)) (V := qV122) (by decide) rfl rfl rfl
def qX215 : mm_X := fun b => if b = 149 then some (.inl (.int, 3, .inl fun _ => 0)) else qX214 b
def qH227 (L : Nat) (xs : Nat → Int32) (z : Value) : am_G := mm_hp (L, xs, z, qP5) qM7 qX215 (150, 600906, 7284972)
theorem qS227 : am_psh (qH226 L xs z) (.inl (.int, 3, .inl fun _ => 0)) 3 = (qH227 L xs z) := qpsh (w := (L, xs, z, qP5)) (μ := qM7) (X := qX214) (n := (149, 600907, 7284975)) (by decide) rfl rfl rfl
theorem qJ227 : am_S 156 (.newarray .int) 167 Lc (.int (Int32.ofInt 3) :: st) (qH226 L xs z) = am_go 169 Lc (.ref 149 :: st) (qH227 L xs z) := qnwa (by decide) (by decide) (by decide) rfl (show 1 ≤ 600907 by decide) (show 3 ≤ 7284975 by decide) rfl qS227 rfl
def qV124 : Nat → Value := updV qV123 22 (.ref 149)
def qX216 : mm_X := fun b => if b = 129 then some (.inr (11, qV124)) else qX215 b
def qH228 (L : Nat) (xs : Nat → Int32) (z : Value) : am_G := mm_hp (L, xs, z, qP5) qM7 qX216 (150, 600906, 7284972)
theorem qJ228 : am_pf (qH227 L xs z) 129 11 22 (.ref 149) = some (qH228 L xs z) := qpf (w := (L, xs, z, qP5)) (μ := qM7) (X := qX215) (n := (150, 600906, 7284972)) (V := qV123) (by decide) rfl rfl rfl
def qX217 : mm_X := fun b => if b = 150 then some (.inl (.char, 24, .inl fun _ => 0)) else qX216 b
def qH229 (L : Nat) (xs : Nat → Int32) (z : Value) : am_G := mm_hp (L, xs, z, qP5) qM7 qX217 (151, 600905, 7284948)
theorem qS229 : am_psh (qH228 L xs z) (.inl (.char, 24, .inl fun _ => 0)) 24 = (qH229 L xs z) := qpsh (w := (L, xs, z, qP5)) (μ := qM7) (X := qX216) (n := (150, 600906, 7284972)) (by decide) rfl rfl rfl
theorem qJ229 : am_S 156 (.newarray .char) 175 Lc (.int (Int32.ofInt 24) :: st) (qH228 L xs z) = am_go 177 Lc (.ref 150 :: st) (qH229 L xs z) := qnwa (by decide) (by decide) (by decide) rfl (show 1 ≤ 600906 by decide) (show 24 ≤ 7284972 by decide) rfl qS229 rfl
def qV125 : Nat → Value := updV qV124 24 (.ref 150)
def qX218 : mm_X := fun b => if b = 129 then some (.inr (11, qV125)) else qX217 b
def qH230 (L : Nat) (xs : Nat → Int32) (z : Value) : am_G := mm_hp (L, xs, z, qP5) qM7 qX218 (151, 600905, 7284948)
theorem qJ230 : am_pf (qH229 L xs z) 129 11 24 (.ref 150) = some (qH230 L xs z) := qpf (w := (L, xs, z, qP5)) (μ := qM7) (X := qX217) (n := (151, 600905, 7284948)) (V := qV124) (by decide) rfl rfl rfl
def qX219 : mm_X := fun b => if b = 151 then some (.inl (.int, 32, .inl fun _ => 0)) else qX218 b
def qH231 (L : Nat) (xs : Nat → Int32) (z : Value) : am_G := mm_hp (L, xs, z, qP5) qM7 qX219 (152, 600904, 7284916)
theorem qS231 : am_psh (qH230 L xs z) (.inl (.int, 32, .inl fun _ => 0)) 32 = (qH231 L xs z) := qpsh (w := (L, xs, z, qP5)) (μ := qM7) (X := qX218) (n := (151, 600905, 7284948)) (by decide) rfl rfl rfl
theorem qJ231 : am_S 156 (.newarray .int) 183 Lc (.int (Int32.ofInt 32) :: st) (qH230 L xs z) = am_go 185 Lc (.ref 151 :: st) (qH231 L xs z) := qnwa (by decide) (by decide) (by decide) rfl (show 1 ≤ 600905 by decide) (show 32 ≤ 7284948 by decide) rfl qS231 rfl
def qV126 : Nat → Value := updV qV125 26 (.ref 151)
def qX220 : mm_X := fun b => if b = 129 then some (.inr (11, qV126)) else qX219 b
def qH232 (L : Nat) (xs : Nat → Int32) (z : Value) : am_G := mm_hp (L, xs, z, qP5) qM7 qX220 (152, 600904, 7284916)
theorem qJ232 : am_pf (qH231 L xs z) 129 11 26 (.ref 151) = some (qH232 L xs z) := qpf (w := (L, xs, z, qP5)) (μ := qM7) (X := qX219) (n := (152, 600904, 7284916)) (V := qV125) (by decide) rfl rfl rfl
def qX221 : mm_X := fun b => if b = 152 then some (.inl (.int, 32, .inl fun _ => 0)) else qX220 b
def qH233 (L : Nat) (xs : Nat → Int32) (z : Value) : am_G := mm_hp (L, xs, z, qP5) qM7 qX221 (153, 600903, 7284884)
theorem qS233 : am_psh (qH232 L xs z) (.inl (.int, 32, .inl fun _ => 0)) 32 = (qH233 L xs z) := qpsh (w := (L, xs, z, qP5)) (μ := qM7) (X := qX220) (n := (152, 600904, 7284916)) (by decide) rfl rfl rfl
theorem qJ233 : am_S 156 (.newarray .int) 191 Lc (.int (Int32.ofInt 32) :: st) (qH232 L xs z) = am_go 193 Lc (.ref 152 :: st) (qH233 L xs z) := qnwa (by decide) (by decide) (by decide) rfl (show 1 ≤ 600904 by decide) (show 32 ≤ 7284916 by decide) rfl qS233 rfl
def qV127 : Nat → Value := updV qV126 27 (.ref 152)
def qX222 : mm_X := fun b => if b = 129 then some (.inr (11, qV127)) else qX221 b
def qH234 (L : Nat) (xs : Nat → Int32) (z : Value) : am_G := mm_hp (L, xs, z, qP5) qM7 qX222 (153, 600903, 7284884)
theorem qJ234 : am_pf (qH233 L xs z) 129 11 27 (.ref 152) = some (qH234 L xs z) := qpf (w := (L, xs, z, qP5)) (μ := qM7) (X := qX221) (n := (153, 600903, 7284884)) (V := qV126) (by decide) rfl rfl rfl
def qX223 : mm_X := fun b => if b = 153 then some (.inl (.int, 32, .inl fun _ => 0)) else qX222 b
def qH235 (L : Nat) (xs : Nat → Int32) (z : Value) : am_G := mm_hp (L, xs, z, qP5) qM7 qX223 (154, 600902, 7284852)
theorem qS235 : am_psh (qH234 L xs z) (.inl (.int, 32, .inl fun _ => 0)) 32 = (qH235 L xs z) := qpsh (w := (L, xs, z, qP5)) (μ := qM7) (X := qX222) (n := (153, 600903, 7284884)) (by decide) rfl rfl rfl
theorem qJ235 : am_S 156 (.newarray .int) 199 Lc (.int (Int32.ofInt 32) :: st) (qH234 L xs z) = am_go 201 Lc (.ref 153 :: st) (qH235 L xs z) := qnwa (by decide) (by decide) (by decide) rfl (show 1 ≤ 600903 by decide) (show 32 ≤ 7284884 by decide) rfl qS235 rfl
def qV128 : Nat → Value := updV qV127 28 (.ref 153)
def qX224 : mm_X := fun b => if b = 129 then some (.inr (11, qV128)) else qX223 b
def qH236 (L : Nat) (xs : Nat → Int32) (z : Value) : am_G := mm_hp (L, xs, z, qP5) qM7 qX224 (154, 600902, 7284852)
theorem qJ236 : am_pf (qH235 L xs z) 129 11 28 (.ref 153) = some (qH236 L xs z) := qpf (w := (L, xs, z, qP5)) (μ := qM7) (X := qX223) (n := (154, 600902, 7284852)) (V := qV127) (by decide) rfl rfl rfl
def qX225 : mm_X := fun b => if b = 154 then some (.inl (.int, 32, .inl fun _ => 0)) else qX224 b
def qH237 (L : Nat) (xs : Nat → Int32) (z : Value) : am_G := mm_hp (L, xs, z, qP5) qM7 qX225 (155, 600901, 7284820)
theorem qS237 : am_psh (qH236 L xs z) (.inl (.int, 32, .inl fun _ => 0)) 32 = (qH237 L xs z) := qpsh (w := (L, xs, z, qP5)) (μ := qM7) (X := qX224) (n := (154, 600902, 7284852)) (by decide) rfl rfl rfl
theorem qJ237 : am_S 156 (.newarray .int) 207 Lc (.int (Int32.ofInt 32) :: st) (qH236 L xs z) = am_go 209 Lc (.ref 154 :: st) (qH237 L xs z) := qnwa (by decide) (by decide) (by decide) rfl (show 1 ≤ 600902 by decide) (show 32 ≤ 7284852 by decide) rfl qS237 rfl
def qV129 : Nat → Value := updV qV128 29 (.ref 154)
def qX226 : mm_X := fun b => if b = 129 then some (.inr (11, qV129)) else qX225 b
def qH238 (L : Nat) (xs : Nat → Int32) (z : Value) : am_G := mm_hp (L, xs, z, qP5) qM7 qX226 (155, 600901, 7284820)
theorem qJ238 : am_pf (qH237 L xs z) 129 11 29 (.ref 154) = some (qH238 L xs z) := qpf (w := (L, xs, z, qP5)) (μ := qM7) (X := qX225) (n := (155, 600901, 7284820)) (V := qV128) (by decide) rfl rfl rfl
def qX227 : mm_X := fun b => if b = 155 then some (.inl (.int, 32, .inl fun _ => 0)) else qX226 b
def qH239 (L : Nat) (xs : Nat → Int32) (z : Value) : am_G := mm_hp (L, xs, z, qP5) qM7 qX227 (156, 600900, 7284788)
theorem qS239 : am_psh (qH238 L xs z) (.inl (.int, 32, .inl fun _ => 0)) 32 = (qH239 L xs z) := qpsh (w := (L, xs, z, qP5)) (μ := qM7) (X := qX226) (n := (155, 600901, 7284820)) (by decide) rfl rfl rfl
theorem qJ239 : am_S 156 (.newarray .int) 215 Lc (.int (Int32.ofInt 32) :: st) (qH238 L xs z) = am_go 217 Lc (.ref 155 :: st) (qH239 L xs z) := qnwa (by decide) (by decide) (by decide) rfl (show 1 ≤ 600901 by decide) (show 32 ≤ 7284820 by decide) rfl qS239 rfl
def qV130 : Nat → Value := updV qV129 30 (.ref 155)
def qX228 : mm_X := fun b => if b = 129 then some (.inr (11, qV130)) else qX227 b
def qH240 (L : Nat) (xs : Nat → Int32) (z : Value) : am_G := mm_hp (L, xs, z, qP5) qM7 qX228 (156, 600900, 7284788)
theorem qJ240 : am_pf (qH239 L xs z) 129 11 30 (.ref 155) = some (qH240 L xs z) := qpf (w := (L, xs, z, qP5)) (μ := qM7) (X := qX227) (n := (156, 600900, 7284788)) (V := qV129) (by decide) rfl rfl rfl
def qX229 : mm_X := fun b => if b = 156 then some (.inl (.int, 32, .inl fun _ => 0)) else qX228 b
def qH241 (L : Nat) (xs : Nat → Int32) (z : Value) : am_G := mm_hp (L, xs, z, qP5) qM7 qX229 (157, 600899, 7284756)
theorem qS241 : am_psh (qH240 L xs z) (.inl (.int, 32, .inl fun _ => 0)) 32 = (qH241 L xs z) := qpsh (w := (L, xs, z, qP5)) (μ := qM7) (X := qX228) (n := (156, 600900, 7284788)) (by decide) rfl rfl rfl
theorem qJ241 : am_S 156 (.newarray .int) 223 Lc (.int (Int32.ofInt 32) :: st) (qH240 L xs z) = am_go 225 Lc (.ref 156 :: st) (qH241 L xs z) := qnwa (by decide) (by decide) (by decide) rfl (show 1 ≤ 600900 by decide) (show 32 ≤ 7284788 by decide) rfl qS241 rfl
def qV131 : Nat → Value := updV qV130 32 (.ref 156)
def qX230 : mm_X := fun b => if b = 129 then some (.inr (11, qV131)) else qX229 b
def qH242 (L : Nat) (xs : Nat → Int32) (z : Value) : am_G := mm_hp (L, xs, z, qP5) qM7 qX230 (157, 600899, 7284756)
theorem qJ242 : am_pf (qH241 L xs z) 129 11 32 (.ref 156) = some (qH242 L xs z) := qpf (w := (L, xs, z, qP5)) (μ := qM7) (X := qX229) (n := (157, 600899, 7284756)) (V := qV130) (by decide) rfl rfl rfl
def qX231 : mm_X := fun b => if b = 157 then some (.inl (.int, 12, .inl fun _ => 0)) else qX230 b
def qH243 (L : Nat) (xs : Nat → Int32) (z : Value) : am_G := mm_hp (L, xs, z, qP5) qM7 qX231 (158, 600898, 7284744)
theorem qS243 : am_psh (qH242 L xs z) (.inl (.int, 12, .inl fun _ => 0)) 12 = (qH243 L xs z) := qpsh (w := (L, xs, z, qP5)) (μ := qM7) (X := qX230) (n := (157, 600899, 7284756)) (by decide) rfl rfl rfl
theorem qJ243 : am_S 156 (.newarray .int) 231 Lc (.int (Int32.ofInt 12) :: st) (qH242 L xs z) = am_go 233 Lc (.ref 157 :: st) (qH243 L xs z) := qnwa (by decide) (by decide) (by decide) rfl (show 1 ≤ 600899 by decide) (show 12 ≤ 7284756 by decide) rfl qS243 rfl
def qV132 : Nat → Value := updV qV131 39 (.ref 157)
def qX232 : mm_X := fun b => if b = 129 then some (.inr (11, qV132)) else qX231 b
def qH244 (L : Nat) (xs : Nat → Int32) (z : Value) : am_G := mm_hp (L, xs, z, qP5) qM7 qX232 (158, 600898, 7284744)
theorem qJ244 : am_pf (qH243 L xs z) 129 11 39 (.ref 157) = some (qH244 L xs z) := qpf (w := (L, xs, z, qP5)) (μ := qM7) (X := qX231) (n := (158, 600898, 7284744)) (V := qV131) (by decide) rfl rfl rfl
def qX233 : mm_X := fun b => if b = 158 then some (.inl (.int, 12, .inl fun _ => 0)) else qX232 b
def qH245 (L : Nat) (xs : Nat → Int32) (z : Value) : am_G := mm_hp (L, xs, z, qP5) qM7 qX233 (159, 600897, 7284732)
theorem qS245 : am_psh (qH244 L xs z) (.inl (.int, 12, .inl fun _ => 0)) 12 = (qH245 L xs z) := qpsh (w := (L, xs, z, qP5)) (μ := qM7) (X := qX232) (n := (158, 600898, 7284744)) (by decide) rfl rfl rfl
theorem qJ245 : am_S 156 (.newarray .int) 239 Lc (.int (Int32.ofInt 12) :: st) (qH244 L xs z) = am_go 241 Lc (.ref 158 :: st) (qH245 L xs z) := qnwa (by decide) (by decide) (by decide) rfl (show 1 ≤ 600898 by decide) (show 12 ≤ 7284744 by decide) rfl qS245 rfl
def qV133 : Nat → Value := updV qV132 40 (.ref 158)
def qX234 : mm_X := fun b => if b = 129 then some (.inr (11, qV133)) else qX233 b
def qH246 (L : Nat) (xs : Nat → Int32) (z : Value) : am_G := mm_hp (L, xs, z, qP5) qM7 qX234 (159, 600897, 7284732)
theorem qJ246 : am_pf (qH245 L xs z) 129 11 40 (.ref 158) = some (qH246 L xs z) := qpf (w := (L, xs, z, qP5)) (μ := qM7) (X := qX233) (n := (159, 600897, 7284732)) (V := qV132) (by decide) rfl rfl rfl
def qX235 : mm_X := fun b => if b = 159 then some (.inl (.int, 2592, .inl fun _ => 0)) else qX234 b
def qH247 (L : Nat) (xs : Nat → Int32) (z : Value) : am_G := mm_hp (L, xs, z, qP5) qM7 qX235 (160, 600896, 7282140)
theorem qS247 : am_psh (qH246 L xs z) (.inl (.int, 2592, .inl fun _ => 0)) 2592 = (qH247 L xs z) := qpsh (w := (L, xs, z, qP5)) (μ := qM7) (X := qX234) (n := (159, 600897, 7284732)) (by decide) rfl rfl rfl
theorem qJ247 : am_S 156 (.newarray .int) 248 Lc (.int (Int32.ofInt 2592) :: st) (qH246 L xs z) = am_go 250 Lc (.ref 159 :: st) (qH247 L xs z) := qnwa (by decide) (by decide) (by decide) rfl (show 1 ≤ 600897 by decide) (show 2592 ≤ 7284732 by decide) rfl qS247 rfl
def qV134 : Nat → Value := updV qV133 41 (.ref 159)
def qX236 : mm_X := fun b => if b = 129 then some (.inr (11, qV134)) else qX235 b
def qH248 (L : Nat) (xs : Nat → Int32) (z : Value) : am_G := mm_hp (L, xs, z, qP5) qM7 qX236 (160, 600896, 7282140)
theorem qJ248 : am_pf (qH247 L xs z) 129 11 41 (.ref 159) = some (qH248 L xs z) := qpf (w := (L, xs, z, qP5)) (μ := qM7) (X := qX235) (n := (160, 600896, 7282140)) (V := qV133) (by decide) rfl rfl rfl
def qX237 : mm_X := fun b => if b = 160 then some (.inl (.boolean, 2592, .inl fun _ => 0)) else qX236 b
def qH249 (L : Nat) (xs : Nat → Int32) (z : Value) : am_G := mm_hp (L, xs, z, qP5) qM7 qX237 (161, 600895, 7279548)
theorem qS249 : am_psh (qH248 L xs z) (.inl (.boolean, 2592, .inl fun _ => 0)) 2592 = (qH249 L xs z) := qpsh (w := (L, xs, z, qP5)) (μ := qM7) (X := qX236) (n := (160, 600896, 7282140)) (by decide) rfl rfl rfl
theorem qJ249 : am_S 156 (.newarray .boolean) 257 Lc (.int (Int32.ofInt 2592) :: st) (qH248 L xs z) = am_go 259 Lc (.ref 160 :: st) (qH249 L xs z) := qnwa (by decide) (by decide) (by decide) rfl (show 1 ≤ 600896 by decide) (show 2592 ≤ 7282140 by decide) rfl qS249 rfl
def qV135 : Nat → Value := updV qV134 42 (.ref 160)
def qX238 : mm_X := fun b => if b = 129 then some (.inr (11, qV135)) else qX237 b
def qH250 (L : Nat) (xs : Nat → Int32) (z : Value) : am_G := mm_hp (L, xs, z, qP5) qM7 qX238 (161, 600895, 7279548)
theorem qJ250 : am_pf (qH249 L xs z) 129 11 42 (.ref 160) = some (qH250 L xs z) := qpf (w := (L, xs, z, qP5)) (μ := qM7) (X := qX237) (n := (161, 600895, 7279548)) (V := qV134) (by decide) rfl rfl rfl
def qX239 : mm_X := fun b => if b = 161 then some (.inl (.int, 2592, .inl fun _ => 0)) else qX238 b
def qH251 (L : Nat) (xs : Nat → Int32) (z : Value) : am_G := mm_hp (L, xs, z, qP5) qM7 qX239 (162, 600894, 7276956)
theorem qS251 : am_psh (qH250 L xs z) (.inl (.int, 2592, .inl fun _ => 0)) 2592 = (qH251 L xs z) := qpsh (w := (L, xs, z, qP5)) (μ := qM7) (X := qX238) (n := (161, 600895, 7279548)) (by decide) rfl rfl rfl
theorem qJ251 : am_S 156 (.newarray .int) 266 Lc (.int (Int32.ofInt 2592) :: st) (qH250 L xs z) = am_go 268 Lc (.ref 161 :: st) (qH251 L xs z) := qnwa (by decide) (by decide) (by decide) rfl (show 1 ≤ 600895 by decide) (show 2592 ≤ 7279548 by decide) rfl qS251 rfl
def qV136 : Nat → Value := updV qV135 43 (.ref 161)
def qX240 : mm_X := fun b => if b = 129 then some (.inr (11, qV136)) else qX239 b
def qH252 (L : Nat) (xs : Nat → Int32) (z : Value) : am_G := mm_hp (L, xs, z, qP5) qM7 qX240 (162, 600894, 7276956)
theorem qJ252 : am_pf (qH251 L xs z) 129 11 43 (.ref 161) = some (qH252 L xs z) := qpf (w := (L, xs, z, qP5)) (μ := qM7) (X := qX239) (n := (162, 600894, 7276956)) (V := qV135) (by decide) rfl rfl rfl
def qX241 : mm_X := fun b => if b = 162 then some (.inl (.boolean, 2592, .inl fun _ => 0)) else qX240 b
def qH253 (L : Nat) (xs : Nat → Int32) (z : Value) : am_G := mm_hp (L, xs, z, qP5) qM7 qX241 (163, 600893, 7274364)
theorem qS253 : am_psh (qH252 L xs z) (.inl (.boolean, 2592, .inl fun _ => 0)) 2592 = (qH253 L xs z) := qpsh (w := (L, xs, z, qP5)) (μ := qM7) (X := qX240) (n := (162, 600894, 7276956)) (by decide) rfl rfl rfl
theorem qJ253 : am_S 156 (.newarray .boolean) 275 Lc (.int (Int32.ofInt 2592) :: st) (qH252 L xs z) = am_go 277 Lc (.ref 162 :: st) (qH253 L xs z) := qnwa (by decide) (by decide) (by decide) rfl (show 1 ≤ 600894 by decide) (show 2592 ≤ 7276956 by decide) rfl qS253 rfl
def qV137 : Nat → Value := updV qV136 44 (.ref 162)
def qX242 : mm_X := fun b => if b = 129 then some (.inr (11, qV137)) else qX241 b
def qH254 (L : Nat) (xs : Nat → Int32) (z : Value) : am_G := mm_hp (L, xs, z, qP5) qM7 qX242 (163, 600893, 7274364)
theorem qJ254 : am_pf (qH253 L xs z) 129 11 44 (.ref 162) = some (qH254 L xs z) := qpf (w := (L, xs, z, qP5)) (μ := qM7) (X := qX241) (n := (163, 600893, 7274364)) (V := qV136) (by decide) rfl rfl rfl
def qX243 : mm_X := fun b => if b = 163 then some (.inl (.int, 2592, .inl fun _ => 0)) else qX242 b
def qH255 (L : Nat) (xs : Nat → Int32) (z : Value) : am_G := mm_hp (L, xs, z, qP5) qM7 qX243 (164, 600892, 7271772)
theorem qS255 : am_psh (qH254 L xs z) (.inl (.int, 2592, .inl fun _ => 0)) 2592 = (qH255 L xs z) := qpsh (w := (L, xs, z, qP5)) (μ := qM7) (X := qX242) (n := (163, 600893, 7274364)) (by decide) rfl rfl rfl
theorem qJ255 : am_S 156 (.newarray .int) 284 Lc (.int (Int32.ofInt 2592) :: st) (qH254 L xs z) = am_go 286 Lc (.ref 163 :: st) (qH255 L xs z) := qnwa (by decide) (by decide) (by decide) rfl (show 1 ≤ 600893 by decide) (show 2592 ≤ 7274364 by decide) rfl qS255 rfl
def qV138 : Nat → Value := updV qV137 45 (.ref 163)
def qX244 : mm_X := fun b => if b = 129 then some (.inr (11, qV138)) else qX243 b
def qH256 (L : Nat) (xs : Nat → Int32) (z : Value) : am_G := mm_hp (L, xs, z, qP5) qM7 qX244 (164, 600892, 7271772)
theorem qJ256 : am_pf (qH255 L xs z) 129 11 45 (.ref 163) = some (qH256 L xs z) := qpf (w := (L, xs, z, qP5)) (μ := qM7) (X := qX243) (n := (164, 600892, 7271772)) (V := qV137) (by decide) rfl rfl rfl
def qX245 : mm_X := fun b => if b = 164 then some (.inl (.int, 20, .inl fun _ => 0)) else qX244 b
def qH257 (L : Nat) (xs : Nat → Int32) (z : Value) : am_G := mm_hp (L, xs, z, qP5) qM7 qX245 (165, 600891, 7271752)
theorem qS257 : am_psh (qH256 L xs z) (.inl (.int, 20, .inl fun _ => 0)) 20 = (qH257 L xs z) := qpsh (w := (L, xs, z, qP5)) (μ := qM7) (X := qX244) (n := (164, 600892, 7271772)) (by decide) rfl rfl rfl
theorem qJ257 : am_S 156 (.newarray .int) 292 Lc (.int (Int32.ofInt 20) :: st) (qH256 L xs z) = am_go 294 Lc (.ref 164 :: st) (qH257 L xs z) := qnwa (by decide) (by decide) (by decide) rfl (show 1 ≤ 600892 by decide) (show 20 ≤ 7271772 by decide) rfl qS257 rfl
def qV139 : Nat → Value := updV qV138 50 (.ref 164)
def qX246 : mm_X := fun b => if b = 129 then some (.inr (11, qV139)) else qX245 b
def qH258 (L : Nat) (xs : Nat → Int32) (z : Value) : am_G := mm_hp (L, xs, z, qP5) qM7 qX246 (165, 600891, 7271752)
theorem qJ258 : am_pf (qH257 L xs z) 129 11 50 (.ref 164) = some (qH258 L xs z) := qpf (w := (L, xs, z, qP5)) (μ := qM7) (X := qX245) (n := (165, 600891, 7271752)) (V := qV138) (by decide) rfl rfl rfl
def qX247 : mm_X := fun b => if b = 165 then some (.inl (.int, 20, .inl fun _ => 0)) else qX246 b
def qH259 (L : Nat) (xs : Nat → Int32) (z : Value) : am_G := mm_hp (L, xs, z, qP5) qM7 qX247 (166, 600890, 7271732)
theorem qS259 : am_psh (qH258 L xs z) (.inl (.int, 20, .inl fun _ => 0)) 20 = (qH259 L xs z) := qpsh (w := (L, xs, z, qP5)) (μ := qM7) (X := qX246) (n := (165, 600891, 7271752)) (by decide) rfl rfl rfl
theorem qJ259 : am_S 156 (.newarray .int) 300 Lc (.int (Int32.ofInt 20) :: st) (qH258 L xs z) = am_go 302 Lc (.ref 165 :: st) (qH259 L xs z) := qnwa (by decide) (by decide) (by decide) rfl (show 1 ≤ 600891 by decide) (show 20 ≤ 7271752 by decide) rfl qS259 rfl
def qV140 : Nat → Value := updV qV139 51 (.ref 165)
def qX248 : mm_X := fun b => if b = 129 then some (.inr (11, qV140)) else qX247 b
def qH260 (L : Nat) (xs : Nat → Int32) (z : Value) : am_G := mm_hp (L, xs, z, qP5) qM7 qX248 (166, 600890, 7271732)
theorem qJ260 : am_pf (qH259 L xs z) 129 11 51 (.ref 165) = some (qH260 L xs z) := qpf (w := (L, xs, z, qP5)) (μ := qM7) (X := qX247) (n := (166, 600890, 7271732)) (V := qV139) (by decide) rfl rfl rfl
def qX249 : mm_X := fun b => if b = 166 then some (.inl (.int, 20, .inl fun _ => 0)) else qX248 b
def qH261 (L : Nat) (xs : Nat → Int32) (z : Value) : am_G := mm_hp (L, xs, z, qP5) qM7 qX249 (167, 600889, 7271712)
theorem qS261 : am_psh (qH260 L xs z) (.inl (.int, 20, .inl fun _ => 0)) 20 = (qH261 L xs z) := qpsh (w := (L, xs, z, qP5)) (μ := qM7) (X := qX248) (n := (166, 600890, 7271732)) (by decide) rfl rfl rfl
theorem qJ261 : am_S 156 (.newarray .int) 308 Lc (.int (Int32.ofInt 20) :: st) (qH260 L xs z) = am_go 310 Lc (.ref 166 :: st) (qH261 L xs z) := qnwa (by decide) (by decide) (by decide) rfl (show 1 ≤ 600890 by decide) (show 20 ≤ 7271732 by decide) rfl qS261 rfl
def qV141 : Nat → Value := updV qV140 52 (.ref 166)
def qX250 : mm_X := fun b => if b = 129 then some (.inr (11, qV141)) else qX249 b
def qH262 (L : Nat) (xs : Nat → Int32) (z : Value) : am_G := mm_hp (L, xs, z, qP5) qM7 qX250 (167, 600889, 7271712)
theorem qJ262 : am_pf (qH261 L xs z) 129 11 52 (.ref 166) = some (qH262 L xs z) := qpf (w := (L, xs, z, qP5)) (μ := qM7) (X := qX249) (n := (167, 600889, 7271712)) (V := qV140) (by decide) rfl rfl rfl
def qX251 : mm_X := fun b => if b = 167 then some (.inl (.int, 20, .inl fun _ => 0)) else qX250 b
def qH263 (L : Nat) (xs : Nat → Int32) (z : Value) : am_G := mm_hp (L, xs, z, qP5) qM7 qX251 (168, 600888, 7271692)
theorem qS263 : am_psh (qH262 L xs z) (.inl (.int, 20, .inl fun _ => 0)) 20 = (qH263 L xs z) := qpsh (w := (L, xs, z, qP5)) (μ := qM7) (X := qX250) (n := (167, 600889, 7271712)) (by decide) rfl rfl rfl
theorem qJ263 : am_S 156 (.newarray .int) 316 Lc (.int (Int32.ofInt 20) :: st) (qH262 L xs z) = am_go 318 Lc (.ref 167 :: st) (qH263 L xs z) := qnwa (by decide) (by decide) (by decide) rfl (show 1 ≤ 600889 by decide) (show 20 ≤ 7271712 by decide) rfl qS263 rfl
def qV142 : Nat → Value := updV qV141 53 (.ref 167)
def qX252 : mm_X := fun b => if b = 129 then some (.inr (11, qV142)) else qX251 b
def qH264 (L : Nat) (xs : Nat → Int32) (z : Value) : am_G := mm_hp (L, xs, z, qP5) qM7 qX252 (168, 600888, 7271692)
theorem qJ264 : am_pf (qH263 L xs z) 129 11 53 (.ref 167) = some (qH264 L xs z) := qpf (w := (L, xs, z, qP5)) (μ := qM7) (X := qX251) (n := (168, 600888, 7271692)) (V := qV141) (by decide) rfl rfl rfl
def qX253 : mm_X := fun b => if b = 168 then some (.inl (.int, 20, .inl fun _ => 0)) else qX252 b
def qH265 (L : Nat) (xs : Nat → Int32) (z : Value) : am_G := mm_hp (L, xs, z, qP5) qM7 qX253 (169, 600887, 7271672)
theorem qS265 : am_psh (qH264 L xs z) (.inl (.int, 20, .inl fun _ => 0)) 20 = (qH265 L xs z) := qpsh (w := (L, xs, z, qP5)) (μ := qM7) (X := qX252) (n := (168, 600888, 7271692)) (by decide) rfl rfl rfl
theorem qJ265 : am_S 156 (.newarray .int) 324 Lc (.int (Int32.ofInt 20) :: st) (qH264 L xs z) = am_go 326 Lc (.ref 168 :: st) (qH265 L xs z) := qnwa (by decide) (by decide) (by decide) rfl (show 1 ≤ 600888 by decide) (show 20 ≤ 7271692 by decide) rfl qS265 rfl
def qV143 : Nat → Value := updV qV142 54 (.ref 168)
def qX254 : mm_X := fun b => if b = 129 then some (.inr (11, qV143)) else qX253 b
def qH266 (L : Nat) (xs : Nat → Int32) (z : Value) : am_G := mm_hp (L, xs, z, qP5) qM7 qX254 (169, 600887, 7271672)
theorem qJ266 : am_pf (qH265 L xs z) 129 11 54 (.ref 168) = some (qH266 L xs z) := qpf (w := (L, xs, z, qP5)) (μ := qM7) (X := qX253) (n := (169, 600887, 7271672)) (V := qV142) (by decide) rfl rfl rfl
def qX255 : mm_X := fun b => if b = 169 then some (.inl (.int, 20, .inl fun _ => 0)) else qX254 b
def qH267 (L : Nat) (xs : Nat → Int32) (z : Value) : am_G := mm_hp (L, xs, z, qP5) qM7 qX255 (170, 600886, 7271652)
theorem qS267 : am_psh (qH266 L xs z) (.inl (.int, 20, .inl fun _ => 0)) 20 = (qH267 L xs z) := qpsh (w := (L, xs, z, qP5)) (μ := qM7) (X := qX254) (n := (169, 600887, 7271672)) (by decide) rfl rfl rfl
theorem qJ267 : am_S 156 (.newarray .int) 332 Lc (.int (Int32.ofInt 20) :: st) (qH266 L xs z) = am_go 334 Lc (.ref 169 :: st) (qH267 L xs z) := qnwa (by decide) (by decide) (by decide) rfl (show 1 ≤ 600887 by decide) (show 20 ≤ 7271672 by decide) rfl qS267 rfl
def qV144 : Nat → Value := updV qV143 55 (.ref 169)
def qX256 : mm_X := fun b => if b = 129 then some (.inr (11, qV144)) else qX255 b
def qH268 (L : Nat) (xs : Nat → Int32) (z : Value) : am_G := mm_hp (L, xs, z, qP5) qM7 qX256 (170, 600886, 7271652)
theorem qJ268 : am_pf (qH267 L xs z) 129 11 55 (.ref 169) = some (qH268 L xs z) := qpf (w := (L, xs, z, qP5)) (μ := qM7) (X := qX255) (n := (170, 600886, 7271652)) (V := qV143) (by decide) rfl rfl rfl
def qX257 : mm_X := fun b => if b = 170 then some (.inl (.long, 20, .inr (.inl fun _ => 0))) else qX256 b
def qH269 (L : Nat) (xs : Nat → Int32) (z : Value) : am_G := mm_hp (L, xs, z, qP5) qM7 qX257 (171, 600885, 7271632)
theorem qS269 : am_psh (qH268 L xs z) (.inl (.long, 20, .inr (.inl fun _ => 0))) 20 = (qH269 L xs z) := qpsh (w := (L, xs, z, qP5)) (μ := qM7) (X := qX256) (n := (170, 600886, 7271652)) (by decide) rfl rfl rfl
theorem qJ269 : am_S 156 (.newarray .long) 340 Lc (.int (Int32.ofInt 20) :: st) (qH268 L xs z) = am_go 342 Lc (.ref 170 :: st) (qH269 L xs z) := qnwa (by decide) (by decide) (by decide) rfl (show 1 ≤ 600886 by decide) (show 20 ≤ 7271652 by decide) rfl qS269 rfl
def qV145 : Nat → Value := updV qV144 56 (.ref 170)
def qX258 : mm_X := fun b => if b = 129 then some (.inr (11, qV145)) else qX257 b
def qH270 (L : Nat) (xs : Nat → Int32) (z : Value) : am_G := mm_hp (L, xs, z, qP5) qM7 qX258 (171, 600885, 7271632)
theorem qJ270 : am_pf (qH269 L xs z) 129 11 56 (.ref 170) = some (qH270 L xs z) := qpf (w := (L, xs, z, qP5)) (μ := qM7) (X := qX257) (n := (171, 600885, 7271632)) (V := qV144) (by decide) rfl rfl rfl
def qX259 : mm_X := fun b => if b = 171 then some (.inl (.int, 20, .inl fun _ => 0)) else qX258 b
def qH271 (L : Nat) (xs : Nat → Int32) (z : Value) : am_G := mm_hp (L, xs, z, qP5) qM7 qX259 (172, 600884, 7271612)
theorem qS271 : am_psh (qH270 L xs z) (.inl (.int, 20, .inl fun _ => 0)) 20 = (qH271 L xs z) := qpsh (w := (L, xs, z, qP5)) (μ := qM7) (X := qX258) (n := (171, 600885, 7271632)) (by decide) rfl rfl rfl
theorem qJ271 : am_S 156 (.newarray .int) 348 Lc (.int (Int32.ofInt 20) :: st) (qH270 L xs z) = am_go 350 Lc (.ref 171 :: st) (qH271 L xs z) := qnwa (by decide) (by decide) (by decide) rfl (show 1 ≤ 600885 by decide) (show 20 ≤ 7271632 by decide) rfl qS271 rfl
def qV146 : Nat → Value := updV qV145 57 (.ref 171)
def qX260 : mm_X := fun b => if b = 129 then some (.inr (11, qV146)) else qX259 b
def qH272 (L : Nat) (xs : Nat → Int32) (z : Value) : am_G := mm_hp (L, xs, z, qP5) qM7 qX260 (172, 600884, 7271612)
theorem qJ272 : am_pf (qH271 L xs z) 129 11 57 (.ref 171) = some (qH272 L xs z) := qpf (w := (L, xs, z, qP5)) (μ := qM7) (X := qX259) (n := (172, 600884, 7271612)) (V := qV145) (by decide) rfl rfl rfl
def qX261 : mm_X := fun b => if b = 172 then some (.inl (.int, 20, .inl fun _ => 0)) else qX260 b
def qH273 (L : Nat) (xs : Nat → Int32) (z : Value) : am_G := mm_hp (L, xs, z, qP5) qM7 qX261 (173, 600883, 7271592)
theorem qS273 : am_psh (qH272 L xs z) (.inl (.int, 20, .inl fun _ => 0)) 20 = (qH273 L xs z) := qpsh (w := (L, xs, z, qP5)) (μ := qM7) (X := qX260) (n := (172, 600884, 7271612)) (by decide) rfl rfl rfl
theorem qJ273 : am_S 156 (.newarray .int) 356 Lc (.int (Int32.ofInt 20) :: st) (qH272 L xs z) = am_go 358 Lc (.ref 172 :: st) (qH273 L xs z) := qnwa (by decide) (by decide) (by decide) rfl (show 1 ≤ 600884 by decide) (show 20 ≤ 7271612 by decide) rfl qS273 rfl
def qV147 : Nat → Value := updV qV146 58 (.ref 172)
def qX262 : mm_X := fun b => if b = 129 then some (.inr (11, qV147)) else qX261 b
def qH274 (L : Nat) (xs : Nat → Int32) (z : Value) : am_G := mm_hp (L, xs, z, qP5) qM7 qX262 (173, 600883, 7271592)
theorem qJ274 : am_pf (qH273 L xs z) 129 11 58 (.ref 172) = some (qH274 L xs z) := qpf (w := (L, xs, z, qP5)) (μ := qM7) (X := qX261) (n := (173, 600883, 7271592)) (V := qV146) (by decide) rfl rfl rfl
def qX263 : mm_X := fun b => if b = 173 then some (.inl (.int, 640, .inl fun _ => 0)) else qX262 b
def qH275 (L : Nat) (xs : Nat → Int32) (z : Value) : am_G := mm_hp (L, xs, z, qP5) qM7 qX263 (174, 600882, 7270952)
theorem qS275 : am_psh (qH274 L xs z) (.inl (.int, 640, .inl fun _ => 0)) 640 = (qH275 L xs z) := qpsh (w := (L, xs, z, qP5)) (μ := qM7) (X := qX262) (n := (173, 600883, 7271592)) (by decide) rfl rfl rfl
theorem qJ275 : am_S 156 (.newarray .int) 365 Lc (.int (Int32.ofInt 640) :: st) (qH274 L xs z) = am_go 367 Lc (.ref 173 :: st) (qH275 L xs z) := qnwa (by decide) (by decide) (by decide) rfl (show 1 ≤ 600883 by decide) (show 640 ≤ 7271592 by decide) rfl qS275 rfl
def qV148 : Nat → Value := updV qV147 60 (.ref 173)
def qX264 : mm_X := fun b => if b = 129 then some (.inr (11, qV148)) else qX263 b
def qH276 (L : Nat) (xs : Nat → Int32) (z : Value) : am_G := mm_hp (L, xs, z, qP5) qM7 qX264 (174, 600882, 7270952)
theorem qJ276 : am_pf (qH275 L xs z) 129 11 60 (.ref 173) = some (qH276 L xs z) := qpf (w := (L, xs, z, qP5)) (μ := qM7) (X := qX263) (n := (174, 600882, 7270952)) (V := qV147) (by decide) rfl rfl rfl
def qX265 : mm_X := fun b => if b = 174 then some (.inl (.long, 640, .inr (.inl fun _ => 0))) else qX264 b
def qH277 (L : Nat) (xs : Nat → Int32) (z : Value) : am_G := mm_hp (L, xs, z, qP5) qM7 qX265 (175, 600881, 7270312)
theorem qS277 : am_psh (qH276 L xs z) (.inl (.long, 640, .inr (.inl fun _ => 0))) 640 = (qH277 L xs z) := qpsh (w := (L, xs, z, qP5)) (μ := qM7) (X := qX264) (n := (174, 600882, 7270952)) (by decide) rfl rfl rfl
theorem qJ277 : am_S 156 (.newarray .long) 374 Lc (.int (Int32.ofInt 640) :: st) (qH276 L xs z) = am_go 376 Lc (.ref 174 :: st) (qH277 L xs z) := qnwa (by decide) (by decide) (by decide) rfl (show 1 ≤ 600882 by decide) (show 640 ≤ 7270952 by decide) rfl qS277 rfl
def qV149 : Nat → Value := updV qV148 61 (.ref 174)
def qX266 : mm_X := fun b => if b = 129 then some (.inr (11, qV149)) else qX265 b
def qH278 (L : Nat) (xs : Nat → Int32) (z : Value) : am_G := mm_hp (L, xs, z, qP5) qM7 qX266 (175, 600881, 7270312)
theorem qJ278 : am_pf (qH277 L xs z) 129 11 61 (.ref 174) = some (qH278 L xs z) := qpf (w := (L, xs, z, qP5)) (μ := qM7) (X := qX265) (n := (175, 600881, 7270312)) (V := qV148) (by decide) rfl rfl rfl
def qV150 : Nat → Value := updV qV149 65 (.int (Int32.ofInt (300)))
def qX267 : mm_X := fun b => if b = 129 then some (.inr (11, qV150)) else qX266 b
def qH279 (L : Nat) (xs : Nat → Int32) (z : Value) : am_G := mm_hp (L, xs, z, qP5) qM7 qX267 (175, 600881, 7270312)
theorem qJ279 : am_pf (qH278 L xs z) 129 11 65 (.int (Int32.ofInt (300))) = some (qH279 L xs z) := qpf (w := (L, xs, z, qP5)) (μ := qM7) (X := qX266) (n := (175, 600881, 7270312)) (V := qV149) (by decide) rfl rfl rfl
def qX268 : mm_X := fun b => if b = 175 then some (.inl (.int, 3, .inl fun _ => 0)) else qX267 b
def qH280 (L : Nat) (xs : Nat → Int32) (z : Value) : am_G := mm_hp (L, xs, z, qP5) qM7 qX268 (176, 600880, 7270309)
theorem qS280 : am_psh (qH279 L xs z) (.inl (.int, 3, .inl fun _ => 0)) 3 = (qH280 L xs z) := qpsh (w := (L, xs, z, qP5)) (μ := qM7) (X := qX267) (n := (175, 600881, 7270312)) (by decide) rfl rfl rfl
theorem qJ280 : am_S 156 (.newarray .int) 388 Lc (.int (Int32.ofInt 3) :: st) (qH279 L xs z) = am_go 390 Lc (.ref 175 :: st) (qH280 L xs z) := qnwa (by decide) (by decide) (by decide) rfl (show 1 ≤ 600881 by decide) (show 3 ≤ 7270312 by decide) rfl qS280 rfl
def qV151 : Nat → Value := updV qV150 66 (.ref 175)
def qX269 : mm_X := fun b => if b = 129 then some (.inr (11, qV151)) else qX268 b
def qH281 (L : Nat) (xs : Nat → Int32) (z : Value) : am_G := mm_hp (L, xs, z, qP5) qM7 qX269 (176, 600880, 7270309)
theorem qJ281 : am_pf (qH280 L xs z) 129 11 66 (.ref 175) = some (qH281 L xs z) := qpf (w := (L, xs, z, qP5)) (μ := qM7) (X := qX268) (n := (176, 600880, 7270309)) (V := qV150) (by decide) rfl rfl rfl
def qX270 : mm_X := fun b => if b = 176 then some (.inl (.int, 216, .inl fun _ => 0)) else qX269 b
def qH282 (L : Nat) (xs : Nat → Int32) (z : Value) : am_G := mm_hp (L, xs, z, qP5) qM7 qX270 (177, 600879, 7270093)
theorem qS282 : am_psh (qH281 L xs z) (.inl (.int, 216, .inl fun _ => 0)) 216 = (qH282 L xs z) := qpsh (w := (L, xs, z, qP5)) (μ := qM7) (X := qX269) (n := (176, 600880, 7270309)) (by decide) rfl rfl rfl
theorem qJ282 : am_S 156 (.newarray .int) 397 Lc (.int (Int32.ofInt 216) :: st) (qH281 L xs z) = am_go 399 Lc (.ref 176 :: st) (qH282 L xs z) := qnwa (by decide) (by decide) (by decide) rfl (show 1 ≤ 600880 by decide) (show 216 ≤ 7270309 by decide) rfl qS282 rfl
def qV152 : Nat → Value := updV qV151 67 (.ref 176)
def qX271 : mm_X := fun b => if b = 129 then some (.inr (11, qV152)) else qX270 b
def qH283 (L : Nat) (xs : Nat → Int32) (z : Value) : am_G := mm_hp (L, xs, z, qP5) qM7 qX271 (177, 600879, 7270093)
theorem qJ283 : am_pf (qH282 L xs z) 129 11 67 (.ref 176) = some (qH283 L xs z) := qpf (w := (L, xs, z, qP5)) (μ := qM7) (X := qX270) (n := (177, 600879, 7270093)) (V := qV151) (by decide) rfl rfl rfl
def qX272 : mm_X := fun b => if b = 177 then some (.inl (.char, 16, .inl fun _ => 0)) else qX271 b
def qH284 (L : Nat) (xs : Nat → Int32) (z : Value) : am_G := mm_hp (L, xs, z, qP5) qM7 qX272 (178, 600878, 7270077)
theorem qS284 : am_psh (qH283 L xs z) (.inl (.char, 16, .inl fun _ => 0)) 16 = (qH284 L xs z) := qpsh (w := (L, xs, z, qP5)) (μ := qM7) (X := qX271) (n := (177, 600879, 7270093)) (by decide) rfl rfl rfl
theorem qJ284 : am_S 156 (.newarray .char) 405 Lc (.int (Int32.ofInt 16) :: st) (qH283 L xs z) = am_go 407 Lc (.ref 177 :: st) (qH284 L xs z) := qnwa (by decide) (by decide) (by decide) rfl (show 1 ≤ 600879 by decide) (show 16 ≤ 7270093 by decide) rfl qS284 rfl
def qV153 : Nat → Value := updV qV152 68 (.ref 177)
def qX273 : mm_X := fun b => if b = 129 then some (.inr (11, qV153)) else qX272 b
def qH285 (L : Nat) (xs : Nat → Int32) (z : Value) : am_G := mm_hp (L, xs, z, qP5) qM7 qX273 (178, 600878, 7270077)
theorem qJ285 : am_pf (qH284 L xs z) 129 11 68 (.ref 177) = some (qH285 L xs z) := qpf (w := (L, xs, z, qP5)) (μ := qM7) (X := qX272) (n := (178, 600878, 7270077)) (V := qV152) (by decide) rfl rfl rfl
def qP6 : Nat → Bool := fun b => qP5 b || [129, 130, 131, 132, 133, 134, 135, 136, 137, 138, 139, 140, 141, 142, 143, 144, 145, 146, 147, 148, 149, 150, 151, 152, 153, 154, 155, 156, 157, 158, 159, 160, 161, 162, 163, 164, 165, 166, 167, 168, 169, 170, 171, 172, 173, 174, 175, 176, 177].contains b
set_option maxRecDepth 20000 in
theorem qK129 : qX273 129 = mm_c qI 129 := by
  show some (Sum.inr (11, qV153)) = some (Sum.inr (11, fun k => mm_ob qI 11 129 k))
  refine congrArg (fun f => some (Sum.inr (11, f))) (funext fun k => ?_)
  match k with
  | 0 => rfl
  | 1 => rfl
  | 2 => rfl
  | 3 => rfl
  | 4 => rfl
  | 5 => rfl
  | 6 => rfl
  | 7 => rfl
  | 8 => rfl
  | 9 => rfl
  | 10 => rfl
  | 11 => rfl
  | 12 => rfl
  | 13 => rfl
  | 14 => rfl
  | 15 => rfl
  | 16 => rfl
  | 17 => rfl
  | 18 => rfl
  | 19 => rfl
  | 20 => rfl
  | 21 => rfl
  | 22 => rfl
  | 23 => rfl
  | 24 => rfl
  | 25 => rfl
  | 26 => rfl
  | 27 => rfl
  | 28 => rfl
  | 29 => rfl
  | 30 => rfl
  | 31 => rfl
  | 32 => rfl
  | 33 => rfl
  | 34 => rfl
  | 35 => rfl
  | 36 => rfl
  | 37 => rfl
  | 38 => rfl
  | 39 => rfl
  | 40 => rfl
  | 41 => rfl
  | 42 => rfl
  | 43 => rfl
  | 44 => rfl
  | 45 => rfl
  | 46 => rfl
  | 47 => rfl
  | 48 => rfl
  | 49 => rfl
  | 50 => rfl
  | 51 => rfl
  | 52 => rfl
  | 53 => rfl
  | 54 => rfl
  | 55 => rfl
  | 56 => rfl
  | 57 => rfl
  | 58 => rfl
  | 59 => rfl
  | 60 => rfl
  | 61 => rfl
  | 62 => rfl
  | 63 => rfl
  | 64 => rfl
  | 65 => rfl
  | 66 => rfl
  | 67 => rfl
  | 68 => rfl
  | k + 69 => rfl
set_option maxRecDepth 20000 in
theorem qK130 : qX273 130 = mm_c qI 130 := rfl
set_option maxRecDepth 20000 in
theorem qK131 : qX273 131 = mm_c qI 131 := rfl
set_option maxRecDepth 20000 in
theorem qK132 : qX273 132 = mm_c qI 132 := rfl
set_option maxRecDepth 20000 in
theorem qK133 : qX273 133 = mm_c qI 133 := rfl
set_option maxRecDepth 20000 in
theorem qK134 : qX273 134 = mm_c qI 134 := rfl
set_option maxRecDepth 20000 in
theorem qK135 : qX273 135 = mm_c qI 135 := rfl
set_option maxRecDepth 20000 in
theorem qK136 : qX273 136 = mm_c qI 136 := rfl
set_option maxRecDepth 20000 in
theorem qK137 : qX273 137 = mm_c qI 137 := rfl
set_option maxRecDepth 20000 in
theorem qK138 : qX273 138 = mm_c qI 138 := rfl
set_option maxRecDepth 20000 in
theorem qK139 : qX273 139 = mm_c qI 139 := rfl
set_option maxRecDepth 20000 in
theorem qK140 : qX273 140 = mm_c qI 140 := rfl
set_option maxRecDepth 20000 in
theorem qK141 : qX273 141 = mm_c qI 141 := rfl
set_option maxRecDepth 20000 in
theorem qK142 : qX273 142 = mm_c qI 142 := rfl
set_option maxRecDepth 20000 in
theorem qK143 : qX273 143 = mm_c qI 143 := rfl
set_option maxRecDepth 20000 in
theorem qK144 : qX273 144 = mm_c qI 144 := rfl
set_option maxRecDepth 20000 in
theorem qK145 : qX273 145 = mm_c qI 145 := rfl
set_option maxRecDepth 20000 in
theorem qK146 : qX273 146 = mm_c qI 146 := rfl
set_option maxRecDepth 20000 in
theorem qK147 : qX273 147 = mm_c qI 147 := rfl
set_option maxRecDepth 20000 in
theorem qK148 : qX273 148 = mm_c qI 148 := rfl
set_option maxRecDepth 20000 in
theorem qK149 : qX273 149 = mm_c qI 149 := rfl
set_option maxRecDepth 20000 in
theorem qK150 : qX273 150 = mm_c qI 150 := rfl
set_option maxRecDepth 20000 in
theorem qK151 : qX273 151 = mm_c qI 151 := rfl
set_option maxRecDepth 20000 in
theorem qK152 : qX273 152 = mm_c qI 152 := rfl
set_option maxRecDepth 20000 in
theorem qK153 : qX273 153 = mm_c qI 153 := rfl
set_option maxRecDepth 20000 in
theorem qK154 : qX273 154 = mm_c qI 154 := rfl
set_option maxRecDepth 20000 in
theorem qK155 : qX273 155 = mm_c qI 155 := rfl
set_option maxRecDepth 20000 in
theorem qK156 : qX273 156 = mm_c qI 156 := rfl
set_option maxRecDepth 20000 in
theorem qK157 : qX273 157 = mm_c qI 157 := rfl
set_option maxRecDepth 20000 in
theorem qK158 : qX273 158 = mm_c qI 158 := rfl
set_option maxRecDepth 20000 in
theorem qK159 : qX273 159 = mm_c qI 159 := rfl
set_option maxRecDepth 20000 in
theorem qK160 : qX273 160 = mm_c qI 160 := rfl
set_option maxRecDepth 20000 in
theorem qK161 : qX273 161 = mm_c qI 161 := rfl
set_option maxRecDepth 20000 in
theorem qK162 : qX273 162 = mm_c qI 162 := rfl
set_option maxRecDepth 20000 in
theorem qK163 : qX273 163 = mm_c qI 163 := rfl
set_option maxRecDepth 20000 in
theorem qK164 : qX273 164 = mm_c qI 164 := rfl
set_option maxRecDepth 20000 in
theorem qK165 : qX273 165 = mm_c qI 165 := rfl
set_option maxRecDepth 20000 in
theorem qK166 : qX273 166 = mm_c qI 166 := rfl
set_option maxRecDepth 20000 in
theorem qK167 : qX273 167 = mm_c qI 167 := rfl
set_option maxRecDepth 20000 in
theorem qK168 : qX273 168 = mm_c qI 168 := rfl
set_option maxRecDepth 20000 in
theorem qK169 : qX273 169 = mm_c qI 169 := rfl
set_option maxRecDepth 20000 in
theorem qK170 : qX273 170 = mm_c qI 170 := rfl
set_option maxRecDepth 20000 in
theorem qK171 : qX273 171 = mm_c qI 171 := rfl
set_option maxRecDepth 20000 in
theorem qK172 : qX273 172 = mm_c qI 172 := rfl
set_option maxRecDepth 20000 in
theorem qK173 : qX273 173 = mm_c qI 173 := rfl
set_option maxRecDepth 20000 in
theorem qK174 : qX273 174 = mm_c qI 174 := rfl
set_option maxRecDepth 20000 in
theorem qK175 : qX273 175 = mm_c qI 175 := rfl
set_option maxRecDepth 20000 in
theorem qK176 : qX273 176 = mm_c qI 176 := rfl
set_option maxRecDepth 20000 in
theorem qK177 : qX273 177 = mm_c qI 177 := rfl
def qH286 (L : Nat) (xs : Nat → Int32) (z : Value) : am_G := mm_hp (L, xs, z, qP6) qM7 qX273 (178, 600878, 7270077)
theorem qJ286 : (qH285 L xs z) = (qH286 L xs z) := qflipl [129, 130, 131, 132, 133, 134, 135, 136, 137, 138, 139, 140, 141, 142, 143, 144, 145, 146, 147, 148, 149, 150, 151, 152, 153, 154, 155, 156, 157, 158, 159, 160, 161, 162, 163, 164, 165, 166, 167, 168, 169, 170, 171, 172, 173, 174, 175, 176, 177] rfl (by
  intro b hb _
  simp only [List.mem_cons, List.not_mem_nil, or_false] at hb
  rcases hb with rfl | rfl | rfl | rfl | rfl | rfl | rfl | rfl | rfl | rfl | rfl | rfl | rfl | rfl | rfl | rfl | rfl | rfl | rfl | rfl | rfl | rfl | rfl | rfl | rfl | rfl | rfl | rfl | rfl | rfl | rfl | rfl | rfl | rfl | rfl | rfl | rfl | rfl | rfl | rfl | rfl | rfl | rfl | rfl | rfl | rfl | rfl | rfl | rfl
  · exact qK129.trans (mm_c_of (qE7 (by decide)) (fun q => absurd q (by decide))).symm
  · exact qK130.trans (mm_c_of (qE7 (by decide)) (fun q => absurd q (by decide))).symm
  · exact qK131.trans (mm_c_of (qE7 (by decide)) (fun q => absurd q (by decide))).symm
  · exact qK132.trans (mm_c_of (qE7 (by decide)) (fun q => absurd q (by decide))).symm
  · exact qK133.trans (mm_c_of (qE7 (by decide)) (fun q => absurd q (by decide))).symm
  · exact qK134.trans (mm_c_of (qE7 (by decide)) (fun q => absurd q (by decide))).symm
  · exact qK135.trans (mm_c_of (qE7 (by decide)) (fun q => absurd q (by decide))).symm
  · exact qK136.trans (mm_c_of (qE7 (by decide)) (fun q => absurd q (by decide))).symm
  · exact qK137.trans (mm_c_of (qE7 (by decide)) (fun q => absurd q (by decide))).symm
  · exact qK138.trans (mm_c_of (qE7 (by decide)) (fun q => absurd q (by decide))).symm
  · exact qK139.trans (mm_c_of (qE7 (by decide)) (fun q => absurd q (by decide))).symm
  · exact qK140.trans (mm_c_of (qE7 (by decide)) (fun q => absurd q (by decide))).symm
  · exact qK141.trans (mm_c_of (qE7 (by decide)) (fun q => absurd q (by decide))).symm
  · exact qK142.trans (mm_c_of (qE7 (by decide)) (fun q => absurd q (by decide))).symm
  · exact qK143.trans (mm_c_of (qE7 (by decide)) (fun q => absurd q (by decide))).symm
  · exact qK144.trans (mm_c_of (qE7 (by decide)) (fun q => absurd q (by decide))).symm
  · exact qK145.trans (mm_c_of (qE7 (by decide)) (fun q => absurd q (by decide))).symm
  · exact qK146.trans (mm_c_of (qE7 (by decide)) (fun q => absurd q (by decide))).symm
  · exact qK147.trans (mm_c_of (qE7 (by decide)) (fun q => absurd q (by decide))).symm
  · exact qK148.trans (mm_c_of (qE7 (by decide)) (fun q => absurd q (by decide))).symm
  · exact qK149.trans (mm_c_of (qE7 (by decide)) (fun q => absurd q (by decide))).symm
  · exact qK150.trans (mm_c_of (qE7 (by decide)) (fun q => absurd q (by decide))).symm
  · exact qK151.trans (mm_c_of (qE7 (by decide)) (fun q => absurd q (by decide))).symm
  · exact qK152.trans (mm_c_of (qE7 (by decide)) (fun q => absurd q (by decide))).symm
  · exact qK153.trans (mm_c_of (qE7 (by decide)) (fun q => absurd q (by decide))).symm
  · exact qK154.trans (mm_c_of (qE7 (by decide)) (fun q => absurd q (by decide))).symm
  · exact qK155.trans (mm_c_of (qE7 (by decide)) (fun q => absurd q (by decide))).symm
  · exact qK156.trans (mm_c_of (qE7 (by decide)) (fun q => absurd q (by decide))).symm
  · exact qK157.trans (mm_c_of (qE7 (by decide)) (fun q => absurd q (by decide))).symm
  · exact qK158.trans (mm_c_of (qE7 (by decide)) (fun q => absurd q (by decide))).symm
  · exact qK159.trans (mm_c_of (qE7 (by decide)) (fun q => absurd q (by decide))).symm
  · exact qK160.trans (mm_c_of (qE7 (by decide)) (fun q => absurd q (by decide))).symm
  · exact qK161.trans (mm_c_of (qE7 (by decide)) (fun q => absurd q (by decide))).symm
  · exact qK162.trans (mm_c_of (qE7 (by decide)) (fun q => absurd q (by decide))).symm
  · exact qK163.trans (mm_c_of (qE7 (by decide)) (fun q => absurd q (by decide))).symm
  · exact qK164.trans (mm_c_of (qE7 (by decide)) (fun q => absurd q (by decide))).symm
  · exact qK165.trans (mm_c_of (qE7 (by decide)) (fun q => absurd q (by decide))).symm
  · exact qK166.trans (mm_c_of (qE7 (by decide)) (fun q => absurd q (by decide))).symm
  · exact qK167.trans (mm_c_of (qE7 (by decide)) (fun q => absurd q (by decide))).symm
  · exact qK168.trans (mm_c_of (qE7 (by decide)) (fun q => absurd q (by decide))).symm
  · exact qK169.trans (mm_c_of (qE7 (by decide)) (fun q => absurd q (by decide))).symm
  · exact qK170.trans (mm_c_of (qE7 (by decide)) (fun q => absurd q (by decide))).symm
  · exact qK171.trans (mm_c_of (qE7 (by decide)) (fun q => absurd q (by decide))).symm
  · exact qK172.trans (mm_c_of (qE7 (by decide)) (fun q => absurd q (by decide))).symm
  · exact qK173.trans (mm_c_of (qE7 (by decide)) (fun q => absurd q (by decide))).symm
  · exact qK174.trans (mm_c_of (qE7 (by decide)) (fun q => absurd q (by decide))).symm
  · exact qK175.trans (mm_c_of (qE7 (by decide)) (fun q => absurd q (by decide))).symm
  · exact qK176.trans (mm_c_of (qE7 (by decide)) (fun q => absurd q (by decide))).symm
  · exact qK177.trans (mm_c_of (qE7 (by decide)) (fun q => absurd q (by decide))).symm)
theorem qPo6 {b : Nat} (h : 178 ≤ b) : qP6 b = false := by
  show (qP5 b || [129, 130, 131, 132, 133, 134, 135, 136, 137, 138, 139, 140, 141, 142, 143, 144, 145, 146, 147, 148, 149, 150, 151, 152, 153, 154, 155, 156, 157, 158, 159, 160, 161, 162, 163, 164, 165, 166, 167, 168, 169, 170, 171, 172, 173, 174, 175, 176, 177].contains b) = false
  rw [qPo5 (by omega)]
  show List.contains _ b = false
  simp
  omega
set_option maxRecDepth 20000 in
theorem qD1 {Q : am_Ou → am_G → Prop} : am_C 299 156 [.ref 129] (qH187 L xs z) Q ↔ am_E 298 156 Q (412, [some (.ref 129), some (.int (Int32.ofInt (0)))], [], qH286 L xs z) := by
  rw [am_C_in (d := 298) (by simp [am_arg, m_156, Value.category]), show am_loc 156 [.ref 129] = [some (.ref 129), none] from by simp [am_loc, am_arg, m_156, Value.category, List.replicate]]
  rw [x_156_0, lc_A_0, x_156_1, am_obj v_156_1 (by simp), am_K_go, x_156_4, lc_A_0, x_156_5, show ((18 : Int32)) = Int32.ofInt (18) from by decide, x_156_7, qJ188, am_K_go, y_156_9, qJ189, am_kg_some, x_156_12, lc_A_0, x_156_13, show ((18 : Int32)) = Int32.ofInt (18) from by decide, x_156_15, qJ190, am_K_go, y_156_17, qJ191, am_kg_some, x_156_20, lc_A_0, x_156_21, show ((18 : Int32)) = Int32.ofInt (18) from by decide, x_156_23, qJ192, am_K_go, y_156_25, qJ193, am_kg_some, x_156_28, lc_A_0, x_156_29, show ((18 : Int32)) = Int32.ofInt (18) from by decide, x_156_31, qJ194, am_K_go, y_156_33, qJ195, am_kg_some, x_156_36, lc_A_0, x_156_37, show ((3 : Int32)) = Int32.ofInt (3) from by decide, x_156_38, qJ196, am_K_go, y_156_40, qJ197, am_kg_some, x_156_43, lc_A_0, x_156_44, show ((8 : Int32)) = Int32.ofInt (8) from by decide, x_156_46, qJ198, am_K_go]
  rw [y_156_48, qJ199, am_kg_some, x_156_51, lc_A_0, x_156_52, show ((3 : Int32)) = Int32.ofInt (3) from by decide, x_156_53, qJ200, am_K_go, y_156_55, qJ201, am_kg_some, x_156_58, lc_A_0, x_156_59, show ((1 : Int32)) = Int32.ofInt (1) from by decide, y_156_60, qJ202, am_kg_some, x_156_63, lc_A_0, x_156_64, show ((648 : Int32)) = Int32.ofInt (648) from by decide, x_156_67, qJ203, am_K_go, y_156_69, qJ204, am_kg_some, x_156_72, lc_A_0, x_156_73, show ((648 : Int32)) = Int32.ofInt (648) from by decide, x_156_76, qJ205, am_K_go, y_156_78, qJ206, am_kg_some, x_156_81, lc_A_0, x_156_82, show ((24 : Int32)) = Int32.ofInt (24) from by decide, x_156_84, qJ207, am_K_go, y_156_86, qJ208, am_kg_some, x_156_89, lc_A_0, x_156_90, show ((24 : Int32)) = Int32.ofInt (24) from by decide, x_156_92, qJ209, am_K_go, y_156_94, qJ210, am_kg_some, x_156_97, lc_A_0]
  rw [x_156_98, show ((8 : Int32)) = Int32.ofInt (8) from by decide, x_156_100, qJ211, am_K_go, y_156_102, qJ212, am_kg_some, x_156_105, lc_A_0, x_156_106, show ((512 : Int32)) = Int32.ofInt (512) from by decide, x_156_109, qJ213, am_K_go, y_156_111, qJ214, am_kg_some, x_156_114, lc_A_0, x_156_115, show ((512 : Int32)) = Int32.ofInt (512) from by decide, x_156_118, qJ215, am_K_go, y_156_120, qJ216, am_kg_some, x_156_123, lc_A_0, x_156_124, show ((512 : Int32)) = Int32.ofInt (512) from by decide, x_156_127, qJ217, am_K_go, y_156_129, qJ218, am_kg_some, x_156_132, lc_A_0, x_156_133, show ((8 : Int32)) = Int32.ofInt (8) from by decide, x_156_135, qJ219, am_K_go, y_156_137, qJ220, am_kg_some, x_156_140, lc_A_0, x_156_141, show ((192 : Int32)) = Int32.ofInt (192) from by decide, x_156_144, qJ221, am_K_go, y_156_146, qJ222, am_kg_some, x_156_149, lc_A_0, x_156_150, show ((192 : Int32)) = Int32.ofInt (192) from by decide]
  rw [x_156_153, qJ223, am_K_go, y_156_155, qJ224, am_kg_some, x_156_158, lc_A_0, x_156_159, show ((3 : Int32)) = Int32.ofInt (3) from by decide, x_156_160, qJ225, am_K_go, y_156_162, qJ226, am_kg_some, x_156_165, lc_A_0, x_156_166, show ((3 : Int32)) = Int32.ofInt (3) from by decide, x_156_167, qJ227, am_K_go, y_156_169, qJ228, am_kg_some, x_156_172, lc_A_0, x_156_173, show ((24 : Int32)) = Int32.ofInt (24) from by decide, x_156_175, qJ229, am_K_go, y_156_177, qJ230, am_kg_some, x_156_180, lc_A_0, x_156_181, show ((32 : Int32)) = Int32.ofInt (32) from by decide, x_156_183, qJ231, am_K_go, y_156_185, qJ232, am_kg_some, x_156_188, lc_A_0, x_156_189, show ((32 : Int32)) = Int32.ofInt (32) from by decide, x_156_191, qJ233, am_K_go, y_156_193, qJ234, am_kg_some, x_156_196, lc_A_0, x_156_197, show ((32 : Int32)) = Int32.ofInt (32) from by decide, x_156_199, qJ235, am_K_go]
  rw [y_156_201, qJ236, am_kg_some, x_156_204, lc_A_0, x_156_205, show ((32 : Int32)) = Int32.ofInt (32) from by decide, x_156_207, qJ237, am_K_go, y_156_209, qJ238, am_kg_some, x_156_212, lc_A_0, x_156_213, show ((32 : Int32)) = Int32.ofInt (32) from by decide, x_156_215, qJ239, am_K_go, y_156_217, qJ240, am_kg_some, x_156_220, lc_A_0, x_156_221, show ((32 : Int32)) = Int32.ofInt (32) from by decide, x_156_223, qJ241, am_K_go, y_156_225, qJ242, am_kg_some, x_156_228, lc_A_0, x_156_229, show ((12 : Int32)) = Int32.ofInt (12) from by decide, x_156_231, qJ243, am_K_go, y_156_233, qJ244, am_kg_some, x_156_236, lc_A_0, x_156_237, show ((12 : Int32)) = Int32.ofInt (12) from by decide, x_156_239, qJ245, am_K_go, y_156_241, qJ246, am_kg_some, x_156_244, lc_A_0, x_156_245, show ((2592 : Int32)) = Int32.ofInt (2592) from by decide, x_156_248, qJ247, am_K_go, y_156_250, qJ248, am_kg_some]
  rw [x_156_253, lc_A_0, x_156_254, show ((2592 : Int32)) = Int32.ofInt (2592) from by decide, x_156_257, qJ249, am_K_go, y_156_259, qJ250, am_kg_some, x_156_262, lc_A_0, x_156_263, show ((2592 : Int32)) = Int32.ofInt (2592) from by decide, x_156_266, qJ251, am_K_go, y_156_268, qJ252, am_kg_some, x_156_271, lc_A_0, x_156_272, show ((2592 : Int32)) = Int32.ofInt (2592) from by decide, x_156_275, qJ253, am_K_go, y_156_277, qJ254, am_kg_some, x_156_280, lc_A_0, x_156_281, show ((2592 : Int32)) = Int32.ofInt (2592) from by decide, x_156_284, qJ255, am_K_go, y_156_286, qJ256, am_kg_some, x_156_289, lc_A_0, x_156_290, show ((20 : Int32)) = Int32.ofInt (20) from by decide, x_156_292, qJ257, am_K_go, y_156_294, qJ258, am_kg_some, x_156_297, lc_A_0, x_156_298, show ((20 : Int32)) = Int32.ofInt (20) from by decide, x_156_300, qJ259, am_K_go, y_156_302, qJ260, am_kg_some, x_156_305, lc_A_0]
  rw [x_156_306, show ((20 : Int32)) = Int32.ofInt (20) from by decide, x_156_308, qJ261, am_K_go, y_156_310, qJ262, am_kg_some, x_156_313, lc_A_0, x_156_314, show ((20 : Int32)) = Int32.ofInt (20) from by decide, x_156_316, qJ263, am_K_go, y_156_318, qJ264, am_kg_some, x_156_321, lc_A_0, x_156_322, show ((20 : Int32)) = Int32.ofInt (20) from by decide, x_156_324, qJ265, am_K_go, y_156_326, qJ266, am_kg_some, x_156_329, lc_A_0, x_156_330, show ((20 : Int32)) = Int32.ofInt (20) from by decide, x_156_332, qJ267, am_K_go, y_156_334, qJ268, am_kg_some, x_156_337, lc_A_0, x_156_338, show ((20 : Int32)) = Int32.ofInt (20) from by decide, x_156_340, qJ269, am_K_go, y_156_342, qJ270, am_kg_some, x_156_345, lc_A_0, x_156_346, show ((20 : Int32)) = Int32.ofInt (20) from by decide, x_156_348, qJ271, am_K_go, y_156_350, qJ272, am_kg_some, x_156_353, lc_A_0, x_156_354, show ((20 : Int32)) = Int32.ofInt (20) from by decide]
  rw [x_156_356, qJ273, am_K_go, y_156_358, qJ274, am_kg_some, x_156_361, lc_A_0, x_156_362, show ((640 : Int32)) = Int32.ofInt (640) from by decide, x_156_365, qJ275, am_K_go, y_156_367, qJ276, am_kg_some, x_156_370, lc_A_0, x_156_371, show ((640 : Int32)) = Int32.ofInt (640) from by decide, x_156_374, qJ277, am_K_go, y_156_376, qJ278, am_kg_some, x_156_379, lc_A_0, x_156_380, show ((300 : Int32)) = Int32.ofInt (300) from by decide, y_156_383, qJ279, am_kg_some, x_156_386, lc_A_0, x_156_387, show ((3 : Int32)) = Int32.ofInt (3) from by decide, x_156_388, qJ280, am_K_go, y_156_390, qJ281, am_kg_some, x_156_393, lc_A_0, x_156_394, show ((216 : Int32)) = Int32.ofInt (216) from by decide, x_156_397, qJ282, am_K_go, y_156_399, qJ283, am_kg_some, x_156_402, lc_A_0, x_156_403, show ((16 : Int32)) = Int32.ofInt (16) from by decide, x_156_405, qJ284, am_K_go, y_156_407, qJ285, am_kg_some]
  rw [x_156_410, show ((0 : Int32)) = Int32.ofInt (0) from by decide, x_156_411, sc_I_1 (by rfl), qJ286]
theorem qend : qH286 L xs z = mm_hp (L, xs, z, qP6) qM7 qX273 (178, 600878, 7270077) := rfl
theorem qP_all : ∀ b, b < 178 → 32 ≤ b → qP6 b = true := by decide +kernel
def qP : Nat → Bool := qP6
def qM : mm_M := qM7
def qXe : mm_X := qX273
theorem qstart {Q : am_Ou → am_G → Prop} : am_E 299 0 Q (0, [some (.ref 0), none, none, none, none, none, none, none], [], qH0 L xs z) ↔ am_E 298 156 (fun o g => am_bk 0 12 [some (.ref 0), some (.ref 32), none, none, none, none, none, none] [.ref 129] (am_E 299 0 Q) Q o g) (412, [some (.ref 129), some (.int (Int32.ofInt 0))], [], mm_hp (L, xs, z, qP) qM qXe (178, 600878, 7270077)) := by
  rw [x_0_0, qJ1, am_K_go, x_0_3, if_pos (by rfl), z_0_4 (by simp), qC21, bk_n, qJ186, x_0_7, sc_A_1 (by rfl), x_0_8, qJ187, am_K_go, x_0_11, if_pos (by rfl), z_0_12 (by simp), qD1]
  exact Iff.rfl
theorem qPz {b : Nat} (h : 178 ≤ b) : qP b = false := qPo6 h
theorem qMe {b : Nat} (h : (b < 35 ∨ 52 < b) ∧ b ≠ 97) : qM b = qI b := qE7 h
theorem qM97 : qM 97 = fun j => if 0 ≤ j ∧ j < 216 then -2147483648 else 0 := by
  funext j
  show mm_fi qM6 97 216 (-2147483648) 97 j = _
  unfold mm_fi
  by_cases e : 0 ≤ j ∧ j < 216
  · rw [if_pos ⟨rfl, e⟩, if_pos e]
  · rw [if_neg (fun q => e q.2), if_neg e, qE6 (b := 97) (by decide)]
    exact if_neg (by decide)
end QS