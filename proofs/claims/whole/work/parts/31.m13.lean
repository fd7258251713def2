/-! ===== methods (by gen_mir.py) ===== -/
def m208_104 : Nat → Int → Int → Int → zS → Option (Int × zS)
  | 0, _, _, _, _ => none
  | n + 1, x3, x4, x7, s => if x3 < x7 then oN (27 : Int) (oJ (Int.tdiv x4 (27 : Int)) fun z2 => oZ (x7 + (-1 : Int)) fun z4 => m208_104 n x3 z2 z4 s) else oN (27 : Int) (oV (Int.tmod x4 (27 : Int)) fun z6 => oZ z6 fun z7 => some (z7, s))
theorem c208_104 {G : aHp} {d : Nat} (hG : zG G) : ∀ {n : Nat} {x3 : Int} {x4 : Int} {x7 : Int} {d0 d1 d2 d5 d6 d8 : Option zV} {s : zS} {r_ : Int} {s_ : zS}, m208_104 n x3 x4 x7 s = some (r_, s_) → Zp G (d + 2) 208 104 [d0, d1, d2, some (zi x3), some (zj x4), d5, d6, some (zi x7), d8] [] s (zRet (some (zi r_)) s_) := by
  intro n
  induction n with
  | zero => intro x3 x4 x7 d0 d1 d2 d5 d6 d8 s r_ s_ hm; cases hm
  | succ n ih =>
  intro x3 x4 x7 d0 d1 d2 d5 d6 d8 s r_ s_ hm
  replace hm : (if x3 < x7 then oN (27 : Int) (oJ (Int.tdiv x4 (27 : Int)) fun z2 => oZ (x7 + (-1 : Int)) fun z4 => m208_104 n x3 z2 z4 s) else oN (27 : Int) (oV (Int.tmod x4 (27 : Int)) fun z6 => oZ z6 fun z7 => some (z7, s))) = some (r_, s_) := hm
  refine z_iload (pc' := 106) hM208 rfl rfl rfl ?_
  refine z_iload_n (pc' := 107) hM208 rfl rfl rfl ?_
  refine z_cmple (pc' := 110) (t := 124) hM208 rfl rfl (fun h1 => ?_) (fun h1 => ?_)
  · replace hm := o_t hm h1
    refine z_lload (pc' := 112) hM208 rfl rfl rfl ?_
    refine z_ldc2 (pc' := 115) hM208 rfl rfl rfl ?_
    obtain ⟨nz2, hm⟩ := o_n hm
    obtain ⟨z2, ez2, h3, hm⟩ := o_j hm
    refine z_ldiv (pc' := 116) hM208 rfl rfl nz2 ez2 h3 ?_
    refine z_lstore (pc' := 118) (l' := [d0, d1, d2, some (zi x3), some (zj z2), none, d6, some (zi x7), d8]) hM208 rfl rfl rfl rfl ?_
    obtain ⟨z4, ez4, h5, hm⟩ := o_z hm
    refine z_iinc (pc' := 121) (l' := [d0, d1, d2, some (zi x3), some (zj z2), none, zKd d6, some (zi z4), d8]) hM208 rfl rfl rfl ez4 h5 rfl rfl ?_
    refine z_goto (t := 104) hM208 rfl ?_
    exact ih hm
  · replace hm := o_f hm h1
    refine z_lload (pc' := 126) hM208 rfl rfl rfl ?_
    refine z_ldc2 (pc' := 129) hM208 rfl rfl rfl ?_
    obtain ⟨nz6, hm⟩ := o_n hm
    obtain ⟨z6, ez6, hm⟩ := o_v hm
    refine z_lrem (pc' := 130) hM208 rfl rfl nz6 ez6 ?_
    obtain ⟨z7, ez7, h8, hm⟩ := o_z hm
    refine z_l2i (pc' := 131) hM208 rfl rfl ez7 h8 ?_
    cases hm
    exact z_retI hM208 rfl rfl ⟨rfl, rfl⟩
def m208_69 : Nat → Int → Int → Int → Int → zS → Option (Int × zS)
  | 0, _, _, _, _, _ => none
  | n + 1, x3, x4, x6, x7, s => oV (zCmp x7 (0 : Int)) fun z1 => if (0 : Int) < z1 then oZ (x6 + (1 : Int)) fun z3 => oN (27 : Int) (oJ (Int.tdiv x7 (27 : Int)) fun z5 => m208_69 n x3 x4 z3 z5 s) else if x3 < x6 then oZ (x6 - (1 : Int)) fun z8 => m208_104 zFu x3 x4 z8 s else some ((0 : Int), s)
theorem c208_69 {G : aHp} {d : Nat} (hG : zG G) : ∀ {n : Nat} {x3 : Int} {x4 : Int} {x6 : Int} {x7 : Int} {d0 d1 d2 d5 d8 : Option zV} {s : zS} {r_ : Int} {s_ : zS}, m208_69 n x3 x4 x6 x7 s = some (r_, s_) → Zp G (d + 2) 208 69 [d0, d1, d2, some (zi x3), some (zj x4), d5, some (zi x6), some (zj x7), d8] [] s (zRet (some (zi r_)) s_) := by
  intro n
  induction n with
  | zero => intro x3 x4 x6 x7 d0 d1 d2 d5 d8 s r_ s_ hm; cases hm
  | succ n ih =>
  intro x3 x4 x6 x7 d0 d1 d2 d5 d8 s r_ s_ hm
  replace hm : (oV (zCmp x7 (0 : Int)) fun z1 => if (0 : Int) < z1 then oZ (x6 + (1 : Int)) fun z3 => oN (27 : Int) (oJ (Int.tdiv x7 (27 : Int)) fun z5 => m208_69 n x3 x4 z3 z5 s) else if x3 < x6 then oZ (x6 - (1 : Int)) fun z8 => m208_104 zFu x3 x4 z8 s else some ((0 : Int), s)) = some (r_, s_) := hm
  refine z_lload (pc' := 71) hM208 rfl rfl rfl ?_
  refine z_lconst (pc' := 72) (x := (0 : Int)) hM208 rfl rfl rfl rfl ?_
  obtain ⟨z1, ez1, hm⟩ := o_v hm
  refine z_lcmp (pc' := 73) hM208 rfl rfl ez1 ?_
  refine z_ifle (pc' := 76) (t := 90) hM208 rfl rfl (fun h2 => ?_) (fun h2 => ?_)
  · replace hm := o_t hm h2
    obtain ⟨z3, ez3, h4, hm⟩ := o_z hm
    refine z_iinc (pc' := 79) (l' := [d0, d1, d2, some (zi x3), some (zj x4), zKd d5, some (zi z3), some (zj x7), d8]) hM208 rfl rfl rfl ez3 h4 rfl rfl ?_
    refine z_lload (pc' := 81) hM208 rfl rfl rfl ?_
    refine z_ldc2 (pc' := 84) hM208 rfl rfl rfl ?_
    obtain ⟨nz5, hm⟩ := o_n hm
    obtain ⟨z5, ez5, h6, hm⟩ := o_j hm
    refine z_ldiv (pc' := 85) hM208 rfl rfl nz5 ez5 h6 ?_
    refine z_lstore (pc' := 87) (l' := [d0, d1, d2, some (zi x3), some (zj x4), zKd d5, some (zi z3), some (zj z5), none]) hM208 rfl rfl rfl rfl ?_
    refine z_goto (t := 69) hM208 rfl ?_
    exact ih hm
  · replace hm := o_f hm h2
    refine z_iload_n (pc' := 91) hM208 rfl rfl rfl ?_
    refine z_iload (pc' := 93) hM208 rfl rfl rfl ?_
    refine z_cmplt (pc' := 96) (t := 98) hM208 rfl rfl (fun h7 => ?_) (fun h7 => ?_)
    · replace hm := o_t hm h7
      refine z_iload (pc' := 100) hM208 rfl rfl rfl ?_
      refine z_iconst (pc' := 101) hM208 rfl rfl rfl ?_
      obtain ⟨z8, ez8, h9, hm⟩ := o_z hm
      refine z_isub (pc' := 102) hM208 rfl rfl ez8 h9 ?_
      refine z_istore (pc' := 104) (l' := [d0, d1, d2, some (zi x3), some (zj x4), d5, some (zi x6), some (zi z8), d8]) hM208 rfl rfl rfl rfl ?_
      exact c208_104 hG hm
    · replace hm := o_f hm h7
      refine z_iconst (pc' := 97) hM208 rfl rfl rfl ?_
      cases hm
      exact z_retI hM208 rfl rfl ⟨rfl, rfl⟩
def m208 (x1 : Int) (x2 : Int) (x3 : Int) (s : zS) : Option (Int × zS) := oC (m150 x1 (0 : Int) (2 : Int) s) fun z1 s2 => if z1 = (0 : Int) then some ((-1 : Int), s2) else oZ ((4 : Int) + x1) fun z5 => oX z5 8 (oV (s2.1 242 z5) fun z7 => oZ (z7 - (1 : Int)) fun z9 => oC (m150 x2 (0 : Int) z9 s2) fun z11 s12 => if z11 = (0 : Int) then some ((-1 : Int), s12) else oC (m150 x3 (0 : Int) (5 : Int) s12) fun z15 s16 => if z15 = (0 : Int) then some ((-1 : Int), s16) else oZ ((8 : Int) * x1) fun z19 => oZ ((24 : Int) + z19) fun z21 => oZ (z21 + x2) fun z23 => oX z23 48 (oV (s16.2.1 243 z23) fun z25 => m208_69 zFu x3 z25 (0 : Int) z25 s16))
theorem c208 {G : aHp} {d : Nat} (hG : zG G) {x1 : Int} {x2 : Int} {x3 : Int} {s : zS} {r_ : Int} {s_ : zS} (hm : m208 x1 x2 x3 s = some (r_, s_)) : Zp G (d + 2) 208 0 [some (zr 12 0 209), some (zi x1), some (zi x2), some (zi x3), none, none, none, none, none] [] s (zRet (some (zi r_)) s_) := by
  replace hm : (oC (m150 x1 (0 : Int) (2 : Int) s) fun z1 s2 => if z1 = (0 : Int) then some ((-1 : Int), s2) else oZ ((4 : Int) + x1) fun z5 => oX z5 8 (oV (s2.1 242 z5) fun z7 => oZ (z7 - (1 : Int)) fun z9 => oC (m150 x2 (0 : Int) z9 s2) fun z11 s12 => if z11 = (0 : Int) then some ((-1 : Int), s12) else oC (m150 x3 (0 : Int) (5 : Int) s12) fun z15 s16 => if z15 = (0 : Int) then some ((-1 : Int), s16) else oZ ((8 : Int) * x1) fun z19 => oZ ((24 : Int) + z19) fun z21 => oZ (z21 + x2) fun z23 => oX z23 48 (oV (s16.2.1 243 z23) fun z25 => m208_69 zFu x3 z25 (0 : Int) z25 s16))) = some (r_, s_) := hm
  refine z_iload_n (pc' := 1) hM208 rfl rfl rfl ?_
  refine z_i2l (pc' := 2) hM208 rfl rfl ?_
  refine z_lconst (pc' := 3) (x := (0 : Int)) hM208 rfl rfl rfl rfl ?_
  refine z_ldc2 (pc' := 6) hM208 rfl rfl rfl ?_
  obtain ⟨z1, s2, h3, hm⟩ := o_c hm
  refine z_cs (d := d + 1) (pc' := 9) hM208 rfl hM150 rfl rfl rfl rfl (c150 (d := d) hG h3) rfl ?_
  refine z_ifeq (pc' := 12) (t := 44) hM208 rfl rfl (fun h4 => ?_) (fun h4 => ?_)
  · replace hm := o_t hm h4
    refine z_iconst (pc' := 45) hM208 rfl rfl rfl ?_
    cases hm
    exact z_retI hM208 rfl rfl ⟨rfl, rfl⟩
  · replace hm := o_f hm h4
    refine z_iload_n (pc' := 13) hM208 rfl rfl rfl ?_
    refine z_i2l (pc' := 14) hM208 rfl rfl ?_
    refine z_lconst (pc' := 15) (x := (0 : Int)) hM208 rfl rfl rfl rfl ?_
    refine z_aload_n (pc' := 16) hM208 rfl rfl rfl ?_
    refine z_fldR (pc' := 19) hM208 rfl (zf_12_41 hG) rfl rfl ?_
    refine z_iconst (pc' := 20) hM208 rfl rfl rfl ?_
    refine z_iload_n (pc' := 21) hM208 rfl rfl rfl ?_
    obtain ⟨z5, ez5, h6, hm⟩ := o_z hm
    refine z_iadd (pc' := 22) hM208 rfl rfl ez5 h6 ?_
    obtain ⟨h8, hm⟩ := o_x hm
    obtain ⟨z7, ez7, hm⟩ := o_v hm
    refine z_iald (pc' := 23) (zGN hG) hM208 rfl rfl h8 ez7 ?_
    refine z_iconst (pc' := 24) hM208 rfl rfl rfl ?_
    obtain ⟨z9, ez9, h10, hm⟩ := o_z hm
    refine z_isub (pc' := 25) hM208 rfl rfl ez9 h10 ?_
    refine z_i2l (pc' := 26) hM208 rfl rfl ?_
    obtain ⟨z11, s12, h13, hm⟩ := o_c hm
    refine z_cs (d := d + 1) (pc' := 29) hM208 rfl hM150 rfl rfl rfl rfl (c150 (d := d) hG h13) rfl ?_
    refine z_ifeq (pc' := 32) (t := 44) hM208 rfl rfl (fun h14 => ?_) (fun h14 => ?_)
    · replace hm := o_t hm h14
      refine z_iconst (pc' := 45) hM208 rfl rfl rfl ?_
      cases hm
      exact z_retI hM208 rfl rfl ⟨rfl, rfl⟩
    · replace hm := o_f hm h14
      refine z_iload_n (pc' := 33) hM208 rfl rfl rfl ?_
      refine z_i2l (pc' := 34) hM208 rfl rfl ?_
      refine z_lconst (pc' := 35) (x := (0 : Int)) hM208 rfl rfl rfl rfl ?_
      refine z_ldc2 (pc' := 38) hM208 rfl rfl rfl ?_
      obtain ⟨z15, s16, h17, hm⟩ := o_c hm
      refine z_cs (d := d + 1) (pc' := 41) hM208 rfl hM150 rfl rfl rfl rfl (c150 (d := d) hG h17) rfl ?_
      refine z_ifne (pc' := 44) (t := 46) hM208 rfl rfl (fun h18 => ?_) (fun h18 => ?_)
      · replace hm := o_t hm h18
        refine z_iconst (pc' := 45) hM208 rfl rfl rfl ?_
        cases hm
        exact z_retI hM208 rfl rfl ⟨rfl, rfl⟩
      · replace hm := o_f hm h18
        refine z_aload_n (pc' := 47) hM208 rfl rfl rfl ?_
        refine z_fldR (pc' := 50) hM208 rfl (zf_12_42 hG) rfl rfl ?_
        refine z_bipush (pc' := 52) hM208 rfl rfl rfl ?_
        refine z_bipush (pc' := 54) hM208 rfl rfl rfl ?_
        refine z_iload_n (pc' := 55) hM208 rfl rfl rfl ?_
        obtain ⟨z19, ez19, h20, hm⟩ := o_z hm
        refine z_imul (pc' := 56) hM208 rfl rfl ez19 h20 ?_
        obtain ⟨z21, ez21, h22, hm⟩ := o_z hm
        refine z_iadd (pc' := 57) hM208 rfl rfl ez21 h22 ?_
        refine z_iload_n (pc' := 58) hM208 rfl rfl rfl ?_
        obtain ⟨z23, ez23, h24, hm⟩ := o_z hm
        refine z_iadd (pc' := 59) hM208 rfl rfl ez23 h24 ?_
        obtain ⟨h26, hm⟩ := o_x hm
        obtain ⟨z25, ez25, hm⟩ := o_v hm
        refine z_lald (pc' := 60) hM208 rfl rfl h26 ez25 ?_
        refine z_lstore (pc' := 62) (l' := [some (zr 12 0 209), some (zi x1), some (zi x2), some (zi x3), some (zj z25), none, none, none, none]) hM208 rfl rfl rfl rfl ?_
        refine z_iconst (pc' := 63) hM208 rfl rfl rfl ?_
        refine z_istore (pc' := 65) (l' := [some (zr 12 0 209), some (zi x1), some (zi x2), some (zi x3), some (zj z25), none, some (zi (0 : Int)), none, none]) hM208 rfl rfl rfl rfl ?_
        refine z_lload (pc' := 67) hM208 rfl rfl rfl ?_
        refine z_lstore (pc' := 69) (l' := [some (zr 12 0 209), some (zi x1), some (zi x2), some (zi x3), some (zj z25), none, some (zi (0 : Int)), some (zj z25), none]) hM208 rfl rfl rfl rfl ?_
        exact c208_69 hG hm
def m209 (x1 : Int) (x2 : Int) (s : zS) : Option (Int × zS) := oC (m184 x1 s) fun z1 s2 => if z1 = (0 : Int) then some ((-1 : Int), s2) else oC (m184 x2 s2) fun z5 s6 => if z5 = (0 : Int) then some ((-1 : Int), s6) else oZ ((7 : Int) * x1) fun z9 => oZ (z9 + x2) fun z11 => oX z11 49 (oV (s6.1 252 z11) fun z13 => some (z13, s6))
theorem c209 {G : aHp} {d : Nat} (hG : zG G) {x1 : Int} {x2 : Int} {s : zS} {r_ : Int} {s_ : zS} (hm : m209 x1 x2 s = some (r_, s_)) : Zp G (d + 3) 209 0 [some (zr 12 0 209), some (zi x1), some (zi x2)] [] s (zRet (some (zi r_)) s_) := by
  replace hm : (oC (m184 x1 s) fun z1 s2 => if z1 = (0 : Int) then some ((-1 : Int), s2) else oC (m184 x2 s2) fun z5 s6 => if z5 = (0 : Int) then some ((-1 : Int), s6) else oZ ((7 : Int) * x1) fun z9 => oZ (z9 + x2) fun z11 => oX z11 49 (oV (s6.1 252 z11) fun z13 => some (z13, s6))) = some (r_, s_) := hm
  refine z_aload_n (pc' := 1) hM209 rfl rfl rfl ?_
  refine z_iload_n (pc' := 2) hM209 rfl rfl rfl ?_
  refine z_i2l (pc' := 3) hM209 rfl rfl ?_
  obtain ⟨z1, s2, h3, hm⟩ := o_c hm
  refine z_cv (d := d + 2) (pc' := 6) hM209 rfl hM184 rfl rfl rfl rfl rfl rfl (c184 (d := d) hG h3) rfl ?_
  refine z_ifeq (pc' := 9) (t := 32) hM209 rfl rfl (fun h4 => ?_) (fun h4 => ?_)
  · replace hm := o_t hm h4
    refine z_iconst (pc' := 33) hM209 rfl rfl rfl ?_
    cases hm
    exact z_retI hM209 rfl rfl ⟨rfl, rfl⟩
  · replace hm := o_f hm h4
    refine z_aload_n (pc' := 10) hM209 rfl rfl rfl ?_
    refine z_iload_n (pc' := 11) hM209 rfl rfl rfl ?_
    refine z_i2l (pc' := 12) hM209 rfl rfl ?_
    obtain ⟨z5, s6, h7, hm⟩ := o_c hm
    refine z_cv (d := d + 2) (pc' := 15) hM209 rfl hM184 rfl rfl rfl rfl rfl rfl (c184 (d := d) hG h7) rfl ?_
    refine z_ifeq (pc' := 18) (t := 32) hM209 rfl rfl (fun h8 => ?_) (fun h8 => ?_)
    · replace hm := o_t hm h8
      refine z_iconst (pc' := 33) hM209 rfl rfl rfl ?_
      cases hm
      exact z_retI hM209 rfl rfl ⟨rfl, rfl⟩
    · replace hm := o_f hm h8
      refine z_aload_n (pc' := 19) hM209 rfl rfl rfl ?_
      refine z_fldR (pc' := 22) hM209 rfl (zf_12_54 hG) rfl rfl ?_
      refine z_bipush (pc' := 24) hM209 rfl rfl rfl ?_
      refine z_iload_n (pc' := 25) hM209 rfl rfl rfl ?_
      obtain ⟨z9, ez9, h10, hm⟩ := o_z hm
      refine z_imul (pc' := 26) hM209 rfl rfl ez9 h10 ?_
      refine z_iload_n (pc' := 27) hM209 rfl rfl rfl ?_
      obtain ⟨z11, ez11, h12, hm⟩ := o_z hm
      refine z_iadd (pc' := 28) hM209 rfl rfl ez11 h12 ?_
      obtain ⟨h14, hm⟩ := o_x hm
      obtain ⟨z13, ez13, hm⟩ := o_v hm
      refine z_iald (pc' := 29) (zGN hG) hM209 rfl rfl h14 ez13 ?_
      refine z_goto (t := 33) hM209 rfl ?_
      cases hm
      exact z_retI hM209 rfl rfl ⟨rfl, rfl⟩
def m210 (x1 : Int) (x2 : Int) (s : zS) : Option (Int × zS) := oC (m184 x1 s) fun z1 s2 => if z1 = (0 : Int) then some ((-1 : Int), s2) else oC (m184 x2 s2) fun z5 s6 => if z5 = (0 : Int) then some ((-1 : Int), s6) else oZ ((7 : Int) * x1) fun z9 => oZ (z9 + x2) fun z11 => oX z11 49 (oV (s6.1 253 z11) fun z13 => some (z13, s6))
theorem c210 {G : aHp} {d : Nat} (hG : zG G) {x1 : Int} {x2 : Int} {s : zS} {r_ : Int} {s_ : zS} (hm : m210 x1 x2 s = some (r_, s_)) : Zp G (d + 3) 210 0 [some (zr 12 0 209), some (zi x1), some (zi x2)] [] s (zRet (some (zi r_)) s_) := by
  replace hm : (oC (m184 x1 s) fun z1 s2 => if z1 = (0 : Int) then some ((-1 : Int), s2) else oC (m184 x2 s2) fun z5 s6 => if z5 = (0 : Int) then some ((-1 : Int), s6) else oZ ((7 : Int) * x1) fun z9 => oZ (z9 + x2) fun z11 => oX z11 49 (oV (s6.1 253 z11) fun z13 => some (z13, s6))) = some (r_, s_) := hm
  refine z_aload_n (pc' := 1) hM210 rfl rfl rfl ?_
  refine z_iload_n (pc' := 2) hM210 rfl rfl rfl ?_
  refine z_i2l (pc' := 3) hM210 rfl rfl ?_
  obtain ⟨z1, s2, h3, hm⟩ := o_c hm
  refine z_cv (d := d + 2) (pc' := 6) hM210 rfl hM184 rfl rfl rfl rfl rfl rfl (c184 (d := d) hG h3) rfl ?_
  refine z_ifeq (pc' := 9) (t := 32) hM210 rfl rfl (fun h4 => ?_) (fun h4 => ?_)
  · replace hm := o_t hm h4
    refine z_iconst (pc' := 33) hM210 rfl rfl rfl ?_
    cases hm
    exact z_retI hM210 rfl rfl ⟨rfl, rfl⟩
  · replace hm := o_f hm h4
    refine z_aload_n (pc' := 10) hM210 rfl rfl rfl ?_
    refine z_iload_n (pc' := 11) hM210 rfl rfl rfl ?_
    refine z_i2l (pc' := 12) hM210 rfl rfl ?_
    obtain ⟨z5, s6, h7, hm⟩ := o_c hm
    refine z_cv (d := d + 2) (pc' := 15) hM210 rfl hM184 rfl rfl rfl rfl rfl rfl (c184 (d := d) hG h7) rfl ?_
    refine z_ifeq (pc' := 18) (t := 32) hM210 rfl rfl (fun h8 => ?_) (fun h8 => ?_)
    · replace hm := o_t hm h8
      refine z_iconst (pc' := 33) hM210 rfl rfl rfl ?_
      cases hm
      exact z_retI hM210 rfl rfl ⟨rfl, rfl⟩
    · replace hm := o_f hm h8
      refine z_aload_n (pc' := 19) hM210 rfl rfl rfl ?_
      refine z_fldR (pc' := 22) hM210 rfl (zf_12_55 hG) rfl rfl ?_
      refine z_bipush (pc' := 24) hM210 rfl rfl rfl ?_
      refine z_iload_n (pc' := 25) hM210 rfl rfl rfl ?_
      obtain ⟨z9, ez9, h10, hm⟩ := o_z hm
      refine z_imul (pc' := 26) hM210 rfl rfl ez9 h10 ?_
      refine z_iload_n (pc' := 27) hM210 rfl rfl rfl ?_
      obtain ⟨z11, ez11, h12, hm⟩ := o_z hm
      refine z_iadd (pc' := 28) hM210 rfl rfl ez11 h12 ?_
      obtain ⟨h14, hm⟩ := o_x hm
      obtain ⟨z13, ez13, hm⟩ := o_v hm
      refine z_iald (pc' := 29) (zGN hG) hM210 rfl rfl h14 ez13 ?_
      refine z_goto (t := 33) hM210 rfl ?_
      cases hm
      exact z_retI hM210 rfl rfl ⟨rfl, rfl⟩
def m211 (x1 : Int) (x2 : Int) (s : zS) : Option (Int × zS) := oC (m185 x1 s) fun z1 s2 => if z1 = (0 : Int) then some ((-1 : Int), s2) else oC (m150 x2 (0 : Int) (1 : Int) s2) fun z5 s6 => if z5 = (0 : Int) then if x2 = (2 : Int) then oC (m187 x1 s6) fun z10 s11 => some (z10, s11) else if x2 = (3 : Int) then oC (m192 x1 s6) fun z14 s15 => some (z14, s15) else some ((-1 : Int), s6) else oZ ((3 : Int) * x1) fun z17 => oZ ((24 : Int) + z17) fun z19 => oZ (z19 + x2) fun z21 => oX z21 48 (oV (s6.1 245 z21) fun z23 => some (z23, s6))
theorem c211 {G : aHp} {d : Nat} (hG : zG G) {x1 : Int} {x2 : Int} {s : zS} {r_ : Int} {s_ : zS} (hm : m211 x1 x2 s = some (r_, s_)) : Zp G (d + 3) 211 0 [some (zr 12 0 209), some (zi x1), some (zi x2)] [] s (zRet (some (zi r_)) s_) := by
  replace hm : (oC (m185 x1 s) fun z1 s2 => if z1 = (0 : Int) then some ((-1 : Int), s2) else oC (m150 x2 (0 : Int) (1 : Int) s2) fun z5 s6 => if z5 = (0 : Int) then if x2 = (2 : Int) then oC (m187 x1 s6) fun z10 s11 => some (z10, s11) else if x2 = (3 : Int) then oC (m192 x1 s6) fun z14 s15 => some (z14, s15) else some ((-1 : Int), s6) else oZ ((3 : Int) * x1) fun z17 => oZ ((24 : Int) + z17) fun z19 => oZ (z19 + x2) fun z21 => oX z21 48 (oV (s6.1 245 z21) fun z23 => some (z23, s6))) = some (r_, s_) := hm
  refine z_aload_n (pc' := 1) hM211 rfl rfl rfl ?_
  refine z_iload_n (pc' := 2) hM211 rfl rfl rfl ?_
  obtain ⟨z1, s2, h3, hm⟩ := o_c hm
  refine z_cv (d := d + 2) (pc' := 5) hM211 rfl hM185 rfl rfl rfl rfl rfl rfl (c185 (d := d) hG h3) rfl ?_
  refine z_ifne (pc' := 8) (t := 10) hM211 rfl rfl (fun h4 => ?_) (fun h4 => ?_)
  · replace hm := o_t hm h4
    refine z_iconst (pc' := 9) hM211 rfl rfl rfl ?_
    cases hm
    exact z_retI hM211 rfl rfl ⟨rfl, rfl⟩
  · replace hm := o_f hm h4
    refine z_iload_n (pc' := 11) hM211 rfl rfl rfl ?_
    refine z_i2l (pc' := 12) hM211 rfl rfl ?_
    refine z_lconst (pc' := 13) (x := (0 : Int)) hM211 rfl rfl rfl rfl ?_
    refine z_lconst (pc' := 14) (x := (1 : Int)) hM211 rfl rfl rfl rfl ?_
    obtain ⟨z5, s6, h7, hm⟩ := o_c hm
    refine z_cs (d := d + 2) (pc' := 17) hM211 rfl hM150 rfl rfl rfl rfl (c150 (d := d + 1) hG h7) rfl ?_
    refine z_ifeq (pc' := 20) (t := 36) hM211 rfl rfl (fun h8 => ?_) (fun h8 => ?_)
    · replace hm := o_t hm h8
      refine z_iload_n (pc' := 37) hM211 rfl rfl rfl ?_
      refine z_iconst (pc' := 38) hM211 rfl rfl rfl ?_
      refine z_cmpne (pc' := 41) (t := 49) hM211 rfl rfl (fun h9 => ?_) (fun h9 => ?_)
      · replace hm := o_t hm h9
        refine z_aload_n (pc' := 42) hM211 rfl rfl rfl ?_
        refine z_iload_n (pc' := 43) hM211 rfl rfl rfl ?_
        obtain ⟨z10, s11, h12, hm⟩ := o_c hm
        refine z_cv (d := d + 2) (pc' := 46) hM211 rfl hM187 rfl rfl rfl rfl rfl rfl (c187 (d := d + 1) hG h12) rfl ?_
        refine z_goto (t := 63) hM211 rfl ?_
        cases hm
        exact z_retI hM211 rfl rfl ⟨rfl, rfl⟩
      · replace hm := o_f hm h9
        refine z_iload_n (pc' := 50) hM211 rfl rfl rfl ?_
        refine z_iconst (pc' := 51) hM211 rfl rfl rfl ?_
        refine z_cmpne (pc' := 54) (t := 62) hM211 rfl rfl (fun h13 => ?_) (fun h13 => ?_)
        · replace hm := o_t hm h13
          refine z_aload_n (pc' := 55) hM211 rfl rfl rfl ?_
          refine z_iload_n (pc' := 56) hM211 rfl rfl rfl ?_
          obtain ⟨z14, s15, h16, hm⟩ := o_c hm
          refine z_cv (d := d + 2) (pc' := 59) hM211 rfl hM192 rfl rfl rfl rfl rfl rfl (c192 (d := d) hG h16) rfl ?_
          refine z_goto (t := 63) hM211 rfl ?_
          cases hm
          exact z_retI hM211 rfl rfl ⟨rfl, rfl⟩
        · replace hm := o_f hm h13
          refine z_iconst (pc' := 63) hM211 rfl rfl rfl ?_
          cases hm
          exact z_retI hM211 rfl rfl ⟨rfl, rfl⟩
    · replace hm := o_f hm h8
      refine z_aload_n (pc' := 21) hM211 rfl rfl rfl ?_
      refine z_fldR (pc' := 24) hM211 rfl (zf_12_44 hG) rfl rfl ?_
      refine z_bipush (pc' := 26) hM211 rfl rfl rfl ?_
      refine z_iconst (pc' := 27) hM211 rfl rfl rfl ?_
      refine z_iload_n (pc' := 28) hM211 rfl rfl rfl ?_
      obtain ⟨z17, ez17, h18, hm⟩ := o_z hm
      refine z_imul (pc' := 29) hM211 rfl rfl ez17 h18 ?_
      obtain ⟨z19, ez19, h20, hm⟩ := o_z hm
      refine z_iadd (pc' := 30) hM211 rfl rfl ez19 h20 ?_
      refine z_iload_n (pc' := 31) hM211 rfl rfl rfl ?_
      obtain ⟨z21, ez21, h22, hm⟩ := o_z hm
      refine z_iadd (pc' := 32) hM211 rfl rfl ez21 h22 ?_
      obtain ⟨h24, hm⟩ := o_x hm
      obtain ⟨z23, ez23, hm⟩ := o_v hm
      refine z_iald (pc' := 33) (zGN hG) hM211 rfl rfl h24 ez23 ?_
      refine z_goto (t := 63) hM211 rfl ?_
      cases hm
      exact z_retI hM211 rfl rfl ⟨rfl, rfl⟩
def m212 (x1 : Int) (x2 : Int) (s : zS) : Option (Int × zS) := oC (m186 x1 s) fun z1 s2 => if z1 = (0 : Int) then some ((-1 : Int), s2) else if x2 = (0 : Int) then oZ ((3 : Int) * x1) fun z6 => oZ ((18 : Int) + z6) fun z8 => oZ (z8 + x2) fun z10 => oX z10 36 (oV (s2.1 246 z10) fun z12 => some (z12, s2)) else if x2 = (1 : Int) then oZ ((3 : Int) * x1) fun z15 => oZ ((18 : Int) + z15) fun z17 => oZ (z17 + x2) fun z19 => oX z19 36 (oV (s2.1 246 z19) fun z21 => some (z21, s2)) else if x2 = (2 : Int) then oZ ((3 : Int) * x1) fun z24 => oZ ((18 : Int) + z24) fun z26 => oZ (z26 + x2) fun z28 => oX z28 36 (oV (s2.1 246 z28) fun z30 => some (z30, s2)) else if x2 = (3 : Int) then oC (m188 x1 s2) fun z33 s34 => some (z33, s34) else if x2 = (4 : Int) then oC (m189 x1 s2) fun z37 s38 => some (z37, s38) else if x2 = (5 : Int) then oC (m190 x1 s2) fun z41 s42 => some (z41, s42) else if x2 = (6 : Int) then oC (m193 x1 s2) fun z45 s46 => if z45 = (0 : Int) then some ((0 : Int), s46) else some ((1 : Int), s46) else some ((-1 : Int), s2)
theorem c212 {G : aHp} {d : Nat} (hG : zG G) {x1 : Int} {x2 : Int} {s : zS} {r_ : Int} {s_ : zS} (hm : m212 x1 x2 s = some (r_, s_)) : Zp G (d + 3) 212 0 [some (zr 12 0 209), some (zi x1), some (zi x2)] [] s (zRet (some (zi r_)) s_) := by
  replace hm : (oC (m186 x1 s) fun z1 s2 => if z1 = (0 : Int) then some ((-1 : Int), s2) else if x2 = (0 : Int) then oZ ((3 : Int) * x1) fun z6 => oZ ((18 : Int) + z6) fun z8 => oZ (z8 + x2) fun z10 => oX z10 36 (oV (s2.1 246 z10) fun z12 => some (z12, s2)) else if x2 = (1 : Int) then oZ ((3 : Int) * x1) fun z15 => oZ ((18 : Int) + z15) fun z17 => oZ (z17 + x2) fun z19 => oX z19 36 (oV (s2.1 246 z19) fun z21 => some (z21, s2)) else if x2 = (2 : Int) then oZ ((3 : Int) * x1) fun z24 => oZ ((18 : Int) + z24) fun z26 => oZ (z26 + x2) fun z28 => oX z28 36 (oV (s2.1 246 z28) fun z30 => some (z30, s2)) else if x2 = (3 : Int) then oC (m188 x1 s2) fun z33 s34 => some (z33, s34) else if x2 = (4 : Int) then oC (m189 x1 s2) fun z37 s38 => some (z37, s38) else if x2 = (5 : Int) then oC (m190 x1 s2) fun z41 s42 => some (z41, s42) else if x2 = (6 : Int) then oC (m193 x1 s2) fun z45 s46 => if z45 = (0 : Int) then some ((0 : Int), s46) else some ((1 : Int), s46) else some ((-1 : Int), s2)) = some (r_, s_) := hm
  refine z_aload_n (pc' := 1) hM212 rfl rfl rfl ?_
  refine z_iload_n (pc' := 2) hM212 rfl rfl rfl ?_
  obtain ⟨z1, s2, h3, hm⟩ := o_c hm
  refine z_cv (d := d + 2) (pc' := 5) hM212 rfl hM186 rfl rfl rfl rfl rfl rfl (c186 (d := d) hG h3) rfl ?_
  refine z_ifne (pc' := 8) (t := 10) hM212 rfl rfl (fun h4 => ?_) (fun h4 => ?_)
  · replace hm := o_t hm h4
    refine z_iconst (pc' := 9) hM212 rfl rfl rfl ?_
    cases hm
    exact z_retI hM212 rfl rfl ⟨rfl, rfl⟩
  · replace hm := o_f hm h4
    refine z_iload_n (pc' := 11) hM212 rfl rfl rfl ?_
    refine (Decidable.em (x2 = (0 : Int))).elim (fun h5 => ?_) (fun h5 => ?_)
    · replace hm := o_t hm h5
      refine z_swT (t := 52) (c := (0 : Int)) hM212 rfl h5 (by decide) rfl rfl ?_
      refine z_aload_n (pc' := 53) hM212 rfl rfl rfl ?_
      refine z_fldR (pc' := 56) hM212 rfl (zf_12_45 hG) rfl rfl ?_
      refine z_bipush (pc' := 58) hM212 rfl rfl rfl ?_
      refine z_iconst (pc' := 59) hM212 rfl rfl rfl ?_
      refine z_iload_n (pc' := 60) hM212 rfl rfl rfl ?_
      obtain ⟨z6, ez6, h7, hm⟩ := o_z hm
      refine z_imul (pc' := 61) hM212 rfl rfl ez6 h7 ?_
      obtain ⟨z8, ez8, h9, hm⟩ := o_z hm
      refine z_iadd (pc' := 62) hM212 rfl rfl ez8 h9 ?_
      refine z_iload_n (pc' := 63) hM212 rfl rfl rfl ?_
      obtain ⟨z10, ez10, h11, hm⟩ := o_z hm
      refine z_iadd (pc' := 64) hM212 rfl rfl ez10 h11 ?_
      obtain ⟨h13, hm⟩ := o_x hm
      obtain ⟨z12, ez12, hm⟩ := o_v hm
      refine z_iald (pc' := 65) (zGN hG) hM212 rfl rfl h13 ez12 ?_
      cases hm
      exact z_retI hM212 rfl rfl ⟨rfl, rfl⟩
    replace hm := o_f hm h5
    refine (Decidable.em (x2 = (1 : Int))).elim (fun h14 => ?_) (fun h14 => ?_)
    · replace hm := o_t hm h14
      refine z_swT (t := 52) (c := (1 : Int)) hM212 rfl h14 (by decide) rfl rfl ?_
      refine z_aload_n (pc' := 53) hM212 rfl rfl rfl ?_
      refine z_fldR (pc' := 56) hM212 rfl (zf_12_45 hG) rfl rfl ?_
      refine z_bipush (pc' := 58) hM212 rfl rfl rfl ?_
      refine z_iconst (pc' := 59) hM212 rfl rfl rfl ?_
      refine z_iload_n (pc' := 60) hM212 rfl rfl rfl ?_
      obtain ⟨z15, ez15, h16, hm⟩ := o_z hm
      refine z_imul (pc' := 61) hM212 rfl rfl ez15 h16 ?_
      obtain ⟨z17, ez17, h18, hm⟩ := o_z hm
      refine z_iadd (pc' := 62) hM212 rfl rfl ez17 h18 ?_
      refine z_iload_n (pc' := 63) hM212 rfl rfl rfl ?_
      obtain ⟨z19, ez19, h20, hm⟩ := o_z hm
      refine z_iadd (pc' := 64) hM212 rfl rfl ez19 h20 ?_
      obtain ⟨h22, hm⟩ := o_x hm
      obtain ⟨z21, ez21, hm⟩ := o_v hm
      refine z_iald (pc' := 65) (zGN hG) hM212 rfl rfl h22 ez21 ?_
      cases hm
      exact z_retI hM212 rfl rfl ⟨rfl, rfl⟩
    replace hm := o_f hm h14
    refine (Decidable.em (x2 = (2 : Int))).elim (fun h23 => ?_) (fun h23 => ?_)
    · replace hm := o_t hm h23
      refine z_swT (t := 52) (c := (2 : Int)) hM212 rfl h23 (by decide) rfl rfl ?_
      refine z_aload_n (pc' := 53) hM212 rfl rfl rfl ?_
      refine z_fldR (pc' := 56) hM212 rfl (zf_12_45 hG) rfl rfl ?_
      refine z_bipush (pc' := 58) hM212 rfl rfl rfl ?_
      refine z_iconst (pc' := 59) hM212 rfl rfl rfl ?_
      refine z_iload_n (pc' := 60) hM212 rfl rfl rfl ?_
      obtain ⟨z24, ez24, h25, hm⟩ := o_z hm
      refine z_imul (pc' := 61) hM212 rfl rfl ez24 h25 ?_
      obtain ⟨z26, ez26, h27, hm⟩ := o_z hm
      refine z_iadd (pc' := 62) hM212 rfl rfl ez26 h27 ?_
      refine z_iload_n (pc' := 63) hM212 rfl rfl rfl ?_
      obtain ⟨z28, ez28, h29, hm⟩ := o_z hm
      refine z_iadd (pc' := 64) hM212 rfl rfl ez28 h29 ?_
      obtain ⟨h31, hm⟩ := o_x hm
      obtain ⟨z30, ez30, hm⟩ := o_v hm
      refine z_iald (pc' := 65) (zGN hG) hM212 rfl rfl h31 ez30 ?_
      cases hm
      exact z_retI hM212 rfl rfl ⟨rfl, rfl⟩
    replace hm := o_f hm h23
    refine (Decidable.em (x2 = (3 : Int))).elim (fun h32 => ?_) (fun h32 => ?_)
    · replace hm := o_t hm h32
      refine z_swT (t := 66) (c := (3 : Int)) hM212 rfl h32 (by decide) rfl rfl ?_
      refine z_aload_n (pc' := 67) hM212 rfl rfl rfl ?_
      refine z_iload_n (pc' := 68) hM212 rfl rfl rfl ?_
      obtain ⟨z33, s34, h35, hm⟩ := o_c hm
      refine z_cv (d := d + 2) (pc' := 71) hM212 rfl hM188 rfl rfl rfl rfl rfl rfl (c188 (d := d + 1) hG h35) rfl ?_
      cases hm
      exact z_retI hM212 rfl rfl ⟨rfl, rfl⟩
    replace hm := o_f hm h32
    refine (Decidable.em (x2 = (4 : Int))).elim (fun h36 => ?_) (fun h36 => ?_)
    · replace hm := o_t hm h36
      refine z_swT (t := 72) (c := (4 : Int)) hM212 rfl h36 (by decide) rfl rfl ?_
      refine z_aload_n (pc' := 73) hM212 rfl rfl rfl ?_
      refine z_iload_n (pc' := 74) hM212 rfl rfl rfl ?_
      obtain ⟨z37, s38, h39, hm⟩ := o_c hm
      refine z_cv (d := d + 2) (pc' := 77) hM212 rfl hM189 rfl rfl rfl rfl rfl rfl (c189 (d := d + 1) hG h39) rfl ?_
      cases hm
      exact z_retI hM212 rfl rfl ⟨rfl, rfl⟩
    replace hm := o_f hm h36
    refine (Decidable.em (x2 = (5 : Int))).elim (fun h40 => ?_) (fun h40 => ?_)
    · replace hm := o_t hm h40
      refine z_swT (t := 78) (c := (5 : Int)) hM212 rfl h40 (by decide) rfl rfl ?_
      refine z_aload_n (pc' := 79) hM212 rfl rfl rfl ?_
      refine z_iload_n (pc' := 80) hM212 rfl rfl rfl ?_
      obtain ⟨z41, s42, h43, hm⟩ := o_c hm
      refine z_cv (d := d + 2) (pc' := 83) hM212 rfl hM190 rfl rfl rfl rfl rfl rfl (c190 (d := d + 1) hG h43) rfl ?_
      cases hm
      exact z_retI hM212 rfl rfl ⟨rfl, rfl⟩
    replace hm := o_f hm h40
    refine (Decidable.em (x2 = (6 : Int))).elim (fun h44 => ?_) (fun h44 => ?_)
    · replace hm := o_t hm h44
      refine z_swT (t := 84) (c := (6 : Int)) hM212 rfl h44 (by decide) rfl rfl ?_
      refine z_aload_n (pc' := 85) hM212 rfl rfl rfl ?_
      refine z_iload_n (pc' := 86) hM212 rfl rfl rfl ?_
      obtain ⟨z45, s46, h47, hm⟩ := o_c hm
      refine z_cv (d := d + 2) (pc' := 89) hM212 rfl hM193 rfl rfl rfl rfl rfl rfl (c193 (d := d) hG h47) rfl ?_
      refine z_ifeq (pc' := 92) (t := 96) hM212 rfl rfl (fun h48 => ?_) (fun h48 => ?_)
      · replace hm := o_t hm h48
        refine z_iconst (pc' := 97) hM212 rfl rfl rfl ?_
        cases hm
        exact z_retI hM212 rfl rfl ⟨rfl, rfl⟩
      · replace hm := o_f hm h48
        refine z_iconst (pc' := 93) hM212 rfl rfl rfl ?_
        refine z_goto (t := 97) hM212 rfl ?_
        cases hm
        exact z_retI hM212 rfl rfl ⟨rfl, rfl⟩
    replace hm := o_f hm h44
    refine z_swF (t := 98) hM212 rfl (by omega) rfl ?_
    refine z_iconst (pc' := 99) hM212 rfl rfl rfl ?_
    cases hm
    exact z_retI hM212 rfl rfl ⟨rfl, rfl⟩
def m213 (x1 : Int) (s : zS) : Option (Int × zS) := oX (28 : Int) 37 (oV (s.1 254 (28 : Int)) fun z1 => oZ (z1 - (1 : Int)) fun z3 => oC (m150 x1 (0 : Int) z3 s) fun z5 s6 => if z5 = (0 : Int) then some ((-1 : Int), s6) else oZ ((29 : Int) + x1) fun z9 => oX z9 37 (oV (s6.1 254 z9) fun z11 => some (z11, s6)))
theorem c213 {G : aHp} {d : Nat} (hG : zG G) {x1 : Int} {s : zS} {r_ : Int} {s_ : zS} (hm : m213 x1 s = some (r_, s_)) : Zp G (d + 2) 213 0 [some (zr 12 0 209), some (zi x1)] [] s (zRet (some (zi r_)) s_) := by
  replace hm : (oX (28 : Int) 37 (oV (s.1 254 (28 : Int)) fun z1 => oZ (z1 - (1 : Int)) fun z3 => oC (m150 x1 (0 : Int) z3 s) fun z5 s6 => if z5 = (0 : Int) then some ((-1 : Int), s6) else oZ ((29 : Int) + x1) fun z9 => oX z9 37 (oV (s6.1 254 z9) fun z11 => some (z11, s6)))) = some (r_, s_) := hm
  refine z_iload_n (pc' := 1) hM213 rfl rfl rfl ?_
  refine z_i2l (pc' := 2) hM213 rfl rfl ?_
  refine z_lconst (pc' := 3) (x := (0 : Int)) hM213 rfl rfl rfl rfl ?_
  refine z_aload_n (pc' := 4) hM213 rfl rfl rfl ?_
  refine z_fldR (pc' := 7) hM213 rfl (zf_12_56 hG) rfl rfl ?_
  refine z_bipush (pc' := 9) hM213 rfl rfl rfl ?_
  obtain ⟨h2, hm⟩ := o_x hm
  obtain ⟨z1, ez1, hm⟩ := o_v hm
  refine z_iald (pc' := 10) (zGN hG) hM213 rfl rfl h2 ez1 ?_
  refine z_iconst (pc' := 11) hM213 rfl rfl rfl ?_
  obtain ⟨z3, ez3, h4, hm⟩ := o_z hm
  refine z_isub (pc' := 12) hM213 rfl rfl ez3 h4 ?_
  refine z_i2l (pc' := 13) hM213 rfl rfl ?_
  obtain ⟨z5, s6, h7, hm⟩ := o_c hm
  refine z_cs (d := d + 1) (pc' := 16) hM213 rfl hM150 rfl rfl rfl rfl (c150 (d := d) hG h7) rfl ?_
  refine z_ifeq (pc' := 19) (t := 31) hM213 rfl rfl (fun h8 => ?_) (fun h8 => ?_)
  · replace hm := o_t hm h8
    refine z_iconst (pc' := 32) hM213 rfl rfl rfl ?_
    cases hm
    exact z_retI hM213 rfl rfl ⟨rfl, rfl⟩
  · replace hm := o_f hm h8
    refine z_aload_n (pc' := 20) hM213 rfl rfl rfl ?_
    refine z_fldR (pc' := 23) hM213 rfl (zf_12_56 hG) rfl rfl ?_
    refine z_bipush (pc' := 25) hM213 rfl rfl rfl ?_
    refine z_iload_n (pc' := 26) hM213 rfl rfl rfl ?_
    obtain ⟨z9, ez9, h10, hm⟩ := o_z hm
    refine z_iadd (pc' := 27) hM213 rfl rfl ez9 h10 ?_
    obtain ⟨h12, hm⟩ := o_x hm
    obtain ⟨z11, ez11, hm⟩ := o_v hm
    refine z_iald (pc' := 28) (zGN hG) hM213 rfl rfl h12 ez11 ?_
    refine z_goto (t := 32) hM213 rfl ?_
    cases hm
    exact z_retI hM213 rfl rfl ⟨rfl, rfl⟩
def m214_5 : Nat → Int → Int → Int → Int → zS → Option (Int × zS)
  | 0, _, _, _, _, _ => none
  | n + 1, x1, x2, x3, x4, s => oX (28 : Int) 37 (oV (s.1 254 (28 : Int)) fun z1 => if x4 < z1 then if x2 < (2 : Int) then oZ ((29 : Int) + x3) fun z5 => oX z5 37 (oV (s.1 254 z5) fun z7 => oC (m194 x1 z7 s) fun z9 s10 => oZ ((29 : Int) + x4) fun z12 => oX z12 37 (oV (s10.1 254 z12) fun z14 => oC (m194 x1 z14 s10) fun z16 s17 => oZ (z9 - z16) fun z19 => if (0 : Int) < z19 then oZ (x4 + (1 : Int)) fun z22 => m214_5 n x1 x2 x4 z22 s17 else if z19 = (0 : Int) then if x2 = (1 : Int) then oZ (x4 + (1 : Int)) fun z26 => m214_5 n x1 x2 x4 z26 s17 else oZ (x4 + (1 : Int)) fun z28 => m214_5 n x1 x2 x3 z28 s17 else oZ (x4 + (1 : Int)) fun z30 => m214_5 n x1 x2 x3 z30 s17)) else some (x3, s) else some (x3, s))
theorem c214_5 {G : aHp} {d : Nat} (hG : zG G) : ∀ {n : Nat} {x1 : Int} {x2 : Int} {x3 : Int} {x4 : Int} {d5 : Option zV} {s : zS} {r_ : Int} {s_ : zS}, m214_5 n x1 x2 x3 x4 s = some (r_, s_) → Zp G (d + 2) 214 5 [some (zr 12 0 209), some (zi x1), some (zi x2), some (zi x3), some (zi x4), d5] [] s (zRet (some (zi r_)) s_) := by
  intro n
  induction n with
  | zero => intro x1 x2 x3 x4 d5 s r_ s_ hm; cases hm
  | succ n ih =>
  intro x1 x2 x3 x4 d5 s r_ s_ hm
  replace hm : (oX (28 : Int) 37 (oV (s.1 254 (28 : Int)) fun z1 => if x4 < z1 then if x2 < (2 : Int) then oZ ((29 : Int) + x3) fun z5 => oX z5 37 (oV (s.1 254 z5) fun z7 => oC (m194 x1 z7 s) fun z9 s10 => oZ ((29 : Int) + x4) fun z12 => oX z12 37 (oV (s10.1 254 z12) fun z14 => oC (m194 x1 z14 s10) fun z16 s17 => oZ (z9 - z16) fun z19 => if (0 : Int) < z19 then oZ (x4 + (1 : Int)) fun z22 => m214_5 n x1 x2 x4 z22 s17 else if z19 = (0 : Int) then if x2 = (1 : Int) then oZ (x4 + (1 : Int)) fun z26 => m214_5 n x1 x2 x4 z26 s17 else oZ (x4 + (1 : Int)) fun z28 => m214_5 n x1 x2 x3 z28 s17 else oZ (x4 + (1 : Int)) fun z30 => m214_5 n x1 x2 x3 z30 s17)) else some (x3, s) else some (x3, s))) = some (r_, s_) := hm
  refine z_iload (pc' := 7) hM214 rfl rfl rfl ?_
  refine z_aload_n (pc' := 8) hM214 rfl rfl rfl ?_
  refine z_fldR (pc' := 11) hM214 rfl (zf_12_56 hG) rfl rfl ?_
  refine z_bipush (pc' := 13) hM214 rfl rfl rfl ?_
  obtain ⟨h2, hm⟩ := o_x hm
  obtain ⟨z1, ez1, hm⟩ := o_v hm
  refine z_iald (pc' := 14) (zGN hG) hM214 rfl rfl h2 ez1 ?_
  refine z_cmpge (pc' := 17) (t := 78) hM214 rfl rfl (fun h3 => ?_) (fun h3 => ?_)
  · replace hm := o_t hm h3
    refine z_iload_n (pc' := 18) hM214 rfl rfl rfl ?_
    refine z_iconst (pc' := 19) hM214 rfl rfl rfl ?_
    refine z_cmpge (pc' := 22) (t := 78) hM214 rfl rfl (fun h4 => ?_) (fun h4 => ?_)
    · replace hm := o_t hm h4
      refine z_aload_n (pc' := 23) hM214 rfl rfl rfl ?_
      refine z_iload_n (pc' := 24) hM214 rfl rfl rfl ?_
      refine z_aload_n (pc' := 25) hM214 rfl rfl rfl ?_
      refine z_fldR (pc' := 28) hM214 rfl (zf_12_56 hG) rfl rfl ?_
      refine z_bipush (pc' := 30) hM214 rfl rfl rfl ?_
      refine z_iload_n (pc' := 31) hM214 rfl rfl rfl ?_
      obtain ⟨z5, ez5, h6, hm⟩ := o_z hm
      refine z_iadd (pc' := 32) hM214 rfl rfl ez5 h6 ?_
      obtain ⟨h8, hm⟩ := o_x hm
      obtain ⟨z7, ez7, hm⟩ := o_v hm
      refine z_iald (pc' := 33) (zGN hG) hM214 rfl rfl h8 ez7 ?_
      obtain ⟨z9, s10, h11, hm⟩ := o_c hm
      refine z_cv (d := d + 1) (pc' := 36) hM214 rfl hM194 rfl rfl rfl rfl rfl rfl (c194 (d := d) hG h11) rfl ?_
      refine z_aload_n (pc' := 37) hM214 rfl rfl rfl ?_
      refine z_iload_n (pc' := 38) hM214 rfl rfl rfl ?_
      refine z_aload_n (pc' := 39) hM214 rfl rfl rfl ?_
      refine z_fldR (pc' := 42) hM214 rfl (zf_12_56 hG) rfl rfl ?_
      refine z_bipush (pc' := 44) hM214 rfl rfl rfl ?_
      refine z_iload (pc' := 46) hM214 rfl rfl rfl ?_
      obtain ⟨z12, ez12, h13, hm⟩ := o_z hm
      refine z_iadd (pc' := 47) hM214 rfl rfl ez12 h13 ?_
      obtain ⟨h15, hm⟩ := o_x hm
      obtain ⟨z14, ez14, hm⟩ := o_v hm
      refine z_iald (pc' := 48) (zGN hG) hM214 rfl rfl h15 ez14 ?_
      obtain ⟨z16, s17, h18, hm⟩ := o_c hm
      refine z_cv (d := d + 1) (pc' := 51) hM214 rfl hM194 rfl rfl rfl rfl rfl rfl (c194 (d := d) hG h18) rfl ?_
      obtain ⟨z19, ez19, h20, hm⟩ := o_z hm
      refine z_isub (pc' := 52) hM214 rfl rfl ez19 h20 ?_
      refine z_istore (pc' := 54) (l' := [some (zr 12 0 209), some (zi x1), some (zi x2), some (zi x3), some (zi x4), some (zi z19)]) hM214 rfl rfl rfl rfl ?_
      refine z_iload (pc' := 56) hM214 rfl rfl rfl ?_
      refine z_ifgt (pc' := 59) (t := 69) hM214 rfl rfl (fun h21 => ?_) (fun h21 => ?_)
      · replace hm := o_t hm h21
        refine z_iload (pc' := 71) hM214 rfl rfl rfl ?_
        refine z_istore_n (pc' := 72) (l' := [some (zr 12 0 209), some (zi x1), some (zi x2), some (zi x4), some (zi x4), some (zi z19)]) hM214 rfl rfl rfl rfl ?_
        obtain ⟨z22, ez22, h23, hm⟩ := o_z hm
        refine z_iinc (pc' := 75) (l' := [some (zr 12 0 209), some (zi x1), some (zi x2), some (zi x4), some (zi z22), some (zi z19)]) hM214 rfl rfl rfl ez22 h23 rfl rfl ?_
        refine z_goto (t := 5) hM214 rfl ?_
        exact ih hm
      · replace hm := o_f hm h21
        refine z_iload (pc' := 61) hM214 rfl rfl rfl ?_
        refine z_ifne (pc' := 64) (t := 72) hM214 rfl rfl (fun h24 => ?_) (fun h24 => ?_)
        · replace hm := o_t hm h24
          refine z_iload_n (pc' := 65) hM214 rfl rfl rfl ?_
          refine z_iconst (pc' := 66) hM214 rfl rfl rfl ?_
          refine z_cmpne (pc' := 69) (t := 72) hM214 rfl rfl (fun h25 => ?_) (fun h25 => ?_)
          · replace hm := o_t hm h25
            refine z_iload (pc' := 71) hM214 rfl rfl rfl ?_
            refine z_istore_n (pc' := 72) (l' := [some (zr 12 0 209), some (zi x1), some (zi x2), some (zi x4), some (zi x4), some (zi z19)]) hM214 rfl rfl rfl rfl ?_
            obtain ⟨z26, ez26, h27, hm⟩ := o_z hm
            refine z_iinc (pc' := 75) (l' := [some (zr 12 0 209), some (zi x1), some (zi x2), some (zi x4), some (zi z26), some (zi z19)]) hM214 rfl rfl rfl ez26 h27 rfl rfl ?_
            refine z_goto (t := 5) hM214 rfl ?_
            exact ih hm
          · replace hm := o_f hm h25
            obtain ⟨z28, ez28, h29, hm⟩ := o_z hm
            refine z_iinc (pc' := 75) (l' := [some (zr 12 0 209), some (zi x1), some (zi x2), some (zi x3), some (zi z28), some (zi z19)]) hM214 rfl rfl rfl ez28 h29 rfl rfl ?_
            refine z_goto (t := 5) hM214 rfl ?_
            exact ih hm
        · replace hm := o_f hm h24
          obtain ⟨z30, ez30, h31, hm⟩ := o_z hm
          refine z_iinc (pc' := 75) (l' := [some (zr 12 0 209), some (zi x1), some (zi x2), some (zi x3), some (zi z30), some (zi z19)]) hM214 rfl rfl rfl ez30 h31 rfl rfl ?_
          refine z_goto (t := 5) hM214 rfl ?_
          exact ih hm
    · replace hm := o_f hm h4
      refine z_iload_n (pc' := 79) hM214 rfl rfl rfl ?_
      cases hm
      exact z_retI hM214 rfl rfl ⟨rfl, rfl⟩
  · replace hm := o_f hm h3
    refine z_iload_n (pc' := 79) hM214 rfl rfl rfl ?_
    cases hm
    exact z_retI hM214 rfl rfl ⟨rfl, rfl⟩
def m214 (x1 : Int) (x2 : Int) (s : zS) : Option (Int × zS) := m214_5 zFu x1 x2 (0 : Int) (1 : Int) s
theorem c214 {G : aHp} {d : Nat} (hG : zG G) {x1 : Int} {x2 : Int} {s : zS} {r_ : Int} {s_ : zS} (hm : m214 x1 x2 s = some (r_, s_)) : Zp G (d + 2) 214 0 [some (zr 12 0 209), some (zi x1), some (zi x2), none, none, none] [] s (zRet (some (zi r_)) s_) := by
  replace hm : (m214_5 zFu x1 x2 (0 : Int) (1 : Int) s) = some (r_, s_) := hm
  refine z_iconst (pc' := 1) hM214 rfl rfl rfl ?_
  refine z_istore_n (pc' := 2) (l' := [some (zr 12 0 209), some (zi x1), some (zi x2), some (zi (0 : Int)), none, none]) hM214 rfl rfl rfl rfl ?_
  refine z_iconst (pc' := 3) hM214 rfl rfl rfl ?_
  refine z_istore (pc' := 5) (l' := [some (zr 12 0 209), some (zi x1), some (zi x2), some (zi (0 : Int)), some (zi (1 : Int)), none]) hM214 rfl rfl rfl rfl ?_
  exact c214_5 hG hm
def m215 (x1 : Int) (s : zS) : Option (Int × zS) := oC (m186 x1 s) fun z1 s2 => if z1 = (0 : Int) then some ((0 : Int), s2) else oC (m189 x1 s2) fun z5 s6 => if z5 = (-1 : Int) then oX (28 : Int) 37 (oV (s6.1 254 (28 : Int)) fun z9 => if (0 : Int) < z9 then some ((1 : Int), s6) else some ((0 : Int), s6)) else some ((0 : Int), s6)
theorem c215 {G : aHp} {d : Nat} (hG : zG G) {x1 : Int} {s : zS} {r_ : Int} {s_ : zS} (hm : m215 x1 s = some (r_, s_)) : Zp G (d + 3) 215 0 [some (zr 12 0 209), some (zi x1)] [] s (zRet (some (zi r_)) s_) := by
  replace hm : (oC (m186 x1 s) fun z1 s2 => if z1 = (0 : Int) then some ((0 : Int), s2) else oC (m189 x1 s2) fun z5 s6 => if z5 = (-1 : Int) then oX (28 : Int) 37 (oV (s6.1 254 (28 : Int)) fun z9 => if (0 : Int) < z9 then some ((1 : Int), s6) else some ((0 : Int), s6)) else some ((0 : Int), s6)) = some (r_, s_) := hm
  refine z_aload_n (pc' := 1) hM215 rfl rfl rfl ?_
  refine z_iload_n (pc' := 2) hM215 rfl rfl rfl ?_
  obtain ⟨z1, s2, h3, hm⟩ := o_c hm
  refine z_cv (d := d + 2) (pc' := 5) hM215 rfl hM186 rfl rfl rfl rfl rfl rfl (c186 (d := d) hG h3) rfl ?_
  refine z_ifeq (pc' := 8) (t := 31) hM215 rfl rfl (fun h4 => ?_) (fun h4 => ?_)
  · replace hm := o_t hm h4
    refine z_iconst (pc' := 32) hM215 rfl rfl rfl ?_
    cases hm
    exact z_retZ hM215 rfl rfl (Or.inl rfl) ⟨rfl, rfl⟩
  · replace hm := o_f hm h4
    refine z_aload_n (pc' := 9) hM215 rfl rfl rfl ?_
    refine z_iload_n (pc' := 10) hM215 rfl rfl rfl ?_
    obtain ⟨z5, s6, h7, hm⟩ := o_c hm
    refine z_cv (d := d + 2) (pc' := 13) hM215 rfl hM189 rfl rfl rfl rfl rfl rfl (c189 (d := d + 1) hG h7) rfl ?_
    refine z_iconst (pc' := 14) hM215 rfl rfl rfl ?_
    refine z_cmpne (pc' := 17) (t := 31) hM215 rfl rfl (fun h8 => ?_) (fun h8 => ?_)
    · replace hm := o_t hm h8
      refine z_aload_n (pc' := 18) hM215 rfl rfl rfl ?_
      refine z_fldR (pc' := 21) hM215 rfl (zf_12_56 hG) rfl rfl ?_
      refine z_bipush (pc' := 23) hM215 rfl rfl rfl ?_
      obtain ⟨h10, hm⟩ := o_x hm
      obtain ⟨z9, ez9, hm⟩ := o_v hm
      refine z_iald (pc' := 24) (zGN hG) hM215 rfl rfl h10 ez9 ?_
      refine z_ifle (pc' := 27) (t := 31) hM215 rfl rfl (fun h11 => ?_) (fun h11 => ?_)
      · replace hm := o_t hm h11
        refine z_iconst (pc' := 28) hM215 rfl rfl rfl ?_
        refine z_goto (t := 32) hM215 rfl ?_
        cases hm
        exact z_retZ hM215 rfl rfl (Or.inr rfl) ⟨rfl, rfl⟩
      · replace hm := o_f hm h11
        refine z_iconst (pc' := 32) hM215 rfl rfl rfl ?_
        cases hm
        exact z_retZ hM215 rfl rfl (Or.inl rfl) ⟨rfl, rfl⟩
    · replace hm := o_f hm h8
      refine z_iconst (pc' := 32) hM215 rfl rfl rfl ?_
      cases hm
      exact z_retZ hM215 rfl rfl (Or.inl rfl) ⟨rfl, rfl⟩
def m216 (x1 : Int) (s : zS) : Option (Int × zS) := oC (m215 x1 s) fun z1 s2 => if z1 = (0 : Int) then some ((-1 : Int), s2) else oX (1 : Int) 37 (oV (s2.1 254 (1 : Int)) fun z5 => oC (m214 x1 z5 s2) fun z7 s8 => oZ ((29 : Int) + z7) fun z10 => oX z10 37 (oV (s8.1 254 z10) fun z12 => some (z12, s8)))
theorem c216 {G : aHp} {d : Nat} (hG : zG G) {x1 : Int} {s : zS} {r_ : Int} {s_ : zS} (hm : m216 x1 s = some (r_, s_)) : Zp G (d + 4) 216 0 [some (zr 12 0 209), some (zi x1)] [] s (zRet (some (zi r_)) s_) := by
  replace hm : (oC (m215 x1 s) fun z1 s2 => if z1 = (0 : Int) then some ((-1 : Int), s2) else oX (1 : Int) 37 (oV (s2.1 254 (1 : Int)) fun z5 => oC (m214 x1 z5 s2) fun z7 s8 => oZ ((29 : Int) + z7) fun z10 => oX z10 37 (oV (s8.1 254 z10) fun z12 => some (z12, s8)))) = some (r_, s_) := hm
  refine z_aload_n (pc' := 1) hM216 rfl rfl rfl ?_
  refine z_iload_n (pc' := 2) hM216 rfl rfl rfl ?_
  obtain ⟨z1, s2, h3, hm⟩ := o_c hm
  refine z_cv (d := d + 3) (pc' := 5) hM216 rfl hM215 rfl rfl rfl rfl rfl rfl (c215 (d := d) hG h3) rfl ?_
  refine z_ifeq (pc' := 8) (t := 30) hM216 rfl rfl (fun h4 => ?_) (fun h4 => ?_)
  · replace hm := o_t hm h4
    refine z_iconst (pc' := 31) hM216 rfl rfl rfl ?_
    cases hm
    exact z_retI hM216 rfl rfl ⟨rfl, rfl⟩
  · replace hm := o_f hm h4
    refine z_aload_n (pc' := 9) hM216 rfl rfl rfl ?_
    refine z_fldR (pc' := 12) hM216 rfl (zf_12_56 hG) rfl rfl ?_
    refine z_bipush (pc' := 14) hM216 rfl rfl rfl ?_
    refine z_aload_n (pc' := 15) hM216 rfl rfl rfl ?_
    refine z_iload_n (pc' := 16) hM216 rfl rfl rfl ?_
    refine z_aload_n (pc' := 17) hM216 rfl rfl rfl ?_
    refine z_fldR (pc' := 20) hM216 rfl (zf_12_56 hG) rfl rfl ?_
    refine z_iconst (pc' := 21) hM216 rfl rfl rfl ?_
    obtain ⟨h6, hm⟩ := o_x hm
    obtain ⟨z5, ez5, hm⟩ := o_v hm
    refine z_iald (pc' := 22) (zGN hG) hM216 rfl rfl h6 ez5 ?_
    obtain ⟨z7, s8, h9, hm⟩ := o_c hm
    refine z_cv (d := d + 3) (pc' := 25) hM216 rfl hM214 rfl rfl rfl rfl rfl rfl (c214 (d := d + 1) hG h9) rfl ?_
    obtain ⟨z10, ez10, h11, hm⟩ := o_z hm
    refine z_iadd (pc' := 26) hM216 rfl rfl ez10 h11 ?_
    obtain ⟨h13, hm⟩ := o_x hm
    obtain ⟨z12, ez12, hm⟩ := o_v hm
    refine z_iald (pc' := 27) (zGN hG) hM216 rfl rfl h13 ez12 ?_
    refine z_goto (t := 31) hM216 rfl ?_
    cases hm
    exact z_retI hM216 rfl rfl ⟨rfl, rfl⟩
def m217_16 : Nat → Int → Int → Int → Int → Int → Int → Int → zS → Option (Int × zS)
  | 0, _, _, _, _, _, _, _, _ => none
  | n + 1, x1, x2, x3, x4, x5, x6, x7, s => if (30 : Int) < x7 then some (x6, s) else oX x7 31 (oV (sI s 256 x7 x4) fun s2 => oC (m191 x1 s2) fun z4 s5 => if x4 = z4 then if x6 = (-1 : Int) then oZ (x7 + (1 : Int)) fun z9 => m217_16 n x1 x2 x3 x4 x5 x7 z9 s5 else oZ (x7 + (1 : Int)) fun z11 => m217_16 n x1 x2 x3 x4 x5 x6 z11 s5 else oC (m198 x1 x2 x4 x5 x7 x3 s5) fun z13 s14 => oV (s14.1 209 62) fun z16 => oZ (x7 + (1 : Int)) fun z17 => m217_16 n x1 x2 x3 z13 z16 x6 z17 s14)
theorem c217_16 {G : aHp} {d : Nat} (hG : zG G) : ∀ {n : Nat} {x1 : Int} {x2 : Int} {x3 : Int} {x4 : Int} {x5 : Int} {x6 : Int} {x7 : Int} {s : zS} {r_ : Int} {s_ : zS}, m217_16 n x1 x2 x3 x4 x5 x6 x7 s = some (r_, s_) → Zp G (d + 6) 217 16 [some (zr 12 0 209), some (zi x1), some (zi x2), some (zi x3), some (zi x4), some (zi x5), some (zi x6), some (zi x7)] [] s (zRet (some (zi r_)) s_) := by
  intro n
  induction n with
  | zero => intro x1 x2 x3 x4 x5 x6 x7 s r_ s_ hm; cases hm
  | succ n ih =>
  intro x1 x2 x3 x4 x5 x6 x7 s r_ s_ hm
  replace hm : (if (30 : Int) < x7 then some (x6, s) else oX x7 31 (oV (sI s 256 x7 x4) fun s2 => oC (m191 x1 s2) fun z4 s5 => if x4 = z4 then if x6 = (-1 : Int) then oZ (x7 + (1 : Int)) fun z9 => m217_16 n x1 x2 x3 x4 x5 x7 z9 s5 else oZ (x7 + (1 : Int)) fun z11 => m217_16 n x1 x2 x3 x4 x5 x6 z11 s5 else oC (m198 x1 x2 x4 x5 x7 x3 s5) fun z13 s14 => oV (s14.1 209 62) fun z16 => oZ (x7 + (1 : Int)) fun z17 => m217_16 n x1 x2 x3 z13 z16 x6 z17 s14)) = some (r_, s_) := hm
  refine z_iload (pc' := 18) hM217 rfl rfl rfl ?_
  refine z_bipush (pc' := 20) hM217 rfl rfl rfl ?_
  refine z_cmpgt (pc' := 23) (t := 82) hM217 rfl rfl (fun h1 => ?_) (fun h1 => ?_)
  · replace hm := o_t hm h1
    refine z_iload (pc' := 84) hM217 rfl rfl rfl ?_
    cases hm
    exact z_retI hM217 rfl rfl ⟨rfl, rfl⟩
  · replace hm := o_f hm h1
    refine z_aload_n (pc' := 24) hM217 rfl rfl rfl ?_
    refine z_fldR (pc' := 27) hM217 rfl (zf_12_63 hG) rfl rfl ?_
    refine z_iload (pc' := 29) hM217 rfl rfl rfl ?_
    refine z_iload (pc' := 31) hM217 rfl rfl rfl ?_
    obtain ⟨h3, hm⟩ := o_x hm
    obtain ⟨s2, es2, hm⟩ := o_v hm
    refine z_iast (pc' := 32) hM217 rfl rfl h3 es2 ?_
    refine z_iload (pc' := 34) hM217 rfl rfl rfl ?_
    refine z_aload_n (pc' := 35) hM217 rfl rfl rfl ?_
    refine z_iload_n (pc' := 36) hM217 rfl rfl rfl ?_
    obtain ⟨z4, s5, h6, hm⟩ := o_c hm
    refine z_cv (d := d + 5) (pc' := 39) hM217 rfl hM191 rfl rfl rfl rfl rfl rfl (c191 (d := d + 4) hG h6) rfl ?_
    refine z_cmpne (pc' := 42) (t := 55) hM217 rfl rfl (fun h7 => ?_) (fun h7 => ?_)
    · replace hm := o_t hm h7
      refine z_iload (pc' := 44) hM217 rfl rfl rfl ?_
      refine z_iconst (pc' := 45) hM217 rfl rfl rfl ?_
      refine z_cmpne (pc' := 48) (t := 76) hM217 rfl rfl (fun h8 => ?_) (fun h8 => ?_)
      · replace hm := o_t hm h8
        refine z_iload (pc' := 50) hM217 rfl rfl rfl ?_
        refine z_istore (pc' := 52) (l' := [some (zr 12 0 209), some (zi x1), some (zi x2), some (zi x3), some (zi x4), some (zi x5), some (zi x7), some (zi x7)]) hM217 rfl rfl rfl rfl ?_
        refine z_goto (t := 76) hM217 rfl ?_
        obtain ⟨z9, ez9, h10, hm⟩ := o_z hm
        refine z_iinc (pc' := 79) (l' := [some (zr 12 0 209), some (zi x1), some (zi x2), some (zi x3), some (zi x4), some (zi x5), some (zi x7), some (zi z9)]) hM217 rfl rfl rfl ez9 h10 rfl rfl ?_
        refine z_goto (t := 16) hM217 rfl ?_
        exact ih hm
      · replace hm := o_f hm h8
        obtain ⟨z11, ez11, h12, hm⟩ := o_z hm
        refine z_iinc (pc' := 79) (l' := [some (zr 12 0 209), some (zi x1), some (zi x2), some (zi x3), some (zi x4), some (zi x5), some (zi x6), some (zi z11)]) hM217 rfl rfl rfl ez11 h12 rfl rfl ?_
        refine z_goto (t := 16) hM217 rfl ?_
        exact ih hm
    · replace hm := o_f hm h7
      refine z_aload_n (pc' := 56) hM217 rfl rfl rfl ?_
      refine z_iload_n (pc' := 57) hM217 rfl rfl rfl ?_
      refine z_iload_n (pc' := 58) hM217 rfl rfl rfl ?_
      refine z_iload (pc' := 60) hM217 rfl rfl rfl ?_
      refine z_iload (pc' := 62) hM217 rfl rfl rfl ?_
      refine z_iload (pc' := 64) hM217 rfl rfl rfl ?_
      refine z_iload_n (pc' := 65) hM217 rfl rfl rfl ?_
      obtain ⟨z13, s14, h15, hm⟩ := o_c hm
      refine z_cv (d := d + 5) (pc' := 68) hM217 rfl hM198 rfl rfl rfl rfl rfl rfl (c198 (d := d) hG h15) rfl ?_
      refine z_istore (pc' := 70) (l' := [some (zr 12 0 209), some (zi x1), some (zi x2), some (zi x3), some (zi z13), some (zi x5), some (zi x6), some (zi x7)]) hM217 rfl rfl rfl rfl ?_
      refine z_aload_n (pc' := 71) hM217 rfl rfl rfl ?_
      obtain ⟨z16, ez16, hm⟩ := o_v hm
      refine z_fldI (pc' := 74) hM217 rfl rfl rfl ez16 ?_
      refine z_istore (pc' := 76) (l' := [some (zr 12 0 209), some (zi x1), some (zi x2), some (zi x3), some (zi z13), some (zi z16), some (zi x6), some (zi x7)]) hM217 rfl rfl rfl rfl ?_
      obtain ⟨z17, ez17, h18, hm⟩ := o_z hm
      refine z_iinc (pc' := 79) (l' := [some (zr 12 0 209), some (zi x1), some (zi x2), some (zi x3), some (zi z13), some (zi z16), some (zi x6), some (zi z17)]) hM217 rfl rfl rfl ez17 h18 rfl rfl ?_
      refine z_goto (t := 16) hM217 rfl ?_
      exact ih hm
def m217 (x1 : Int) (x2 : Int) (x3 : Int) (s : zS) : Option (Int × zS) := oC (m187 x2 s) fun z1 s2 => m217_16 zFu x1 x2 x3 (0 : Int) z1 (-1 : Int) (0 : Int) s2
theorem c217 {G : aHp} {d : Nat} (hG : zG G) {x1 : Int} {x2 : Int} {x3 : Int} {s : zS} {r_ : Int} {s_ : zS} (hm : m217 x1 x2 x3 s = some (r_, s_)) : Zp G (d + 6) 217 0 [some (zr 12 0 209), some (zi x1), some (zi x2), some (zi x3), none, none, none, none] [] s (zRet (some (zi r_)) s_) := by
  replace hm : (oC (m187 x2 s) fun z1 s2 => m217_16 zFu x1 x2 x3 (0 : Int) z1 (-1 : Int) (0 : Int) s2) = some (r_, s_) := hm
  refine z_iconst (pc' := 1) hM217 rfl rfl rfl ?_
  refine z_istore (pc' := 3) (l' := [some (zr 12 0 209), some (zi x1), some (zi x2), some (zi x3), some (zi (0 : Int)), none, none, none]) hM217 rfl rfl rfl rfl ?_
  refine z_aload_n (pc' := 4) hM217 rfl rfl rfl ?_
  refine z_iload_n (pc' := 5) hM217 rfl rfl rfl ?_
  obtain ⟨z1, s2, h3, hm⟩ := o_c hm
  refine z_cv (d := d + 5) (pc' := 8) hM217 rfl hM187 rfl rfl rfl rfl rfl rfl (c187 (d := d + 4) hG h3) rfl ?_
  refine z_istore (pc' := 10) (l' := [some (zr 12 0 209), some (zi x1), some (zi x2), some (zi x3), some (zi (0 : Int)), some (zi z1), none, none]) hM217 rfl rfl rfl rfl ?_
  refine z_iconst (pc' := 11) hM217 rfl rfl rfl ?_
  refine z_istore (pc' := 13) (l' := [some (zr 12 0 209), some (zi x1), some (zi x2), some (zi x3), some (zi (0 : Int)), some (zi z1), some (zi (-1 : Int)), none]) hM217 rfl rfl rfl rfl ?_
  refine z_iconst (pc' := 14) hM217 rfl rfl rfl ?_
  refine z_istore (pc' := 16) (l' := [some (zr 12 0 209), some (zi x1), some (zi x2), some (zi x3), some (zi (0 : Int)), some (zi z1), some (zi (-1 : Int)), some (zi (0 : Int))]) hM217 rfl rfl rfl rfl ?_
  exact c217_16 hG hm
def m218 (x1 : Int) (x2 : Int) (s : zS) : Option (Int × zS) := oZ ((3 : Int) * x1) fun z1 => oZ ((19 : Int) + z1) fun z3 => oX z3 36 (oV (s.1 246 z3) fun z5 => oC (m217 x1 x2 z5 s) fun z7 s8 => some (z7, s8))
theorem c218 {G : aHp} {d : Nat} (hG : zG G) {x1 : Int} {x2 : Int} {s : zS} {r_ : Int} {s_ : zS} (hm : m218 x1 x2 s = some (r_, s_)) : Zp G (d + 7) 218 0 [some (zr 12 0 209), some (zi x1), some (zi x2)] [] s (zRet (some (zi r_)) s_) := by
  replace hm : (oZ ((3 : Int) * x1) fun z1 => oZ ((19 : Int) + z1) fun z3 => oX z3 36 (oV (s.1 246 z3) fun z5 => oC (m217 x1 x2 z5 s) fun z7 s8 => some (z7, s8))) = some (r_, s_) := hm
  refine z_aload_n (pc' := 1) hM218 rfl rfl rfl ?_
  refine z_iload_n (pc' := 2) hM218 rfl rfl rfl ?_
  refine z_iload_n (pc' := 3) hM218 rfl rfl rfl ?_
  refine z_aload_n (pc' := 4) hM218 rfl rfl rfl ?_
  refine z_fldR (pc' := 7) hM218 rfl (zf_12_45 hG) rfl rfl ?_
  refine z_bipush (pc' := 9) hM218 rfl rfl rfl ?_
  refine z_iconst (pc' := 10) hM218 rfl rfl rfl ?_
  refine z_iload_n (pc' := 11) hM218 rfl rfl rfl ?_
  obtain ⟨z1, ez1, h2, hm⟩ := o_z hm
  refine z_imul (pc' := 12) hM218 rfl rfl ez1 h2 ?_
  obtain ⟨z3, ez3, h4, hm⟩ := o_z hm
  refine z_iadd (pc' := 13) hM218 rfl rfl ez3 h4 ?_
  obtain ⟨h6, hm⟩ := o_x hm
  obtain ⟨z5, ez5, hm⟩ := o_v hm
  refine z_iald (pc' := 14) (zGN hG) hM218 rfl rfl h6 ez5 ?_
  obtain ⟨z7, s8, h9, hm⟩ := o_c hm
  refine z_cv (d := d + 6) (pc' := 17) hM218 rfl hM217 rfl rfl rfl rfl rfl rfl (c217 (d := d) hG h9) rfl ?_
  cases hm
  exact z_retI hM218 rfl rfl ⟨rfl, rfl⟩
def m219 (x1 : Int) (x2 : Int) (s : zS) : Option (Int × zS) := oC (m186 x1 s) fun z1 s2 => if z1 = (0 : Int) then some ((-1 : Int), s2) else oC (m185 x2 s2) fun z5 s6 => if z5 = (0 : Int) then some ((-1 : Int), s6) else oC (m218 x1 x2 s6) fun z9 s10 => some (z9, s10)
theorem c219 {G : aHp} {d : Nat} (hG : zG G) {x1 : Int} {x2 : Int} {s : zS} {r_ : Int} {s_ : zS} (hm : m219 x1 x2 s = some (r_, s_)) : Zp G (d + 8) 219 0 [some (zr 12 0 209), some (zi x1), some (zi x2)] [] s (zRet (some (zi r_)) s_) := by
  replace hm : (oC (m186 x1 s) fun z1 s2 => if z1 = (0 : Int) then some ((-1 : Int), s2) else oC (m185 x2 s2) fun z5 s6 => if z5 = (0 : Int) then some ((-1 : Int), s6) else oC (m218 x1 x2 s6) fun z9 s10 => some (z9, s10)) = some (r_, s_) := hm
  refine z_aload_n (pc' := 1) hM219 rfl rfl rfl ?_
  refine z_iload_n (pc' := 2) hM219 rfl rfl rfl ?_
  obtain ⟨z1, s2, h3, hm⟩ := o_c hm
  refine z_cv (d := d + 7) (pc' := 5) hM219 rfl hM186 rfl rfl rfl rfl rfl rfl (c186 (d := d + 5) hG h3) rfl ?_
  refine z_ifeq (pc' := 8) (t := 25) hM219 rfl rfl (fun h4 => ?_) (fun h4 => ?_)
  · replace hm := o_t hm h4
    refine z_iconst (pc' := 26) hM219 rfl rfl rfl ?_
    cases hm
    exact z_retI hM219 rfl rfl ⟨rfl, rfl⟩
  · replace hm := o_f hm h4
    refine z_aload_n (pc' := 9) hM219 rfl rfl rfl ?_
    refine z_iload_n (pc' := 10) hM219 rfl rfl rfl ?_
    obtain ⟨z5, s6, h7, hm⟩ := o_c hm
    refine z_cv (d := d + 7) (pc' := 13) hM219 rfl hM185 rfl rfl rfl rfl rfl rfl (c185 (d := d + 5) hG h7) rfl ?_
    refine z_ifeq (pc' := 16) (t := 25) hM219 rfl rfl (fun h8 => ?_) (fun h8 => ?_)
    · replace hm := o_t hm h8
      refine z_iconst (pc' := 26) hM219 rfl rfl rfl ?_
      cases hm
      exact z_retI hM219 rfl rfl ⟨rfl, rfl⟩
    · replace hm := o_f hm h8
      refine z_aload_n (pc' := 17) hM219 rfl rfl rfl ?_
      refine z_iload_n (pc' := 18) hM219 rfl rfl rfl ?_
      refine z_iload_n (pc' := 19) hM219 rfl rfl rfl ?_
      obtain ⟨z9, s10, h11, hm⟩ := o_c hm
      refine z_cv (d := d + 7) (pc' := 22) hM219 rfl hM218 rfl rfl rfl rfl rfl rfl (c218 (d := d) hG h11) rfl ?_
      refine z_goto (t := 26) hM219 rfl ?_
      cases hm
      exact z_retI hM219 rfl rfl ⟨rfl, rfl⟩
def m220 (x1 : Int) (x2 : Int) (x3 : Int) (s : zS) : Option (Int × zS) := oC (m186 x1 s) fun z1 s2 => if z1 = (0 : Int) then some ((-1 : Int), s2) else oC (m185 x2 s2) fun z5 s6 => if z5 = (0 : Int) then some ((-1 : Int), s6) else oC (m150 x3 (0 : Int) (30 : Int) s6) fun z9 s10 => if z9 = (0 : Int) then some ((-1 : Int), s10) else oC (m218 x1 x2 s10) fun z13 s14 => oX x3 31 (oV (s14.1 256 x3) fun z16 => some (z16, s14))
theorem c220 {G : aHp} {d : Nat} (hG : zG G) {x1 : Int} {x2 : Int} {x3 : Int} {s : zS} {r_ : Int} {s_ : zS} (hm : m220 x1 x2 x3 s = some (r_, s_)) : Zp G (d + 8) 220 0 [some (zr 12 0 209), some (zi x1), some (zi x2), some (zi x3)] [] s (zRet (some (zi r_)) s_) := by
  replace hm : (oC (m186 x1 s) fun z1 s2 => if z1 = (0 : Int) then some ((-1 : Int), s2) else oC (m185 x2 s2) fun z5 s6 => if z5 = (0 : Int) then some ((-1 : Int), s6) else oC (m150 x3 (0 : Int) (30 : Int) s6) fun z9 s10 => if z9 = (0 : Int) then some ((-1 : Int), s10) else oC (m218 x1 x2 s10) fun z13 s14 => oX x3 31 (oV (s14.1 256 x3) fun z16 => some (z16, s14))) = some (r_, s_) := hm
  refine z_aload_n (pc' := 1) hM220 rfl rfl rfl ?_
  refine z_iload_n (pc' := 2) hM220 rfl rfl rfl ?_
  obtain ⟨z1, s2, h3, hm⟩ := o_c hm
  refine z_cv (d := d + 7) (pc' := 5) hM220 rfl hM186 rfl rfl rfl rfl rfl rfl (c186 (d := d + 5) hG h3) rfl ?_
  refine z_ifeq (pc' := 8) (t := 28) hM220 rfl rfl (fun h4 => ?_) (fun h4 => ?_)
  · replace hm := o_t hm h4
    refine z_iconst (pc' := 29) hM220 rfl rfl rfl ?_
    cases hm
    exact z_retI hM220 rfl rfl ⟨rfl, rfl⟩
  · replace hm := o_f hm h4
    refine z_aload_n (pc' := 9) hM220 rfl rfl rfl ?_
    refine z_iload_n (pc' := 10) hM220 rfl rfl rfl ?_
    obtain ⟨z5, s6, h7, hm⟩ := o_c hm
    refine z_cv (d := d + 7) (pc' := 13) hM220 rfl hM185 rfl rfl rfl rfl rfl rfl (c185 (d := d + 5) hG h7) rfl ?_
    refine z_ifeq (pc' := 16) (t := 28) hM220 rfl rfl (fun h8 => ?_) (fun h8 => ?_)
    · replace hm := o_t hm h8
      refine z_iconst (pc' := 29) hM220 rfl rfl rfl ?_
      cases hm
      exact z_retI hM220 rfl rfl ⟨rfl, rfl⟩
    · replace hm := o_f hm h8
      refine z_iload_n (pc' := 17) hM220 rfl rfl rfl ?_
      refine z_i2l (pc' := 18) hM220 rfl rfl ?_
      refine z_lconst (pc' := 19) (x := (0 : Int)) hM220 rfl rfl rfl rfl ?_
      refine z_ldc2 (pc' := 22) hM220 rfl rfl rfl ?_
      obtain ⟨z9, s10, h11, hm⟩ := o_c hm
      refine z_cs (d := d + 7) (pc' := 25) hM220 rfl hM150 rfl rfl rfl rfl (c150 (d := d + 6) hG h11) rfl ?_
      refine z_ifne (pc' := 28) (t := 30) hM220 rfl rfl (fun h12 => ?_) (fun h12 => ?_)
      · replace hm := o_t hm h12
        refine z_iconst (pc' := 29) hM220 rfl rfl rfl ?_
        cases hm
        exact z_retI hM220 rfl rfl ⟨rfl, rfl⟩
      · replace hm := o_f hm h12
        refine z_aload_n (pc' := 31) hM220 rfl rfl rfl ?_
        refine z_iload_n (pc' := 32) hM220 rfl rfl rfl ?_
        refine z_iload_n (pc' := 33) hM220 rfl rfl rfl ?_
        obtain ⟨z13, s14, h15, hm⟩ := o_c hm
        refine z_cv (d := d + 7) (pc' := 36) hM220 rfl hM218 rfl rfl rfl rfl rfl rfl (c218 (d := d) hG h15) rfl ?_
        refine z_pop (pc' := 37) hM220 rfl rfl ?_
        refine z_aload_n (pc' := 38) hM220 rfl rfl rfl ?_
        refine z_fldR (pc' := 41) hM220 rfl (zf_12_63 hG) rfl rfl ?_
        refine z_iload_n (pc' := 42) hM220 rfl rfl rfl ?_
        obtain ⟨h17, hm⟩ := o_x hm
        obtain ⟨z16, ez16, hm⟩ := o_v hm
        refine z_iald (pc' := 43) (zGN hG) hM220 rfl rfl h17 ez16 ?_
        cases hm
        exact z_retI hM220 rfl rfl ⟨rfl, rfl⟩
def m221_20 : Nat → Int → Int → Int → zS → Option (Int × zS)
  | 0, _, _, _, _ => none
  | n + 1, x1, x2, x3, s => if (99 : Int) < x3 then some ((-1 : Int), s) else oC (m217 x1 x2 x3 s) fun z2 s3 => if z2 = (-1 : Int) then oZ (x3 + (1 : Int)) fun z6 => m221_20 n x1 x2 z6 s3 else some (x3, s3)
theorem c221_20 {G : aHp} {d : Nat} (hG : zG G) : ∀ {n : Nat} {x1 : Int} {x2 : Int} {x3 : Int} {s : zS} {r_ : Int} {s_ : zS}, m221_20 n x1 x2 x3 s = some (r_, s_) → Zp G (d + 7) 221 20 [some (zr 12 0 209), some (zi x1), some (zi x2), some (zi x3)] [] s (zRet (some (zi r_)) s_) := by
  intro n
  induction n with
  | zero => intro x1 x2 x3 s r_ s_ hm; cases hm
  | succ n ih =>
  intro x1 x2 x3 s r_ s_ hm
  replace hm : (if (99 : Int) < x3 then some ((-1 : Int), s) else oC (m217 x1 x2 x3 s) fun z2 s3 => if z2 = (-1 : Int) then oZ (x3 + (1 : Int)) fun z6 => m221_20 n x1 x2 z6 s3 else some (x3, s3)) = some (r_, s_) := hm
  refine z_iload_n (pc' := 21) hM221 rfl rfl rfl ?_
  refine z_bipush (pc' := 23) hM221 rfl rfl rfl ?_
  refine z_cmpgt (pc' := 26) (t := 45) hM221 rfl rfl (fun h1 => ?_) (fun h1 => ?_)
  · replace hm := o_t hm h1
    refine z_iconst (pc' := 46) hM221 rfl rfl rfl ?_
    cases hm
    exact z_retI hM221 rfl rfl ⟨rfl, rfl⟩
  · replace hm := o_f hm h1
    refine z_aload_n (pc' := 27) hM221 rfl rfl rfl ?_
    refine z_iload_n (pc' := 28) hM221 rfl rfl rfl ?_
    refine z_iload_n (pc' := 29) hM221 rfl rfl rfl ?_
    refine z_iload_n (pc' := 30) hM221 rfl rfl rfl ?_
    obtain ⟨z2, s3, h4, hm⟩ := o_c hm
    refine z_cv (d := d + 6) (pc' := 33) hM221 rfl hM217 rfl rfl rfl rfl rfl rfl (c217 (d := d) hG h4) rfl ?_
    refine z_iconst (pc' := 34) hM221 rfl rfl rfl ?_
    refine z_cmpeq (pc' := 37) (t := 39) hM221 rfl rfl (fun h5 => ?_) (fun h5 => ?_)
    · replace hm := o_t hm h5
      obtain ⟨z6, ez6, h7, hm⟩ := o_z hm
      refine z_iinc (pc' := 42) (l' := [some (zr 12 0 209), some (zi x1), some (zi x2), some (zi z6)]) hM221 rfl rfl rfl ez6 h7 rfl rfl ?_
      refine z_goto (t := 20) hM221 rfl ?_
      exact ih hm
    · replace hm := o_f hm h5
      refine z_iload_n (pc' := 38) hM221 rfl rfl rfl ?_
      cases hm
      exact z_retI hM221 rfl rfl ⟨rfl, rfl⟩
def m221 (x1 : Int) (x2 : Int) (s : zS) : Option (Int × zS) := oC (m186 x1 s) fun z1 s2 => if z1 = (0 : Int) then some ((-1 : Int), s2) else oC (m185 x2 s2) fun z5 s6 => if z5 = (0 : Int) then some ((-1 : Int), s6) else m221_20 zFu x1 x2 (0 : Int) s6
theorem c221 {G : aHp} {d : Nat} (hG : zG G) {x1 : Int} {x2 : Int} {s : zS} {r_ : Int} {s_ : zS} (hm : m221 x1 x2 s = some (r_, s_)) : Zp G (d + 7) 221 0 [some (zr 12 0 209), some (zi x1), some (zi x2), none] [] s (zRet (some (zi r_)) s_) := by
  replace hm : (oC (m186 x1 s) fun z1 s2 => if z1 = (0 : Int) then some ((-1 : Int), s2) else oC (m185 x2 s2) fun z5 s6 => if z5 = (0 : Int) then some ((-1 : Int), s6) else m221_20 zFu x1 x2 (0 : Int) s6) = some (r_, s_) := hm
  refine z_aload_n (pc' := 1) hM221 rfl rfl rfl ?_
  refine z_iload_n (pc' := 2) hM221 rfl rfl rfl ?_
  obtain ⟨z1, s2, h3, hm⟩ := o_c hm
  refine z_cv (d := d + 6) (pc' := 5) hM221 rfl hM186 rfl rfl rfl rfl rfl rfl (c186 (d := d + 4) hG h3) rfl ?_
  refine z_ifeq (pc' := 8) (t := 16) hM221 rfl rfl (fun h4 => ?_) (fun h4 => ?_)
  · replace hm := o_t hm h4
    refine z_iconst (pc' := 17) hM221 rfl rfl rfl ?_
    cases hm
    exact z_retI hM221 rfl rfl ⟨rfl, rfl⟩
  · replace hm := o_f hm h4
    refine z_aload_n (pc' := 9) hM221 rfl rfl rfl ?_
    refine z_iload_n (pc' := 10) hM221 rfl rfl rfl ?_
    obtain ⟨z5, s6, h7, hm⟩ := o_c hm
    refine z_cv (d := d + 6) (pc' := 13) hM221 rfl hM185 rfl rfl rfl rfl rfl rfl (c185 (d := d + 4) hG h7) rfl ?_
    refine z_ifne (pc' := 16) (t := 18) hM221 rfl rfl (fun h8 => ?_) (fun h8 => ?_)
    · replace hm := o_t hm h8
      refine z_iconst (pc' := 17) hM221 rfl rfl rfl ?_
      cases hm
      exact z_retI hM221 rfl rfl ⟨rfl, rfl⟩
    · replace hm := o_f hm h8
      refine z_iconst (pc' := 19) hM221 rfl rfl rfl ?_
      refine z_istore_n (pc' := 20) (l' := [some (zr 12 0 209), some (zi x1), some (zi x2), some (zi (0 : Int))]) hM221 rfl rfl rfl rfl ?_
      exact c221_20 hG hm
def m222_111 (k51_ : Int → Int → Int → Int → Int → Int → Int → zS → Option (Int × zS)) (x1 : Int) (x2 : Int) (x3 : Int) (x5 : Int) (x6 : Int) (x7 : Int) (x8 : Int) (y1 : Int) (y2 : Int) (y3 : Int) (y4 : Int) (s : zS) : Option (Int × zS) := oZ ((3 : Int) * x1) fun z1 => oZ ((19 : Int) + z1) fun z3 => oX z3 36 (oV (s.1 246 z3) fun z5 => oC (m198 y1 y2 y3 y4 x7 z5 s) fun z7 s8 => if x8 = (0 : Int) then oV (s8.1 209 62) fun z11 => oZ (x7 + (1 : Int)) fun z12 => k51_ x1 x2 x3 z7 x5 z11 z12 s8 else oV (s8.1 209 62) fun z14 => oZ (x7 + (1 : Int)) fun z15 => k51_ x1 x2 x3 z7 z14 x6 z15 s8)
set_option maxRecDepth 20000 in
theorem c222_111 {G : aHp} {d : Nat} {k51_ : Int → Int → Int → Int → Int → Int → Int → zS → Option (Int × zS)} (hG : zG G) (hk51 : ∀ {x1 : Int} {x2 : Int} {x3 : Int} {x4 : Int} {x5 : Int} {x6 : Int} {x7 : Int} {d8 : Option zV} {s : zS} {r_ : Int} {s_ : zS}, k51_ x1 x2 x3 x4 x5 x6 x7 s = some (r_, s_) → Zp G (d + 6) 222 51 [some (zr 12 0 209), some (zi x1), some (zi x2), some (zi x3), some (zi x4), some (zi x5), some (zi x6), some (zi x7), d8] [] s (zRet (some (zi r_)) s_)) {x1 : Int} {x2 : Int} {x3 : Int} {x5 : Int} {x6 : Int} {x7 : Int} {x8 : Int} {y1 : Int} {y2 : Int} {y3 : Int} {y4 : Int} {d4 : Option zV} {s : zS} {r_ : Int} {s_ : zS} (hm : m222_111 k51_ x1 x2 x3 x5 x6 x7 x8 y1 y2 y3 y4 s = some (r_, s_)) : Zp G (d + 6) 222 111 [some (zr 12 0 209), some (zi x1), some (zi x2), some (zi x3), d4, some (zi x5), some (zi x6), some (zi x7), some (zi x8)] [zi y4, zi y3, zi y2, zi y1, zr 12 0 209] s (zRet (some (zi r_)) s_) := by
  replace hm : (oZ ((3 : Int) * x1) fun z1 => oZ ((19 : Int) + z1) fun z3 => oX z3 36 (oV (s.1 246 z3) fun z5 => oC (m198 y1 y2 y3 y4 x7 z5 s) fun z7 s8 => if x8 = (0 : Int) then oV (s8.1 209 62) fun z11 => oZ (x7 + (1 : Int)) fun z12 => k51_ x1 x2 x3 z7 x5 z11 z12 s8 else oV (s8.1 209 62) fun z14 => oZ (x7 + (1 : Int)) fun z15 => k51_ x1 x2 x3 z7 z14 x6 z15 s8)) = some (r_, s_) := hm
  refine z_iload (pc' := 113) hM222 rfl rfl rfl ?_
  refine z_aload_n (pc' := 114) hM222 rfl rfl rfl ?_
  refine z_fldR (pc' := 117) hM222 rfl (zf_12_45 hG) rfl rfl ?_
  refine z_bipush (pc' := 119) hM222 rfl rfl rfl ?_
  refine z_iconst (pc' := 120) hM222 rfl rfl rfl ?_
  refine z_iload_n (pc' := 121) hM222 rfl rfl rfl ?_
  obtain ⟨z1, ez1, h2, hm⟩ := o_z hm
  refine z_imul (pc' := 122) hM222 rfl rfl ez1 h2 ?_
  obtain ⟨z3, ez3, h4, hm⟩ := o_z hm
  refine z_iadd (pc' := 123) hM222 rfl rfl ez3 h4 ?_
  obtain ⟨h6, hm⟩ := o_x hm
  obtain ⟨z5, ez5, hm⟩ := o_v hm
  refine z_iald (pc' := 124) (zGN hG) hM222 rfl rfl h6 ez5 ?_
  obtain ⟨z7, s8, h9, hm⟩ := o_c hm
  refine z_cv (d := d + 5) (pc' := 127) hM222 rfl hM198 rfl rfl rfl rfl rfl rfl (c198 (d := d) hG h9) rfl ?_
  refine z_istore (pc' := 129) (l' := [some (zr 12 0 209), some (zi x1), some (zi x2), some (zi x3), some (zi z7), some (zi x5), some (zi x6), some (zi x7), some (zi x8)]) hM222 rfl rfl rfl rfl ?_
  refine z_iload (pc' := 131) hM222 rfl rfl rfl ?_
  refine z_ifeq (pc' := 134) (t := 143) hM222 rfl rfl (fun h10 => ?_) (fun h10 => ?_)
  · replace hm := o_t hm h10
    refine z_aload_n (pc' := 144) hM222 rfl rfl rfl ?_
    obtain ⟨z11, ez11, hm⟩ := o_v hm
    refine z_fldI (pc' := 147) hM222 rfl rfl rfl ez11 ?_
    refine z_istore (pc' := 149) (l' := [some (zr 12 0 209), some (zi x1), some (zi x2), some (zi x3), some (zi z7), some (zi x5), some (zi z11), some (zi x7), some (zi x8)]) hM222 rfl rfl rfl rfl ?_
    obtain ⟨z12, ez12, h13, hm⟩ := o_z hm
    refine z_iinc (pc' := 152) (l' := [some (zr 12 0 209), some (zi x1), some (zi x2), some (zi x3), some (zi z7), some (zi x5), some (zi z11), some (zi z12), some (zi x8)]) hM222 rfl rfl rfl ez12 h13 rfl rfl ?_
    refine z_goto (t := 51) hM222 rfl ?_
    exact hk51 hm
  · replace hm := o_f hm h10
    refine z_aload_n (pc' := 135) hM222 rfl rfl rfl ?_
    obtain ⟨z14, ez14, hm⟩ := o_v hm
    refine z_fldI (pc' := 138) hM222 rfl rfl rfl ez14 ?_
    refine z_istore (pc' := 140) (l' := [some (zr 12 0 209), some (zi x1), some (zi x2), some (zi x3), some (zi z7), some (zi z14), some (zi x6), some (zi x7), some (zi x8)]) hM222 rfl rfl rfl rfl ?_
    refine z_goto (t := 149) hM222 rfl ?_
    obtain ⟨z15, ez15, h16, hm⟩ := o_z hm
    refine z_iinc (pc' := 152) (l' := [some (zr 12 0 209), some (zi x1), some (zi x2), some (zi x3), some (zi z7), some (zi z14), some (zi x6), some (zi z15), some (zi x8)]) hM222 rfl rfl rfl ez15 h16 rfl rfl ?_
    refine z_goto (t := 51) hM222 rfl ?_
    exact hk51 hm
def m222_97 (k51_ : Int → Int → Int → Int → Int → Int → Int → zS → Option (Int × zS)) (x1 : Int) (x2 : Int) (x3 : Int) (x4 : Int) (x5 : Int) (x6 : Int) (x7 : Int) (x8 : Int) (y1 : Int) (y2 : Int) (s : zS) : Option (Int × zS) := if x8 = (0 : Int) then m222_111 k51_ x1 x2 x3 x5 x6 x7 x8 y1 y2 x4 x6 s else m222_111 k51_ x1 x2 x3 x5 x6 x7 x8 y1 y2 x4 x5 s
set_option maxRecDepth 20000 in
theorem c222_97 {G : aHp} {d : Nat} {k51_ : Int → Int → Int → Int → Int → Int → Int → zS → Option (Int × zS)} (hG : zG G) (hk51 : ∀ {x1 : Int} {x2 : Int} {x3 : Int} {x4 : Int} {x5 : Int} {x6 : Int} {x7 : Int} {d8 : Option zV} {s : zS} {r_ : Int} {s_ : zS}, k51_ x1 x2 x3 x4 x5 x6 x7 s = some (r_, s_) → Zp G (d + 6) 222 51 [some (zr 12 0 209), some (zi x1), some (zi x2), some (zi x3), some (zi x4), some (zi x5), some (zi x6), some (zi x7), d8] [] s (zRet (some (zi r_)) s_)) {x1 : Int} {x2 : Int} {x3 : Int} {x4 : Int} {x5 : Int} {x6 : Int} {x7 : Int} {x8 : Int} {y1 : Int} {y2 : Int} {s : zS} {r_ : Int} {s_ : zS} (hm : m222_97 k51_ x1 x2 x3 x4 x5 x6 x7 x8 y1 y2 s = some (r_, s_)) : Zp G (d + 6) 222 97 [some (zr 12 0 209), some (zi x1), some (zi x2), some (zi x3), some (zi x4), some (zi x5), some (zi x6), some (zi x7), some (zi x8)] [zi y2, zi y1, zr 12 0 209] s (zRet (some (zi r_)) s_) := by
  replace hm : (if x8 = (0 : Int) then m222_111 k51_ x1 x2 x3 x5 x6 x7 x8 y1 y2 x4 x6 s else m222_111 k51_ x1 x2 x3 x5 x6 x7 x8 y1 y2 x4 x5 s) = some (r_, s_) := hm
  refine z_iload (pc' := 99) hM222 rfl rfl rfl ?_
  refine z_iload (pc' := 101) hM222 rfl rfl rfl ?_
  refine z_ifeq (pc' := 104) (t := 109) hM222 rfl rfl (fun h1 => ?_) (fun h1 => ?_)
  · replace hm := o_t hm h1
    refine z_iload (pc' := 111) hM222 rfl rfl rfl ?_
    exact c222_111 hG hk51 hm
  · replace hm := o_f hm h1
    refine z_iload (pc' := 106) hM222 rfl rfl rfl ?_
    refine z_goto (t := 111) hM222 rfl ?_
    exact c222_111 hG hk51 hm
def m222_83 (k51_ : Int → Int → Int → Int → Int → Int → Int → zS → Option (Int × zS)) (x1 : Int) (x2 : Int) (x3 : Int) (x4 : Int) (x5 : Int) (x6 : Int) (x7 : Int) (y0 : Int) (s : zS) : Option (Int × zS) := if y0 = (0 : Int) then m222_97 k51_ x1 x2 x3 x4 x5 x6 x7 y0 x1 x3 s else m222_97 k51_ x1 x2 x3 x4 x5 x6 x7 y0 x1 x2 s
set_option maxRecDepth 20000 in
theorem c222_83 {G : aHp} {d : Nat} {k51_ : Int → Int → Int → Int → Int → Int → Int → zS → Option (Int × zS)} (hG : zG G) (hk51 : ∀ {x1 : Int} {x2 : Int} {x3 : Int} {x4 : Int} {x5 : Int} {x6 : Int} {x7 : Int} {d8 : Option zV} {s : zS} {r_ : Int} {s_ : zS}, k51_ x1 x2 x3 x4 x5 x6 x7 s = some (r_, s_) → Zp G (d + 6) 222 51 [some (zr 12 0 209), some (zi x1), some (zi x2), some (zi x3), some (zi x4), some (zi x5), some (zi x6), some (zi x7), d8] [] s (zRet (some (zi r_)) s_)) {x1 : Int} {x2 : Int} {x3 : Int} {x4 : Int} {x5 : Int} {x6 : Int} {x7 : Int} {y0 : Int} {d8 : Option zV} {s : zS} {r_ : Int} {s_ : zS} (hm : m222_83 k51_ x1 x2 x3 x4 x5 x6 x7 y0 s = some (r_, s_)) : Zp G (d + 6) 222 83 [some (zr 12 0 209), some (zi x1), some (zi x2), some (zi x3), some (zi x4), some (zi x5), some (zi x6), some (zi x7), d8] [zi y0] s (zRet (some (zi r_)) s_) := by
  replace hm : (if y0 = (0 : Int) then m222_97 k51_ x1 x2 x3 x4 x5 x6 x7 y0 x1 x3 s else m222_97 k51_ x1 x2 x3 x4 x5 x6 x7 y0 x1 x2 s) = some (r_, s_) := hm
  refine z_istore (pc' := 85) (l' := [some (zr 12 0 209), some (zi x1), some (zi x2), some (zi x3), some (zi x4), some (zi x5), some (zi x6), some (zi x7), some (zi y0)]) hM222 rfl rfl rfl rfl ?_
  refine z_aload_n (pc' := 86) hM222 rfl rfl rfl ?_
  refine z_iload_n (pc' := 87) hM222 rfl rfl rfl ?_
  refine z_iload (pc' := 89) hM222 rfl rfl rfl ?_
  refine z_ifeq (pc' := 92) (t := 96) hM222 rfl rfl (fun h1 => ?_) (fun h1 => ?_)
  · replace hm := o_t hm h1
    refine z_iload_n (pc' := 97) hM222 rfl rfl rfl ?_
    exact c222_97 hG hk51 hm
  · replace hm := o_f hm h1
    refine z_iload_n (pc' := 93) hM222 rfl rfl rfl ?_
    refine z_goto (t := 97) hM222 rfl ?_
    exact c222_97 hG hk51 hm
def m222_51 : Nat → Int → Int → Int → Int → Int → Int → Int → zS → Option (Int × zS)
  | 0, _, _, _, _, _, _, _, _ => none
  | n + 1, x1, x2, x3, x4, x5, x6, x7, s => if (30 : Int) < x7 then some ((-1 : Int), s) else oC (m191 x1 s) fun z2 s3 => if x4 = z2 then some (x7, s3) else oN (2 : Int) (oV (Int.tmod x7 (2 : Int)) fun z6 => if z6 = (0 : Int) then m222_83 (m222_51 n) x1 x2 x3 x4 x5 x6 x7 (1 : Int) s3 else m222_83 (m222_51 n) x1 x2 x3 x4 x5 x6 x7 (0 : Int) s3)
set_option maxRecDepth 20000 in
theorem c222_51 {G : aHp} {d : Nat} (hG : zG G) : ∀ {n : Nat} {x1 : Int} {x2 : Int} {x3 : Int} {x4 : Int} {x5 : Int} {x6 : Int} {x7 : Int} {d8 : Option zV} {s : zS} {r_ : Int} {s_ : zS}, m222_51 n x1 x2 x3 x4 x5 x6 x7 s = some (r_, s_) → Zp G (d + 6) 222 51 [some (zr 12 0 209), some (zi x1), some (zi x2), some (zi x3), some (zi x4), some (zi x5), some (zi x6), some (zi x7), d8] [] s (zRet (some (zi r_)) s_) := by
  intro n
  induction n with
  | zero => intro x1 x2 x3 x4 x5 x6 x7 d8 s r_ s_ hm; cases hm
  | succ n ih =>
  intro x1 x2 x3 x4 x5 x6 x7 d8 s r_ s_ hm
  replace hm : (if (30 : Int) < x7 then some ((-1 : Int), s) else oC (m191 x1 s) fun z2 s3 => if x4 = z2 then some (x7, s3) else oN (2 : Int) (oV (Int.tmod x7 (2 : Int)) fun z6 => if z6 = (0 : Int) then m222_83 (m222_51 n) x1 x2 x3 x4 x5 x6 x7 (1 : Int) s3 else m222_83 (m222_51 n) x1 x2 x3 x4 x5 x6 x7 (0 : Int) s3)) = some (r_, s_) := hm
  refine z_iload (pc' := 53) hM222 rfl rfl rfl ?_
  refine z_bipush (pc' := 55) hM222 rfl rfl rfl ?_
  refine z_cmpgt (pc' := 58) (t := 155) hM222 rfl rfl (fun h1 => ?_) (fun h1 => ?_)
  · replace hm := o_t hm h1
    refine z_iconst (pc' := 156) hM222 rfl rfl rfl ?_
    cases hm
    exact z_retI hM222 rfl rfl ⟨rfl, rfl⟩
  · replace hm := o_f hm h1
    refine z_iload (pc' := 60) hM222 rfl rfl rfl ?_
    refine z_aload_n (pc' := 61) hM222 rfl rfl rfl ?_
    refine z_iload_n (pc' := 62) hM222 rfl rfl rfl ?_
    obtain ⟨z2, s3, h4, hm⟩ := o_c hm
    refine z_cv (d := d + 5) (pc' := 65) hM222 rfl hM191 rfl rfl rfl rfl rfl rfl (c191 (d := d + 4) hG h4) rfl ?_
    refine z_cmpne (pc' := 68) (t := 71) hM222 rfl rfl (fun h5 => ?_) (fun h5 => ?_)
    · replace hm := o_t hm h5
      refine z_iload (pc' := 70) hM222 rfl rfl rfl ?_
      cases hm
      exact z_retI hM222 rfl rfl ⟨rfl, rfl⟩
    · replace hm := o_f hm h5
      refine z_iload (pc' := 73) hM222 rfl rfl rfl ?_
      refine z_iconst (pc' := 74) hM222 rfl rfl rfl ?_
      obtain ⟨nz6, hm⟩ := o_n hm
      obtain ⟨z6, ez6, hm⟩ := o_v hm
      refine z_irem (pc' := 75) hM222 rfl rfl nz6 ez6 ?_
      refine z_ifne (pc' := 78) (t := 82) hM222 rfl rfl (fun h7 => ?_) (fun h7 => ?_)
      · replace hm := o_t hm h7
        refine z_iconst (pc' := 79) hM222 rfl rfl rfl ?_
        refine z_goto (t := 83) hM222 rfl ?_
        exact c222_83 hG ih hm
      · replace hm := o_f hm h7
        refine z_iconst (pc' := 83) hM222 rfl rfl rfl ?_
        exact c222_83 hG ih hm
def m222 (x1 : Int) (x2 : Int) (x3 : Int) (s : zS) : Option (Int × zS) := oC (m186 x1 s) fun z1 s2 => if z1 = (0 : Int) then some ((-1 : Int), s2) else oC (m185 x2 s2) fun z5 s6 => if z5 = (0 : Int) then some ((-1 : Int), s6) else oC (m185 x3 s6) fun z9 s10 => if z9 = (0 : Int) then some ((-1 : Int), s10) else if x2 = x3 then some ((-1 : Int), s10) else oC (m187 x2 s10) fun z14 s15 => oC (m187 x3 s15) fun z17 s18 => m222_51 zFu x1 x2 x3 (0 : Int) z14 z17 (0 : Int) s18
set_option maxRecDepth 20000 in
theorem c222 {G : aHp} {d : Nat} (hG : zG G) {x1 : Int} {x2 : Int} {x3 : Int} {s : zS} {r_ : Int} {s_ : zS} (hm : m222 x1 x2 x3 s = some (r_, s_)) : Zp G (d + 6) 222 0 [some (zr 12 0 209), some (zi x1), some (zi x2), some (zi x3), none, none, none, none, none] [] s (zRet (some (zi r_)) s_) := by
  replace hm : (oC (m186 x1 s) fun z1 s2 => if z1 = (0 : Int) then some ((-1 : Int), s2) else oC (m185 x2 s2) fun z5 s6 => if z5 = (0 : Int) then some ((-1 : Int), s6) else oC (m185 x3 s6) fun z9 s10 => if z9 = (0 : Int) then some ((-1 : Int), s10) else if x2 = x3 then some ((-1 : Int), s10) else oC (m187 x2 s10) fun z14 s15 => oC (m187 x3 s15) fun z17 s18 => m222_51 zFu x1 x2 x3 (0 : Int) z14 z17 (0 : Int) s18) = some (r_, s_) := hm
  refine z_aload_n (pc' := 1) hM222 rfl rfl rfl ?_
  refine z_iload_n (pc' := 2) hM222 rfl rfl rfl ?_
  obtain ⟨z1, s2, h3, hm⟩ := o_c hm
  refine z_cv (d := d + 5) (pc' := 5) hM222 rfl hM186 rfl rfl rfl rfl rfl rfl (c186 (d := d + 3) hG h3) rfl ?_
  refine z_ifeq (pc' := 8) (t := 29) hM222 rfl rfl (fun h4 => ?_) (fun h4 => ?_)
  · replace hm := o_t hm h4
    refine z_iconst (pc' := 30) hM222 rfl rfl rfl ?_
    cases hm
    exact z_retI hM222 rfl rfl ⟨rfl, rfl⟩
  · replace hm := o_f hm h4
    refine z_aload_n (pc' := 9) hM222 rfl rfl rfl ?_
    refine z_iload_n (pc' := 10) hM222 rfl rfl rfl ?_
    obtain ⟨z5, s6, h7, hm⟩ := o_c hm
    refine z_cv (d := d + 5) (pc' := 13) hM222 rfl hM185 rfl rfl rfl rfl rfl rfl (c185 (d := d + 3) hG h7) rfl ?_
    refine z_ifeq (pc' := 16) (t := 29) hM222 rfl rfl (fun h8 => ?_) (fun h8 => ?_)
    · replace hm := o_t hm h8
      refine z_iconst (pc' := 30) hM222 rfl rfl rfl ?_
      cases hm
      exact z_retI hM222 rfl rfl ⟨rfl, rfl⟩
    · replace hm := o_f hm h8
      refine z_aload_n (pc' := 17) hM222 rfl rfl rfl ?_
      refine z_iload_n (pc' := 18) hM222 rfl rfl rfl ?_
      obtain ⟨z9, s10, h11, hm⟩ := o_c hm
      refine z_cv (d := d + 5) (pc' := 21) hM222 rfl hM185 rfl rfl rfl rfl rfl rfl (c185 (d := d + 3) hG h11) rfl ?_
      refine z_ifeq (pc' := 24) (t := 29) hM222 rfl rfl (fun h12 => ?_) (fun h12 => ?_)
      · replace hm := o_t hm h12
        refine z_iconst (pc' := 30) hM222 rfl rfl rfl ?_
        cases hm
        exact z_retI hM222 rfl rfl ⟨rfl, rfl⟩
      · replace hm := o_f hm h12
        refine z_iload_n (pc' := 25) hM222 rfl rfl rfl ?_
        refine z_iload_n (pc' := 26) hM222 rfl rfl rfl ?_
        refine z_cmpne (pc' := 29) (t := 31) hM222 rfl rfl (fun h13 => ?_) (fun h13 => ?_)
        · replace hm := o_t hm h13
          refine z_iconst (pc' := 30) hM222 rfl rfl rfl ?_
          cases hm
          exact z_retI hM222 rfl rfl ⟨rfl, rfl⟩
        · replace hm := o_f hm h13
          refine z_iconst (pc' := 32) hM222 rfl rfl rfl ?_
          refine z_istore (pc' := 34) (l' := [some (zr 12 0 209), some (zi x1), some (zi x2), some (zi x3), some (zi (0 : Int)), none, none, none, none]) hM222 rfl rfl rfl rfl ?_
          refine z_aload_n (pc' := 35) hM222 rfl rfl rfl ?_
          refine z_iload_n (pc' := 36) hM222 rfl rfl rfl ?_
          obtain ⟨z14, s15, h16, hm⟩ := o_c hm
          refine z_cv (d := d + 5) (pc' := 39) hM222 rfl hM187 rfl rfl rfl rfl rfl rfl (c187 (d := d + 4) hG h16) rfl ?_
          refine z_istore (pc' := 41) (l' := [some (zr 12 0 209), some (zi x1), some (zi x2), some (zi x3), some (zi (0 : Int)), some (zi z14), none, none, none]) hM222 rfl rfl rfl rfl ?_
          refine z_aload_n (pc' := 42) hM222 rfl rfl rfl ?_
          refine z_iload_n (pc' := 43) hM222 rfl rfl rfl ?_
          obtain ⟨z17, s18, h19, hm⟩ := o_c hm
          refine z_cv (d := d + 5) (pc' := 46) hM222 rfl hM187 rfl rfl rfl rfl rfl rfl (c187 (d := d + 4) hG h19) rfl ?_
          refine z_istore (pc' := 48) (l' := [some (zr 12 0 209), some (zi x1), some (zi x2), some (zi x3), some (zi (0 : Int)), some (zi z14), some (zi z17), none, none]) hM222 rfl rfl rfl rfl ?_
          refine z_iconst (pc' := 49) hM222 rfl rfl rfl ?_
          refine z_istore (pc' := 51) (l' := [some (zr 12 0 209), some (zi x1), some (zi x2), some (zi x3), some (zi (0 : Int)), some (zi z14), some (zi z17), some (zi (0 : Int)), none]) hM222 rfl rfl rfl rfl ?_
          exact c222_51 hG hm
def m223_46 (x1 : Int) (s : zS) : Option (Int × zS) := if x1 < (0 : Int) then some ((0 : Int), s) else oX x1 6 (oV (s.1 257 x1) fun z2 => oZ (z2 + (1 : Int)) fun z4 => oX x1 6 (oV (sI s 257 x1 z4) fun s6 => some ((1 : Int), s6)))
theorem c223_46 {G : aHp} {d : Nat} (hG : zG G) {x1 : Int} {s : zS} {r_ : Int} {s_ : zS} (hm : m223_46 x1 s = some (r_, s_)) : Zp G (d + 2) 223 46 [some (zr 12 0 209), some (zi x1)] [] s (zRet (some (zi r_)) s_) := by
  replace hm : (if x1 < (0 : Int) then some ((0 : Int), s) else oX x1 6 (oV (s.1 257 x1) fun z2 => oZ (z2 + (1 : Int)) fun z4 => oX x1 6 (oV (sI s 257 x1 z4) fun s6 => some ((1 : Int), s6)))) = some (r_, s_) := hm
  refine z_iload_n (pc' := 47) hM223 rfl rfl rfl ?_
  refine z_ifge (pc' := 50) (t := 52) hM223 rfl rfl (fun h1 => ?_) (fun h1 => ?_)
  · replace hm := o_t hm h1
    refine z_iconst (pc' := 51) hM223 rfl rfl rfl ?_
    cases hm
    exact z_retZ hM223 rfl rfl (Or.inl rfl) ⟨rfl, rfl⟩
  · replace hm := o_f hm h1
    refine z_aload_n (pc' := 53) hM223 rfl rfl rfl ?_
    refine z_fldR (pc' := 56) hM223 rfl (zf_12_64 hG) rfl rfl ?_
    refine z_iload_n (pc' := 57) hM223 rfl rfl rfl ?_
    refine z_dup2A (pc' := 58) hM223 rfl rfl ?_
    obtain ⟨h3, hm⟩ := o_x hm
    obtain ⟨z2, ez2, hm⟩ := o_v hm
    refine z_iald (pc' := 59) (zGN hG) hM223 rfl rfl h3 ez2 ?_
    refine z_iconst (pc' := 60) hM223 rfl rfl rfl ?_
    obtain ⟨z4, ez4, h5, hm⟩ := o_z hm
    refine z_iadd (pc' := 61) hM223 rfl rfl ez4 h5 ?_
    obtain ⟨h7, hm⟩ := o_x hm
    obtain ⟨s6, es6, hm⟩ := o_v hm
    refine z_iast (pc' := 62) hM223 rfl rfl h7 es6 ?_
    refine z_iconst (pc' := 63) hM223 rfl rfl rfl ?_
    cases hm
    exact z_retZ hM223 rfl rfl (Or.inr rfl) ⟨rfl, rfl⟩
def m223_33 (k7_ : Int → zS → Option (Int × zS)) (x1 : Int) (s : zS) : Option (Int × zS) := oX x1 6 (oV (sI s 257 x1 (0 : Int)) fun s1 => oZ (x1 + (-1 : Int)) fun z3 => k7_ z3 s1)
theorem c223_33 {G : aHp} {d : Nat} {k7_ : Int → zS → Option (Int × zS)} (hG : zG G) (hk7 : ∀ {x1 : Int} {s : zS} {r_ : Int} {s_ : zS}, k7_ x1 s = some (r_, s_) → Zp G (d + 2) 223 7 [some (zr 12 0 209), some (zi x1)] [] s (zRet (some (zi r_)) s_)) {x1 : Int} {s : zS} {r_ : Int} {s_ : zS} (hm : m223_33 k7_ x1 s = some (r_, s_)) : Zp G (d + 2) 223 33 [some (zr 12 0 209), some (zi x1)] [] s (zRet (some (zi r_)) s_) := by
  replace hm : (oX x1 6 (oV (sI s 257 x1 (0 : Int)) fun s1 => oZ (x1 + (-1 : Int)) fun z3 => k7_ z3 s1)) = some (r_, s_) := hm
  refine z_aload_n (pc' := 34) hM223 rfl rfl rfl ?_
  refine z_fldR (pc' := 37) hM223 rfl (zf_12_64 hG) rfl rfl ?_
  refine z_iload_n (pc' := 38) hM223 rfl rfl rfl ?_
  refine z_iconst (pc' := 39) hM223 rfl rfl rfl ?_
  obtain ⟨h2, hm⟩ := o_x hm
  obtain ⟨s1, es1, hm⟩ := o_v hm
  refine z_iast (pc' := 40) hM223 rfl rfl h2 es1 ?_
  obtain ⟨z3, ez3, h4, hm⟩ := o_z hm
  refine z_iinc (pc' := 43) (l' := [some (zr 12 0 209), some (zi z3)]) hM223 rfl rfl rfl ez3 h4 rfl rfl ?_
  refine z_goto (t := 7) hM223 rfl ?_
  exact hk7 hm
def m223_7 : Nat → Int → zS → Option (Int × zS)
  | 0, _, _ => none
  | n + 1, x1, s => if x1 < (0 : Int) then m223_46 x1 s else oC (m189 x1 s) fun z2 s3 => if z2 = (-1 : Int) then oX x1 6 (oV (s3.1 257 x1) fun z6 => oC (m182 s3) fun z8 s9 => if z6 = z8 then m223_33 (m223_7 n) x1 s9 else m223_46 x1 s9) else m223_33 (m223_7 n) x1 s3
theorem c223_7 {G : aHp} {d : Nat} (hG : zG G) : ∀ {n : Nat} {x1 : Int} {s : zS} {r_ : Int} {s_ : zS}, m223_7 n x1 s = some (r_, s_) → Zp G (d + 2) 223 7 [some (zr 12 0 209), some (zi x1)] [] s (zRet (some (zi r_)) s_) := by
  intro n
  induction n with
  | zero => intro x1 s r_ s_ hm; cases hm
  | succ n ih =>
  intro x1 s r_ s_ hm
  replace hm : (if x1 < (0 : Int) then m223_46 x1 s else oC (m189 x1 s) fun z2 s3 => if z2 = (-1 : Int) then oX x1 6 (oV (s3.1 257 x1) fun z6 => oC (m182 s3) fun z8 s9 => if z6 = z8 then m223_33 (m223_7 n) x1 s9 else m223_46 x1 s9) else m223_33 (m223_7 n) x1 s3) = some (r_, s_) := hm
  refine z_iload_n (pc' := 8) hM223 rfl rfl rfl ?_
  refine z_iflt (pc' := 11) (t := 46) hM223 rfl rfl (fun h1 => ?_) (fun h1 => ?_)
  · replace hm := o_t hm h1
    exact c223_46 hG hm
  · replace hm := o_f hm h1
    refine z_aload_n (pc' := 12) hM223 rfl rfl rfl ?_
    refine z_iload_n (pc' := 13) hM223 rfl rfl rfl ?_
    obtain ⟨z2, s3, h4, hm⟩ := o_c hm
    refine z_cv (d := d + 1) (pc' := 16) hM223 rfl hM189 rfl rfl rfl rfl rfl rfl (c189 (d := d) hG h4) rfl ?_
    refine z_iconst (pc' := 17) hM223 rfl rfl rfl ?_
    refine z_cmpne (pc' := 20) (t := 33) hM223 rfl rfl (fun h5 => ?_) (fun h5 => ?_)
    · replace hm := o_t hm h5
      refine z_aload_n (pc' := 21) hM223 rfl rfl rfl ?_
      refine z_fldR (pc' := 24) hM223 rfl (zf_12_64 hG) rfl rfl ?_
      refine z_iload_n (pc' := 25) hM223 rfl rfl rfl ?_
      obtain ⟨h7, hm⟩ := o_x hm
      obtain ⟨z6, ez6, hm⟩ := o_v hm
      refine z_iald (pc' := 26) (zGN hG) hM223 rfl rfl h7 ez6 ?_
      refine z_aload_n (pc' := 27) hM223 rfl rfl rfl ?_
      obtain ⟨z8, s9, h10, hm⟩ := o_c hm
      refine z_cv (d := d + 1) (pc' := 30) hM223 rfl hM182 rfl rfl rfl rfl rfl rfl (c182 (d := d) hG h10) rfl ?_
      refine z_cmpne (pc' := 33) (t := 46) hM223 rfl rfl (fun h11 => ?_) (fun h11 => ?_)
      · replace hm := o_t hm h11
        exact c223_33 hG ih hm
      · replace hm := o_f hm h11
        exact c223_46 hG hm
    · replace hm := o_f hm h5
      exact c223_33 hG ih hm
def m223  (s : zS) : Option (Int × zS) := oC (m183 s) fun z1 s2 => oZ (z1 - (1 : Int)) fun z4 => m223_7 zFu z4 s2
theorem c223 {G : aHp} {d : Nat} (hG : zG G) {s : zS} {r_ : Int} {s_ : zS} (hm : m223  s = some (r_, s_)) : Zp G (d + 2) 223 0 [some (zr 12 0 209), none] [] s (zRet (some (zi r_)) s_) := by
  replace hm : (oC (m183 s) fun z1 s2 => oZ (z1 - (1 : Int)) fun z4 => m223_7 zFu z4 s2) = some (r_, s_) := hm
  refine z_aload_n (pc' := 1) hM223 rfl rfl rfl ?_
  obtain ⟨z1, s2, h3, hm⟩ := o_c hm
  refine z_cv (d := d + 1) (pc' := 4) hM223 rfl hM183 rfl rfl rfl rfl rfl rfl (c183 (d := d) hG h3) rfl ?_
  refine z_iconst (pc' := 5) hM223 rfl rfl rfl ?_
  obtain ⟨z4, ez4, h5, hm⟩ := o_z hm
  refine z_isub (pc' := 6) hM223 rfl rfl ez4 h5 ?_
  refine z_istore_n (pc' := 7) (l' := [some (zr 12 0 209), some (zi z4)]) hM223 rfl rfl rfl rfl ?_
  exact c223_7 hG hm
def m224_42 (k2_ : Int → zS → Option (Int × zS)) : Nat → Int → Int → zS → Option (Int × zS)
  | 0, _, _, _ => none
  | n + 1, x1, x2, s => if x2 < x1 then oX x2 6 (oV (s.1 257 x2) fun z2 => oX x1 6 (oV (s.1 257 x1) fun z4 => if z2 = z4 then some ((0 : Int), s) else oZ (x2 + (1 : Int)) fun z7 => m224_42 k2_ n x1 z7 s)) else oZ (x1 + (1 : Int)) fun z9 => k2_ z9 s
theorem c224_42 {G : aHp} {d : Nat} {k2_ : Int → zS → Option (Int × zS)} (hG : zG G) (hk2 : ∀ {x1 : Int} {d2 : Option zV} {s : zS} {r_ : Int} {s_ : zS}, k2_ x1 s = some (r_, s_) → Zp G (d + 3) 224 2 [some (zr 12 0 209), some (zi x1), d2] [] s (zRet (some (zi r_)) s_)) : ∀ {n : Nat} {x1 : Int} {x2 : Int} {s : zS} {r_ : Int} {s_ : zS}, m224_42 k2_ n x1 x2 s = some (r_, s_) → Zp G (d + 3) 224 42 [some (zr 12 0 209), some (zi x1), some (zi x2)] [] s (zRet (some (zi r_)) s_) := by
  intro n
  induction n with
  | zero => intro x1 x2 s r_ s_ hm; cases hm
  | succ n ih =>
  intro x1 x2 s r_ s_ hm
  replace hm : (if x2 < x1 then oX x2 6 (oV (s.1 257 x2) fun z2 => oX x1 6 (oV (s.1 257 x1) fun z4 => if z2 = z4 then some ((0 : Int), s) else oZ (x2 + (1 : Int)) fun z7 => m224_42 k2_ n x1 z7 s)) else oZ (x1 + (1 : Int)) fun z9 => k2_ z9 s) = some (r_, s_) := hm
  refine z_iload_n (pc' := 43) hM224 rfl rfl rfl ?_
  refine z_iload_n (pc' := 44) hM224 rfl rfl rfl ?_
  refine z_cmpge (pc' := 47) (t := 70) hM224 rfl rfl (fun h1 => ?_) (fun h1 => ?_)
  · replace hm := o_t hm h1
    refine z_aload_n (pc' := 48) hM224 rfl rfl rfl ?_
    refine z_fldR (pc' := 51) hM224 rfl (zf_12_64 hG) rfl rfl ?_
    refine z_iload_n (pc' := 52) hM224 rfl rfl rfl ?_
    obtain ⟨h3, hm⟩ := o_x hm
    obtain ⟨z2, ez2, hm⟩ := o_v hm
    refine z_iald (pc' := 53) (zGN hG) hM224 rfl rfl h3 ez2 ?_
    refine z_aload_n (pc' := 54) hM224 rfl rfl rfl ?_
    refine z_fldR (pc' := 57) hM224 rfl (zf_12_64 hG) rfl rfl ?_
    refine z_iload_n (pc' := 58) hM224 rfl rfl rfl ?_
    obtain ⟨h5, hm⟩ := o_x hm
    obtain ⟨z4, ez4, hm⟩ := o_v hm
    refine z_iald (pc' := 59) (zGN hG) hM224 rfl rfl h5 ez4 ?_
    refine z_cmpne (pc' := 62) (t := 64) hM224 rfl rfl (fun h6 => ?_) (fun h6 => ?_)
    · replace hm := o_t hm h6
      refine z_iconst (pc' := 63) hM224 rfl rfl rfl ?_
      cases hm
      exact z_retZ hM224 rfl rfl (Or.inl rfl) ⟨rfl, rfl⟩
    · replace hm := o_f hm h6
      obtain ⟨z7, ez7, h8, hm⟩ := o_z hm
      refine z_iinc (pc' := 67) (l' := [some (zr 12 0 209), some (zi x1), some (zi z7)]) hM224 rfl rfl rfl ez7 h8 rfl rfl ?_
      refine z_goto (t := 42) hM224 rfl ?_
      exact ih hm
  · replace hm := o_f hm h1
    obtain ⟨z9, ez9, h10, hm⟩ := o_z hm
    refine z_iinc (pc' := 73) (l' := [some (zr 12 0 209), some (zi z9), some (zi x2)]) hM224 rfl rfl rfl ez9 h10 rfl rfl ?_
    refine z_goto (t := 2) hM224 rfl ?_
    exact hk2 hm
def m224_2 : Nat → Int → zS → Option (Int × zS)
  | 0, _, _ => none
  | n + 1, x1, s => oC (m183 s) fun z1 s2 => if x1 < z1 then oX x1 6 (oV (s2.1 257 x1) fun z5 => if z5 = (0 : Int) then oZ (x1 + (1 : Int)) fun z8 => m224_2 n z8 s2 else oX x1 6 (oV (s2.1 257 x1) fun z10 => oZ (z10 - (1 : Int)) fun z12 => oC (m192 z12 s2) fun z14 s15 => if z14 = (-1 : Int) then m224_42 (m224_2 n) zFu x1 (0 : Int) s15 else some ((0 : Int), s15))) else some ((1 : Int), s2)
theorem c224_2 {G : aHp} {d : Nat} (hG : zG G) : ∀ {n : Nat} {x1 : Int} {d2 : Option zV} {s : zS} {r_ : Int} {s_ : zS}, m224_2 n x1 s = some (r_, s_) → Zp G (d + 3) 224 2 [some (zr 12 0 209), some (zi x1), d2] [] s (zRet (some (zi r_)) s_) := by
  intro n
  induction n with
  | zero => intro x1 d2 s r_ s_ hm; cases hm
  | succ n ih =>
  intro x1 d2 s r_ s_ hm
  replace hm : (oC (m183 s) fun z1 s2 => if x1 < z1 then oX x1 6 (oV (s2.1 257 x1) fun z5 => if z5 = (0 : Int) then oZ (x1 + (1 : Int)) fun z8 => m224_2 n z8 s2 else oX x1 6 (oV (s2.1 257 x1) fun z10 => oZ (z10 - (1 : Int)) fun z12 => oC (m192 z12 s2) fun z14 s15 => if z14 = (-1 : Int) then m224_42 (m224_2 n) zFu x1 (0 : Int) s15 else some ((0 : Int), s15))) else some ((1 : Int), s2)) = some (r_, s_) := hm
  refine z_iload_n (pc' := 3) hM224 rfl rfl rfl ?_
  refine z_aload_n (pc' := 4) hM224 rfl rfl rfl ?_
  obtain ⟨z1, s2, h3, hm⟩ := o_c hm
  refine z_cv (d := d + 2) (pc' := 7) hM224 rfl hM183 rfl rfl rfl rfl rfl rfl (c183 (d := d + 1) hG h3) rfl ?_
  refine z_cmpge (pc' := 10) (t := 76) hM224 rfl rfl (fun h4 => ?_) (fun h4 => ?_)
  · replace hm := o_t hm h4
    refine z_aload_n (pc' := 11) hM224 rfl rfl rfl ?_
    refine z_fldR (pc' := 14) hM224 rfl (zf_12_64 hG) rfl rfl ?_
    refine z_iload_n (pc' := 15) hM224 rfl rfl rfl ?_
    obtain ⟨h6, hm⟩ := o_x hm
    obtain ⟨z5, ez5, hm⟩ := o_v hm
    refine z_iald (pc' := 16) (zGN hG) hM224 rfl rfl h6 ez5 ?_
    refine z_ifne (pc' := 19) (t := 22) hM224 rfl rfl (fun h7 => ?_) (fun h7 => ?_)
    · replace hm := o_t hm h7
      refine z_goto (t := 70) hM224 rfl ?_
      obtain ⟨z8, ez8, h9, hm⟩ := o_z hm
      refine z_iinc (pc' := 73) (l' := [some (zr 12 0 209), some (zi z8), d2]) hM224 rfl rfl rfl ez8 h9 rfl rfl ?_
      refine z_goto (t := 2) hM224 rfl ?_
      exact ih hm
    · replace hm := o_f hm h7
      refine z_aload_n (pc' := 23) hM224 rfl rfl rfl ?_
      refine z_aload_n (pc' := 24) hM224 rfl rfl rfl ?_
      refine z_fldR (pc' := 27) hM224 rfl (zf_12_64 hG) rfl rfl ?_
      refine z_iload_n (pc' := 28) hM224 rfl rfl rfl ?_
      obtain ⟨h11, hm⟩ := o_x hm
      obtain ⟨z10, ez10, hm⟩ := o_v hm
      refine z_iald (pc' := 29) (zGN hG) hM224 rfl rfl h11 ez10 ?_
      refine z_iconst (pc' := 30) hM224 rfl rfl rfl ?_
      obtain ⟨z12, ez12, h13, hm⟩ := o_z hm
      refine z_isub (pc' := 31) hM224 rfl rfl ez12 h13 ?_
      obtain ⟨z14, s15, h16, hm⟩ := o_c hm
      refine z_cv (d := d + 2) (pc' := 34) hM224 rfl hM192 rfl rfl rfl rfl rfl rfl (c192 (d := d) hG h16) rfl ?_
      refine z_iconst (pc' := 35) hM224 rfl rfl rfl ?_
      refine z_cmpeq (pc' := 38) (t := 40) hM224 rfl rfl (fun h17 => ?_) (fun h17 => ?_)
      · replace hm := o_t hm h17
        refine z_iconst (pc' := 41) hM224 rfl rfl rfl ?_
        refine z_istore_n (pc' := 42) (l' := [some (zr 12 0 209), some (zi x1), some (zi (0 : Int))]) hM224 rfl rfl rfl rfl ?_
        exact c224_42 hG ih hm
      · replace hm := o_f hm h17
        refine z_iconst (pc' := 39) hM224 rfl rfl rfl ?_
        cases hm
        exact z_retZ hM224 rfl rfl (Or.inl rfl) ⟨rfl, rfl⟩
  · replace hm := o_f hm h4
    refine z_iconst (pc' := 77) hM224 rfl rfl rfl ?_
    cases hm
    exact z_retZ hM224 rfl rfl (Or.inr rfl) ⟨rfl, rfl⟩
def m224  (s : zS) : Option (Int × zS) := m224_2 zFu (0 : Int) s
theorem c224 {G : aHp} {d : Nat} (hG : zG G) {s : zS} {r_ : Int} {s_ : zS} (hm : m224  s = some (r_, s_)) : Zp G (d + 3) 224 0 [some (zr 12 0 209), none, none] [] s (zRet (some (zi r_)) s_) := by
  replace hm : (m224_2 zFu (0 : Int) s) = some (r_, s_) := hm
  refine z_iconst (pc' := 1) hM224 rfl rfl rfl ?_
  refine z_istore_n (pc' := 2) (l' := [some (zr 12 0 209), some (zi (0 : Int)), none]) hM224 rfl rfl rfl rfl ?_
  exact c224_2 hG hm
