/-! ===== methods (by gen_mir.py) ===== -/
def m169_35 (x4 : Int) (s : zS) : Option (Int × zS) := oV (s.1 209 5) fun z1 => if z1 = (0 : Int) then some (x4, s) else some ((0 : Int), s)
theorem c169_35 {G : aHp} {d : Nat} (hG : zG G) {x4 : Int} {d1 d2 d3 : Option zV} {s : zS} {r_ : Int} {s_ : zS} (hm : m169_35 x4 s = some (r_, s_)) : Zp G (d + 5) 169 35 [some (zr 12 0 209), d1, d2, d3, some (zi x4)] [] s (zRet (some (zi r_)) s_) := by
  replace hm : (oV (s.1 209 5) fun z1 => if z1 = (0 : Int) then some (x4, s) else some ((0 : Int), s)) = some (r_, s_) := hm
  refine z_aload_n (pc' := 36) hM169 rfl rfl rfl ?_
  obtain ⟨z1, ez1, hm⟩ := o_v hm
  refine z_fldI (pc' := 39) hM169 rfl rfl rfl ez1 ?_
  refine z_ifne (pc' := 42) (t := 47) hM169 rfl rfl (fun h2 => ?_) (fun h2 => ?_)
  · replace hm := o_t hm h2
    refine z_iload (pc' := 44) hM169 rfl rfl rfl ?_
    refine z_goto (t := 48) hM169 rfl ?_
    cases hm
    exact z_retI hM169 rfl rfl ⟨rfl, rfl⟩
  · replace hm := o_f hm h2
    refine z_iconst (pc' := 48) hM169 rfl rfl rfl ?_
    cases hm
    exact z_retI hM169 rfl rfl ⟨rfl, rfl⟩
def m169 (x1 : Int) (s : zS) : Option (Int × zS) := oC (m164 s) fun z1 s2 => oC (m167 x1 z1 s2) fun z4 s5 => oV (s5.1 209 5) fun z7 => if z7 = (0 : Int) then if z4 = (-1 : Int) then oV (s5.1 209 40) fun z10 => oC (m153 (3 : Int) z10 s5) fun z11 s12 => m169_35 z4 s12 else m169_35 z4 s5 else m169_35 z4 s5
theorem c169 {G : aHp} {d : Nat} (hG : zG G) {x1 : Int} {s : zS} {r_ : Int} {s_ : zS} (hm : m169 x1 s = some (r_, s_)) : Zp G (d + 5) 169 0 [some (zr 12 0 209), some (zi x1), none, none, none] [] s (zRet (some (zi r_)) s_) := by
  replace hm : (oC (m164 s) fun z1 s2 => oC (m167 x1 z1 s2) fun z4 s5 => oV (s5.1 209 5) fun z7 => if z7 = (0 : Int) then if z4 = (-1 : Int) then oV (s5.1 209 40) fun z10 => oC (m153 (3 : Int) z10 s5) fun z11 s12 => m169_35 z4 s12 else m169_35 z4 s5 else m169_35 z4 s5) = some (r_, s_) := hm
  refine z_aload_n (pc' := 1) hM169 rfl rfl rfl ?_
  obtain ⟨z1, s2, h3, hm⟩ := o_c hm
  refine z_cv (d := d + 4) (pc' := 4) hM169 rfl hM164 rfl rfl rfl rfl rfl rfl (c164 (d := d) hG h3) rfl ?_
  refine z_lstore_n (pc' := 5) (l' := [some (zr 12 0 209), some (zi x1), some (zj z1), none, none]) hM169 rfl rfl rfl rfl ?_
  refine z_aload_n (pc' := 6) hM169 rfl rfl rfl ?_
  refine z_iload_n (pc' := 7) hM169 rfl rfl rfl ?_
  refine z_lload_n (pc' := 8) hM169 rfl rfl rfl ?_
  obtain ⟨z4, s5, h6, hm⟩ := o_c hm
  refine z_cv (d := d + 4) (pc' := 11) hM169 rfl hM167 rfl rfl rfl rfl rfl rfl (c167 (d := d + 3) hG h6) rfl ?_
  refine z_istore (pc' := 13) (l' := [some (zr 12 0 209), some (zi x1), some (zj z1), none, some (zi z4)]) hM169 rfl rfl rfl rfl ?_
  refine z_aload_n (pc' := 14) hM169 rfl rfl rfl ?_
  obtain ⟨z7, ez7, hm⟩ := o_v hm
  refine z_fldI (pc' := 17) hM169 rfl rfl rfl ez7 ?_
  refine z_ifne (pc' := 20) (t := 35) hM169 rfl rfl (fun h8 => ?_) (fun h8 => ?_)
  · replace hm := o_t hm h8
    refine z_iload (pc' := 22) hM169 rfl rfl rfl ?_
    refine z_iconst (pc' := 23) hM169 rfl rfl rfl ?_
    refine z_cmpne (pc' := 26) (t := 35) hM169 rfl rfl (fun h9 => ?_) (fun h9 => ?_)
    · replace hm := o_t hm h9
      refine z_aload_n (pc' := 27) hM169 rfl rfl rfl ?_
      refine z_iconst (pc' := 28) hM169 rfl rfl rfl ?_
      refine z_aload_n (pc' := 29) hM169 rfl rfl rfl ?_
      obtain ⟨z10, ez10, hm⟩ := o_v hm
      refine z_fldI (pc' := 32) hM169 rfl rfl rfl ez10 ?_
      obtain ⟨z11, s12, h13, hm⟩ := o_c hm
      refine z_cvV (d := d + 4) (pc' := 35) hM169 rfl hM153 rfl rfl rfl rfl rfl rfl (c153 (d := d + 3) hG h13) rfl ?_
      exact c169_35 hG hm
    · replace hm := o_f hm h9
      exact c169_35 hG hm
  · replace hm := o_f hm h8
    exact c169_35 hG hm
def m170 (x1 : Int) (x2 : Int) (s : zS) : Option (Int × zS) := oZ ((8 : Int) * x1) fun z1 => oX x1 8 (oV (s.1 242 x1) fun z3 => oZ (z1 + z3) fun z5 => oX z5 48 (oV (sJ s 243 z5 x2) fun s7 => oX x1 8 (oV (s7.1 242 x1) fun z9 => oZ (z9 + (1 : Int)) fun z11 => oX x1 8 (oV (sI s7 242 x1 z11) fun s13 => oX x1 8 (oV (s13.1 242 x1) fun z15 => oZ (z15 - (1 : Int)) fun z17 => some (z17, s13))))))
theorem c170 {G : aHp} {d : Nat} (hG : zG G) {x1 : Int} {x2 : Int} {s : zS} {r_ : Int} {s_ : zS} (hm : m170 x1 x2 s = some (r_, s_)) : Zp G (d + 1) 170 0 [some (zr 12 0 209), some (zi x1), some (zj x2), none] [] s (zRet (some (zi r_)) s_) := by
  replace hm : (oZ ((8 : Int) * x1) fun z1 => oX x1 8 (oV (s.1 242 x1) fun z3 => oZ (z1 + z3) fun z5 => oX z5 48 (oV (sJ s 243 z5 x2) fun s7 => oX x1 8 (oV (s7.1 242 x1) fun z9 => oZ (z9 + (1 : Int)) fun z11 => oX x1 8 (oV (sI s7 242 x1 z11) fun s13 => oX x1 8 (oV (s13.1 242 x1) fun z15 => oZ (z15 - (1 : Int)) fun z17 => some (z17, s13))))))) = some (r_, s_) := hm
  refine z_aload_n (pc' := 1) hM170 rfl rfl rfl ?_
  refine z_fldR (pc' := 4) hM170 rfl (zf_12_42 hG) rfl rfl ?_
  refine z_bipush (pc' := 6) hM170 rfl rfl rfl ?_
  refine z_iload_n (pc' := 7) hM170 rfl rfl rfl ?_
  obtain ⟨z1, ez1, h2, hm⟩ := o_z hm
  refine z_imul (pc' := 8) hM170 rfl rfl ez1 h2 ?_
  refine z_aload_n (pc' := 9) hM170 rfl rfl rfl ?_
  refine z_fldR (pc' := 12) hM170 rfl (zf_12_41 hG) rfl rfl ?_
  refine z_iload_n (pc' := 13) hM170 rfl rfl rfl ?_
  obtain ⟨h4, hm⟩ := o_x hm
  obtain ⟨z3, ez3, hm⟩ := o_v hm
  refine z_iald (pc' := 14) (zGN hG) hM170 rfl rfl h4 ez3 ?_
  obtain ⟨z5, ez5, h6, hm⟩ := o_z hm
  refine z_iadd (pc' := 15) hM170 rfl rfl ez5 h6 ?_
  refine z_lload_n (pc' := 16) hM170 rfl rfl rfl ?_
  obtain ⟨h8, hm⟩ := o_x hm
  obtain ⟨s7, es7, hm⟩ := o_v hm
  refine z_last (pc' := 17) hM170 rfl rfl h8 es7 ?_
  refine z_aload_n (pc' := 18) hM170 rfl rfl rfl ?_
  refine z_fldR (pc' := 21) hM170 rfl (zf_12_41 hG) rfl rfl ?_
  refine z_iload_n (pc' := 22) hM170 rfl rfl rfl ?_
  refine z_dup2A (pc' := 23) hM170 rfl rfl ?_
  obtain ⟨h10, hm⟩ := o_x hm
  obtain ⟨z9, ez9, hm⟩ := o_v hm
  refine z_iald (pc' := 24) (zGN hG) hM170 rfl rfl h10 ez9 ?_
  refine z_iconst (pc' := 25) hM170 rfl rfl rfl ?_
  obtain ⟨z11, ez11, h12, hm⟩ := o_z hm
  refine z_iadd (pc' := 26) hM170 rfl rfl ez11 h12 ?_
  obtain ⟨h14, hm⟩ := o_x hm
  obtain ⟨s13, es13, hm⟩ := o_v hm
  refine z_iast (pc' := 27) hM170 rfl rfl h14 es13 ?_
  refine z_aload_n (pc' := 28) hM170 rfl rfl rfl ?_
  refine z_fldR (pc' := 31) hM170 rfl (zf_12_41 hG) rfl rfl ?_
  refine z_iload_n (pc' := 32) hM170 rfl rfl rfl ?_
  obtain ⟨h16, hm⟩ := o_x hm
  obtain ⟨z15, ez15, hm⟩ := o_v hm
  refine z_iald (pc' := 33) (zGN hG) hM170 rfl rfl h16 ez15 ?_
  refine z_iconst (pc' := 34) hM170 rfl rfl rfl ?_
  obtain ⟨z17, ez17, h18, hm⟩ := o_z hm
  refine z_isub (pc' := 35) hM170 rfl rfl ez17 h18 ?_
  cases hm
  exact z_retI hM170 rfl rfl ⟨rfl, rfl⟩
def m171 (x1 : Int) (s : zS) : Option (Int × zS) := oC (m166 (0 : Int) (7 : Int) x1 s) fun z1 s2 => if z1 = (0 : Int) then oC (m168 s2) fun z5 s6 => oV (s6.1 209 5) fun z8 => if z8 = (0 : Int) then oC (m170 (0 : Int) z5 s6) fun z10 s11 => some (0, s11) else some (0, s6) else some (0, s2)
theorem c171 {G : aHp} {d : Nat} (hG : zG G) {x1 : Int} {s : zS} {r_ : Int} {s_ : zS} (hm : m171 x1 s = some (r_, s_)) : Zp G (d + 6) 171 0 [some (zr 12 0 209), some (zi x1), none, none] [] s (zRet none s_) := by
  replace hm : (oC (m166 (0 : Int) (7 : Int) x1 s) fun z1 s2 => if z1 = (0 : Int) then oC (m168 s2) fun z5 s6 => oV (s6.1 209 5) fun z8 => if z8 = (0 : Int) then oC (m170 (0 : Int) z5 s6) fun z10 s11 => some (0, s11) else some (0, s6) else some (0, s2)) = some (r_, s_) := hm
  refine z_aload_n (pc' := 1) hM171 rfl rfl rfl ?_
  refine z_iconst (pc' := 2) hM171 rfl rfl rfl ?_
  refine z_bipush (pc' := 4) hM171 rfl rfl rfl ?_
  refine z_iload_n (pc' := 5) hM171 rfl rfl rfl ?_
  obtain ⟨z1, s2, h3, hm⟩ := o_c hm
  refine z_cv (d := d + 5) (pc' := 8) hM171 rfl hM166 rfl rfl rfl rfl rfl rfl (c166 (d := d + 3) hG h3) rfl ?_
  refine z_ifeq (pc' := 11) (t := 12) hM171 rfl rfl (fun h4 => ?_) (fun h4 => ?_)
  · replace hm := o_t hm h4
    refine z_aload_n (pc' := 13) hM171 rfl rfl rfl ?_
    obtain ⟨z5, s6, h7, hm⟩ := o_c hm
    refine z_cv (d := d + 5) (pc' := 16) hM171 rfl hM168 rfl rfl rfl rfl rfl rfl (c168 (d := d) hG h7) rfl ?_
    refine z_lstore_n (pc' := 17) (l' := [some (zr 12 0 209), some (zi x1), some (zj z5), none]) hM171 rfl rfl rfl rfl ?_
    refine z_aload_n (pc' := 18) hM171 rfl rfl rfl ?_
    obtain ⟨z8, ez8, hm⟩ := o_v hm
    refine z_fldI (pc' := 21) hM171 rfl rfl rfl ez8 ?_
    refine z_ifne (pc' := 24) (t := 31) hM171 rfl rfl (fun h9 => ?_) (fun h9 => ?_)
    · replace hm := o_t hm h9
      refine z_aload_n (pc' := 25) hM171 rfl rfl rfl ?_
      refine z_iconst (pc' := 26) hM171 rfl rfl rfl ?_
      refine z_lload_n (pc' := 27) hM171 rfl rfl rfl ?_
      obtain ⟨z10, s11, h12, hm⟩ := o_c hm
      refine z_cv (d := d + 5) (pc' := 30) hM171 rfl hM170 rfl rfl rfl rfl rfl rfl (c170 (d := d + 4) hG h12) rfl ?_
      refine z_pop (pc' := 31) hM171 rfl rfl ?_
      cases hm
      exact z_retV hM171 rfl rfl ⟨rfl, rfl⟩
    · replace hm := o_f hm h9
      cases hm
      exact z_retV hM171 rfl rfl ⟨rfl, rfl⟩
  · replace hm := o_f hm h4
    cases hm
    exact z_retV hM171 rfl rfl ⟨rfl, rfl⟩
def m172_59 (x2 : Int) (x3 : Int) (s : zS) : Option (Int × zS) := oC (m159 5 214 s) fun z1 s2 => oC (m162 (1 : Int) (9 : Int) s2) fun z4 s5 => oV (s5.1 209 5) fun z7 => if z7 = (0 : Int) then oZ ((7 : Int) * x2) fun z9 => oZ (z9 + x3) fun z11 => oX z11 98 (oV (sI s5 244 z11 z4) fun s13 => oZ ((7 : Int) * x3) fun z15 => oZ (z15 + x2) fun z17 => oX z17 98 (oV (sI s13 244 z17 z4) fun s19 => oX (3 : Int) 8 (oV (s19.1 242 (3 : Int)) fun z21 => oZ (z21 + (1 : Int)) fun z23 => oX (3 : Int) 8 (oV (sI s19 242 (3 : Int) z23) fun s25 => some (0, s25))))) else some (0, s5)
theorem c172_59 {G : aHp} {d : Nat} (hG : zG G) {x2 : Int} {x3 : Int} {d1 d4 : Option zV} {s : zS} {r_ : Int} {s_ : zS} (hm : m172_59 x2 x3 s = some (r_, s_)) : Zp G (d + 6) 172 59 [some (zr 12 0 209), d1, some (zi x2), some (zi x3), d4] [] s (zRet none s_) := by
  replace hm : (oC (m159 5 214 s) fun z1 s2 => oC (m162 (1 : Int) (9 : Int) s2) fun z4 s5 => oV (s5.1 209 5) fun z7 => if z7 = (0 : Int) then oZ ((7 : Int) * x2) fun z9 => oZ (z9 + x3) fun z11 => oX z11 98 (oV (sI s5 244 z11 z4) fun s13 => oZ ((7 : Int) * x3) fun z15 => oZ (z15 + x2) fun z17 => oX z17 98 (oV (sI s13 244 z17 z4) fun s19 => oX (3 : Int) 8 (oV (s19.1 242 (3 : Int)) fun z21 => oZ (z21 + (1 : Int)) fun z23 => oX (3 : Int) 8 (oV (sI s19 242 (3 : Int) z23) fun s25 => some (0, s25))))) else some (0, s5)) = some (r_, s_) := hm
  refine z_aload_n (pc' := 60) hM172 rfl rfl rfl ?_
  refine z_aload_n (pc' := 61) hM172 rfl rfl rfl ?_
  refine z_fldR (pc' := 64) hM172 rfl (zf_12_12 hG) rfl rfl ?_
  obtain ⟨z1, s2, h3, hm⟩ := o_c hm
  refine z_cvV (d := d + 5) (pc' := 67) hM172 rfl hM159 rfl rfl rfl rfl rfl rfl (c159 (d := d + 1) hG h3) rfl ?_
  refine z_aload_n (pc' := 68) hM172 rfl rfl rfl ?_
  refine z_iconst (pc' := 69) hM172 rfl rfl rfl ?_
  refine z_bipush (pc' := 71) hM172 rfl rfl rfl ?_
  obtain ⟨z4, s5, h6, hm⟩ := o_c hm
  refine z_cv (d := d + 5) (pc' := 74) hM172 rfl hM162 rfl rfl rfl rfl rfl rfl (c162 (d := d + 3) hG h6) rfl ?_
  refine z_istore (pc' := 76) (l' := [some (zr 12 0 209), d1, some (zi x2), some (zi x3), some (zi z4)]) hM172 rfl rfl rfl rfl ?_
  refine z_aload_n (pc' := 77) hM172 rfl rfl rfl ?_
  obtain ⟨z7, ez7, hm⟩ := o_v hm
  refine z_fldI (pc' := 80) hM172 rfl rfl rfl ez7 ?_
  refine z_ifeq (pc' := 83) (t := 84) hM172 rfl rfl (fun h8 => ?_) (fun h8 => ?_)
  · replace hm := o_t hm h8
    refine z_aload_n (pc' := 85) hM172 rfl rfl rfl ?_
    refine z_fldR (pc' := 88) hM172 rfl (zf_12_43 hG) rfl rfl ?_
    refine z_bipush (pc' := 90) hM172 rfl rfl rfl ?_
    refine z_iload_n (pc' := 91) hM172 rfl rfl rfl ?_
    obtain ⟨z9, ez9, h10, hm⟩ := o_z hm
    refine z_imul (pc' := 92) hM172 rfl rfl ez9 h10 ?_
    refine z_iload_n (pc' := 93) hM172 rfl rfl rfl ?_
    obtain ⟨z11, ez11, h12, hm⟩ := o_z hm
    refine z_iadd (pc' := 94) hM172 rfl rfl ez11 h12 ?_
    refine z_iload (pc' := 96) hM172 rfl rfl rfl ?_
    obtain ⟨h14, hm⟩ := o_x hm
    obtain ⟨s13, es13, hm⟩ := o_v hm
    refine z_iast (pc' := 97) hM172 rfl rfl h14 es13 ?_
    refine z_aload_n (pc' := 98) hM172 rfl rfl rfl ?_
    refine z_fldR (pc' := 101) hM172 rfl (zf_12_43 hG) rfl rfl ?_
    refine z_bipush (pc' := 103) hM172 rfl rfl rfl ?_
    refine z_iload_n (pc' := 104) hM172 rfl rfl rfl ?_
    obtain ⟨z15, ez15, h16, hm⟩ := o_z hm
    refine z_imul (pc' := 105) hM172 rfl rfl ez15 h16 ?_
    refine z_iload_n (pc' := 106) hM172 rfl rfl rfl ?_
    obtain ⟨z17, ez17, h18, hm⟩ := o_z hm
    refine z_iadd (pc' := 107) hM172 rfl rfl ez17 h18 ?_
    refine z_iload (pc' := 109) hM172 rfl rfl rfl ?_
    obtain ⟨h20, hm⟩ := o_x hm
    obtain ⟨s19, es19, hm⟩ := o_v hm
    refine z_iast (pc' := 110) hM172 rfl rfl h20 es19 ?_
    refine z_aload_n (pc' := 111) hM172 rfl rfl rfl ?_
    refine z_fldR (pc' := 114) hM172 rfl (zf_12_41 hG) rfl rfl ?_
    refine z_iconst (pc' := 115) hM172 rfl rfl rfl ?_
    refine z_dup2A (pc' := 116) hM172 rfl rfl ?_
    obtain ⟨h22, hm⟩ := o_x hm
    obtain ⟨z21, ez21, hm⟩ := o_v hm
    refine z_iald (pc' := 117) (zGN hG) hM172 rfl rfl h22 ez21 ?_
    refine z_iconst (pc' := 118) hM172 rfl rfl rfl ?_
    obtain ⟨z23, ez23, h24, hm⟩ := o_z hm
    refine z_iadd (pc' := 119) hM172 rfl rfl ez23 h24 ?_
    obtain ⟨h26, hm⟩ := o_x hm
    obtain ⟨s25, es25, hm⟩ := o_v hm
    refine z_iast (pc' := 120) hM172 rfl rfl h26 es25 ?_
    cases hm
    exact z_retV hM172 rfl rfl ⟨rfl, rfl⟩
  · replace hm := o_f hm h8
    cases hm
    exact z_retV hM172 rfl rfl ⟨rfl, rfl⟩
def m172 (x1 : Int) (s : zS) : Option (Int × zS) := oC (m166 (3 : Int) (12 : Int) x1 s) fun z1 s2 => if z1 = (0 : Int) then oC (m169 (0 : Int) s2) fun z5 s6 => oC (m169 (0 : Int) s6) fun z8 s9 => oV (s9.1 209 5) fun z11 => if z11 = (0 : Int) then if z5 = z8 then oV (s9.1 209 40) fun z14 => oC (m153 (3 : Int) z14 s9) fun z15 s16 => m172_59 z5 z8 s16 else oZ ((7 : Int) * z5) fun z18 => oZ (z18 + z8) fun z20 => oX z20 98 (oV (s9.1 244 z20) fun z22 => if (0 : Int) < z22 then oV (s9.1 209 40) fun z25 => oC (m153 (3 : Int) z25 s9) fun z26 s27 => m172_59 z5 z8 s27 else m172_59 z5 z8 s9) else m172_59 z5 z8 s9 else some (0, s2)
theorem c172 {G : aHp} {d : Nat} (hG : zG G) {x1 : Int} {s : zS} {r_ : Int} {s_ : zS} (hm : m172 x1 s = some (r_, s_)) : Zp G (d + 6) 172 0 [some (zr 12 0 209), some (zi x1), none, none, none] [] s (zRet none s_) := by
  replace hm : (oC (m166 (3 : Int) (12 : Int) x1 s) fun z1 s2 => if z1 = (0 : Int) then oC (m169 (0 : Int) s2) fun z5 s6 => oC (m169 (0 : Int) s6) fun z8 s9 => oV (s9.1 209 5) fun z11 => if z11 = (0 : Int) then if z5 = z8 then oV (s9.1 209 40) fun z14 => oC (m153 (3 : Int) z14 s9) fun z15 s16 => m172_59 z5 z8 s16 else oZ ((7 : Int) * z5) fun z18 => oZ (z18 + z8) fun z20 => oX z20 98 (oV (s9.1 244 z20) fun z22 => if (0 : Int) < z22 then oV (s9.1 209 40) fun z25 => oC (m153 (3 : Int) z25 s9) fun z26 s27 => m172_59 z5 z8 s27 else m172_59 z5 z8 s9) else m172_59 z5 z8 s9 else some (0, s2)) = some (r_, s_) := hm
  refine z_aload_n (pc' := 1) hM172 rfl rfl rfl ?_
  refine z_iconst (pc' := 2) hM172 rfl rfl rfl ?_
  refine z_bipush (pc' := 4) hM172 rfl rfl rfl ?_
  refine z_iload_n (pc' := 5) hM172 rfl rfl rfl ?_
  obtain ⟨z1, s2, h3, hm⟩ := o_c hm
  refine z_cv (d := d + 5) (pc' := 8) hM172 rfl hM166 rfl rfl rfl rfl rfl rfl (c166 (d := d + 3) hG h3) rfl ?_
  refine z_ifeq (pc' := 11) (t := 12) hM172 rfl rfl (fun h4 => ?_) (fun h4 => ?_)
  · replace hm := o_t hm h4
    refine z_aload_n (pc' := 13) hM172 rfl rfl rfl ?_
    refine z_iconst (pc' := 14) hM172 rfl rfl rfl ?_
    obtain ⟨z5, s6, h7, hm⟩ := o_c hm
    refine z_cv (d := d + 5) (pc' := 17) hM172 rfl hM169 rfl rfl rfl rfl rfl rfl (c169 (d := d) hG h7) rfl ?_
    refine z_istore_n (pc' := 18) (l' := [some (zr 12 0 209), some (zi x1), some (zi z5), none, none]) hM172 rfl rfl rfl rfl ?_
    refine z_aload_n (pc' := 19) hM172 rfl rfl rfl ?_
    refine z_iconst (pc' := 20) hM172 rfl rfl rfl ?_
    obtain ⟨z8, s9, h10, hm⟩ := o_c hm
    refine z_cv (d := d + 5) (pc' := 23) hM172 rfl hM169 rfl rfl rfl rfl rfl rfl (c169 (d := d) hG h10) rfl ?_
    refine z_istore_n (pc' := 24) (l' := [some (zr 12 0 209), some (zi x1), some (zi z5), some (zi z8), none]) hM172 rfl rfl rfl rfl ?_
    refine z_aload_n (pc' := 25) hM172 rfl rfl rfl ?_
    obtain ⟨z11, ez11, hm⟩ := o_v hm
    refine z_fldI (pc' := 28) hM172 rfl rfl rfl ez11 ?_
    refine z_ifne (pc' := 31) (t := 59) hM172 rfl rfl (fun h12 => ?_) (fun h12 => ?_)
    · replace hm := o_t hm h12
      refine z_iload_n (pc' := 32) hM172 rfl rfl rfl ?_
      refine z_iload_n (pc' := 33) hM172 rfl rfl rfl ?_
      refine z_cmpeq (pc' := 36) (t := 50) hM172 rfl rfl (fun h13 => ?_) (fun h13 => ?_)
      · replace hm := o_t hm h13
        refine z_aload_n (pc' := 51) hM172 rfl rfl rfl ?_
        refine z_iconst (pc' := 52) hM172 rfl rfl rfl ?_
        refine z_aload_n (pc' := 53) hM172 rfl rfl rfl ?_
        obtain ⟨z14, ez14, hm⟩ := o_v hm
        refine z_fldI (pc' := 56) hM172 rfl rfl rfl ez14 ?_
        obtain ⟨z15, s16, h17, hm⟩ := o_c hm
        refine z_cvV (d := d + 5) (pc' := 59) hM172 rfl hM153 rfl rfl rfl rfl rfl rfl (c153 (d := d + 4) hG h17) rfl ?_
        exact c172_59 hG hm
      · replace hm := o_f hm h13
        refine z_aload_n (pc' := 37) hM172 rfl rfl rfl ?_
        refine z_fldR (pc' := 40) hM172 rfl (zf_12_43 hG) rfl rfl ?_
        refine z_bipush (pc' := 42) hM172 rfl rfl rfl ?_
        refine z_iload_n (pc' := 43) hM172 rfl rfl rfl ?_
        obtain ⟨z18, ez18, h19, hm⟩ := o_z hm
        refine z_imul (pc' := 44) hM172 rfl rfl ez18 h19 ?_
        refine z_iload_n (pc' := 45) hM172 rfl rfl rfl ?_
        obtain ⟨z20, ez20, h21, hm⟩ := o_z hm
        refine z_iadd (pc' := 46) hM172 rfl rfl ez20 h21 ?_
        obtain ⟨h23, hm⟩ := o_x hm
        obtain ⟨z22, ez22, hm⟩ := o_v hm
        refine z_iald (pc' := 47) (zGN hG) hM172 rfl rfl h23 ez22 ?_
        refine z_ifle (pc' := 50) (t := 59) hM172 rfl rfl (fun h24 => ?_) (fun h24 => ?_)
        · replace hm := o_t hm h24
          refine z_aload_n (pc' := 51) hM172 rfl rfl rfl ?_
          refine z_iconst (pc' := 52) hM172 rfl rfl rfl ?_
          refine z_aload_n (pc' := 53) hM172 rfl rfl rfl ?_
          obtain ⟨z25, ez25, hm⟩ := o_v hm
          refine z_fldI (pc' := 56) hM172 rfl rfl rfl ez25 ?_
          obtain ⟨z26, s27, h28, hm⟩ := o_c hm
          refine z_cvV (d := d + 5) (pc' := 59) hM172 rfl hM153 rfl rfl rfl rfl rfl rfl (c153 (d := d + 4) hG h28) rfl ?_
          exact c172_59 hG hm
        · replace hm := o_f hm h24
          exact c172_59 hG hm
    · replace hm := o_f hm h12
      exact c172_59 hG hm
  · replace hm := o_f hm h4
    cases hm
    exact z_retV hM172 rfl rfl ⟨rfl, rfl⟩
def m173 (x1 : Int) (s : zS) : Option (Int × zS) := oC (m166 (1 : Int) (8 : Int) x1 s) fun z1 s2 => if z1 = (0 : Int) then oC (m168 s2) fun z5 s6 => oC (m159 4 216 s6) fun z8 s9 => oC (m162 (1 : Int) (50 : Int) s9) fun z11 s12 => oC (m159 5 217 s12) fun z14 s15 => oC (m169 (0 : Int) s15) fun z17 s18 => oC (m159 2 218 s18) fun z20 s21 => oC (m162 (0 : Int) (9 : Int) s21) fun z23 s24 => oV (s24.1 209 5) fun z26 => if z26 = (0 : Int) then oC (m170 (1 : Int) z5 s24) fun z28 s29 => oZ ((3 : Int) * z28) fun z31 => oX z31 48 (oV (sI s29 245 z31 z11) fun s33 => oZ (z31 + (1 : Int)) fun z35 => oX z35 48 (oV (sI s33 245 z35 z17) fun s37 => oZ (z31 + (2 : Int)) fun z39 => oX z39 48 (oV (sI s37 245 z39 z23) fun s41 => some (0, s41)))) else some (0, s24) else some (0, s2)
theorem c173 {G : aHp} {d : Nat} (hG : zG G) {x1 : Int} {s : zS} {r_ : Int} {s_ : zS} (hm : m173 x1 s = some (r_, s_)) : Zp G (d + 6) 173 0 [some (zr 12 0 209), some (zi x1), none, none, none, none, none, none] [] s (zRet none s_) := by
  replace hm : (oC (m166 (1 : Int) (8 : Int) x1 s) fun z1 s2 => if z1 = (0 : Int) then oC (m168 s2) fun z5 s6 => oC (m159 4 216 s6) fun z8 s9 => oC (m162 (1 : Int) (50 : Int) s9) fun z11 s12 => oC (m159 5 217 s12) fun z14 s15 => oC (m169 (0 : Int) s15) fun z17 s18 => oC (m159 2 218 s18) fun z20 s21 => oC (m162 (0 : Int) (9 : Int) s21) fun z23 s24 => oV (s24.1 209 5) fun z26 => if z26 = (0 : Int) then oC (m170 (1 : Int) z5 s24) fun z28 s29 => oZ ((3 : Int) * z28) fun z31 => oX z31 48 (oV (sI s29 245 z31 z11) fun s33 => oZ (z31 + (1 : Int)) fun z35 => oX z35 48 (oV (sI s33 245 z35 z17) fun s37 => oZ (z31 + (2 : Int)) fun z39 => oX z39 48 (oV (sI s37 245 z39 z23) fun s41 => some (0, s41)))) else some (0, s24) else some (0, s2)) = some (r_, s_) := hm
  refine z_aload_n (pc' := 1) hM173 rfl rfl rfl ?_
  refine z_iconst (pc' := 2) hM173 rfl rfl rfl ?_
  refine z_bipush (pc' := 4) hM173 rfl rfl rfl ?_
  refine z_iload_n (pc' := 5) hM173 rfl rfl rfl ?_
  obtain ⟨z1, s2, h3, hm⟩ := o_c hm
  refine z_cv (d := d + 5) (pc' := 8) hM173 rfl hM166 rfl rfl rfl rfl rfl rfl (c166 (d := d + 3) hG h3) rfl ?_
  refine z_ifeq (pc' := 11) (t := 12) hM173 rfl rfl (fun h4 => ?_) (fun h4 => ?_)
  · replace hm := o_t hm h4
    refine z_aload_n (pc' := 13) hM173 rfl rfl rfl ?_
    obtain ⟨z5, s6, h7, hm⟩ := o_c hm
    refine z_cv (d := d + 5) (pc' := 16) hM173 rfl hM168 rfl rfl rfl rfl rfl rfl (c168 (d := d) hG h7) rfl ?_
    refine z_lstore_n (pc' := 17) (l' := [some (zr 12 0 209), some (zi x1), some (zj z5), none, none, none, none, none]) hM173 rfl rfl rfl rfl ?_
    refine z_aload_n (pc' := 18) hM173 rfl rfl rfl ?_
    refine z_aload_n (pc' := 19) hM173 rfl rfl rfl ?_
    refine z_fldR (pc' := 22) hM173 rfl (zf_12_14 hG) rfl rfl ?_
    obtain ⟨z8, s9, h10, hm⟩ := o_c hm
    refine z_cvV (d := d + 5) (pc' := 25) hM173 rfl hM159 rfl rfl rfl rfl rfl rfl (c159 (d := d + 1) hG h10) rfl ?_
    refine z_aload_n (pc' := 26) hM173 rfl rfl rfl ?_
    refine z_iconst (pc' := 27) hM173 rfl rfl rfl ?_
    refine z_bipush (pc' := 29) hM173 rfl rfl rfl ?_
    obtain ⟨z11, s12, h13, hm⟩ := o_c hm
    refine z_cv (d := d + 5) (pc' := 32) hM173 rfl hM162 rfl rfl rfl rfl rfl rfl (c162 (d := d + 3) hG h13) rfl ?_
    refine z_istore (pc' := 34) (l' := [some (zr 12 0 209), some (zi x1), some (zj z5), none, some (zi z11), none, none, none]) hM173 rfl rfl rfl rfl ?_
    refine z_aload_n (pc' := 35) hM173 rfl rfl rfl ?_
    refine z_aload_n (pc' := 36) hM173 rfl rfl rfl ?_
    refine z_fldR (pc' := 39) hM173 rfl (zf_12_15 hG) rfl rfl ?_
    obtain ⟨z14, s15, h16, hm⟩ := o_c hm
    refine z_cvV (d := d + 5) (pc' := 42) hM173 rfl hM159 rfl rfl rfl rfl rfl rfl (c159 (d := d + 1) hG h16) rfl ?_
    refine z_aload_n (pc' := 43) hM173 rfl rfl rfl ?_
    refine z_iconst (pc' := 44) hM173 rfl rfl rfl ?_
    obtain ⟨z17, s18, h19, hm⟩ := o_c hm
    refine z_cv (d := d + 5) (pc' := 47) hM173 rfl hM169 rfl rfl rfl rfl rfl rfl (c169 (d := d) hG h19) rfl ?_
    refine z_istore (pc' := 49) (l' := [some (zr 12 0 209), some (zi x1), some (zj z5), none, some (zi z11), some (zi z17), none, none]) hM173 rfl rfl rfl rfl ?_
    refine z_aload_n (pc' := 50) hM173 rfl rfl rfl ?_
    refine z_aload_n (pc' := 51) hM173 rfl rfl rfl ?_
    refine z_fldR (pc' := 54) hM173 rfl (zf_12_16 hG) rfl rfl ?_
    obtain ⟨z20, s21, h22, hm⟩ := o_c hm
    refine z_cvV (d := d + 5) (pc' := 57) hM173 rfl hM159 rfl rfl rfl rfl rfl rfl (c159 (d := d + 1) hG h22) rfl ?_
    refine z_aload_n (pc' := 58) hM173 rfl rfl rfl ?_
    refine z_iconst (pc' := 59) hM173 rfl rfl rfl ?_
    refine z_bipush (pc' := 61) hM173 rfl rfl rfl ?_
    obtain ⟨z23, s24, h25, hm⟩ := o_c hm
    refine z_cv (d := d + 5) (pc' := 64) hM173 rfl hM162 rfl rfl rfl rfl rfl rfl (c162 (d := d + 3) hG h25) rfl ?_
    refine z_istore (pc' := 66) (l' := [some (zr 12 0 209), some (zi x1), some (zj z5), none, some (zi z11), some (zi z17), some (zi z23), none]) hM173 rfl rfl rfl rfl ?_
    refine z_aload_n (pc' := 67) hM173 rfl rfl rfl ?_
    obtain ⟨z26, ez26, hm⟩ := o_v hm
    refine z_fldI (pc' := 70) hM173 rfl rfl rfl ez26 ?_
    refine z_ifeq (pc' := 73) (t := 74) hM173 rfl rfl (fun h27 => ?_) (fun h27 => ?_)
    · replace hm := o_t hm h27
      refine z_iconst (pc' := 75) hM173 rfl rfl rfl ?_
      refine z_aload_n (pc' := 76) hM173 rfl rfl rfl ?_
      refine z_iconst (pc' := 77) hM173 rfl rfl rfl ?_
      refine z_lload_n (pc' := 78) hM173 rfl rfl rfl ?_
      obtain ⟨z28, s29, h30, hm⟩ := o_c hm
      refine z_cv (d := d + 5) (pc' := 81) hM173 rfl hM170 rfl rfl rfl rfl rfl rfl (c170 (d := d + 4) hG h30) rfl ?_
      obtain ⟨z31, ez31, h32, hm⟩ := o_z hm
      refine z_imul (pc' := 82) hM173 rfl rfl ez31 h32 ?_
      refine z_istore (pc' := 84) (l' := [some (zr 12 0 209), some (zi x1), some (zj z5), none, some (zi z11), some (zi z17), some (zi z23), some (zi z31)]) hM173 rfl rfl rfl rfl ?_
      refine z_aload_n (pc' := 85) hM173 rfl rfl rfl ?_
      refine z_fldR (pc' := 88) hM173 rfl (zf_12_44 hG) rfl rfl ?_
      refine z_iload (pc' := 90) hM173 rfl rfl rfl ?_
      refine z_iload (pc' := 92) hM173 rfl rfl rfl ?_
      obtain ⟨h34, hm⟩ := o_x hm
      obtain ⟨s33, es33, hm⟩ := o_v hm
      refine z_iast (pc' := 93) hM173 rfl rfl h34 es33 ?_
      refine z_aload_n (pc' := 94) hM173 rfl rfl rfl ?_
      refine z_fldR (pc' := 97) hM173 rfl (zf_12_44 hG) rfl rfl ?_
      refine z_iload (pc' := 99) hM173 rfl rfl rfl ?_
      refine z_iconst (pc' := 100) hM173 rfl rfl rfl ?_
      obtain ⟨z35, ez35, h36, hm⟩ := o_z hm
      refine z_iadd (pc' := 101) hM173 rfl rfl ez35 h36 ?_
      refine z_iload (pc' := 103) hM173 rfl rfl rfl ?_
      obtain ⟨h38, hm⟩ := o_x hm
      obtain ⟨s37, es37, hm⟩ := o_v hm
      refine z_iast (pc' := 104) hM173 rfl rfl h38 es37 ?_
      refine z_aload_n (pc' := 105) hM173 rfl rfl rfl ?_
      refine z_fldR (pc' := 108) hM173 rfl (zf_12_44 hG) rfl rfl ?_
      refine z_iload (pc' := 110) hM173 rfl rfl rfl ?_
      refine z_iconst (pc' := 111) hM173 rfl rfl rfl ?_
      obtain ⟨z39, ez39, h40, hm⟩ := o_z hm
      refine z_iadd (pc' := 112) hM173 rfl rfl ez39 h40 ?_
      refine z_iload (pc' := 114) hM173 rfl rfl rfl ?_
      obtain ⟨h42, hm⟩ := o_x hm
      obtain ⟨s41, es41, hm⟩ := o_v hm
      refine z_iast (pc' := 115) hM173 rfl rfl h42 es41 ?_
      cases hm
      exact z_retV hM173 rfl rfl ⟨rfl, rfl⟩
    · replace hm := o_f hm h27
      cases hm
      exact z_retV hM173 rfl rfl ⟨rfl, rfl⟩
  · replace hm := o_f hm h4
    cases hm
    exact z_retV hM173 rfl rfl ⟨rfl, rfl⟩
def m174_84 : Nat → Int → Int → Int → Int → Int → Int → zS → Option (Int × zS)
  | 0, _, _, _, _, _, _, _ => none
  | n + 1, x2, x4, x5, x6, x7, x8, s => oX (2 : Int) 8 (oV (s.1 242 (2 : Int)) fun z1 => if x8 < z1 then oV (s.1 209 5) fun z4 => if z4 = (0 : Int) then oX x8 6 (oV (s.1 247 x8) fun z6 => if z6 = x7 then oV (s.1 209 40) fun z9 => oC (m153 (3 : Int) z9 s) fun z10 s11 => oZ (x8 + (1 : Int)) fun z13 => m174_84 n x2 x4 x5 x6 x7 z13 s11 else oZ (x8 + (1 : Int)) fun z15 => m174_84 n x2 x4 x5 x6 x7 z15 s) else oZ (x8 + (1 : Int)) fun z17 => m174_84 n x2 x4 x5 x6 x7 z17 s else oV (s.1 209 5) fun z19 => if z19 = (0 : Int) then oC (m170 (2 : Int) x2 s) fun z21 s22 => oZ ((3 : Int) * z21) fun z24 => oX z24 36 (oV (sI s22 246 z24 x4) fun s26 => oZ ((3 : Int) * z21) fun z28 => oZ (z28 + (1 : Int)) fun z30 => oX z30 36 (oV (sI s26 246 z30 x5) fun s32 => oZ ((3 : Int) * z21) fun z34 => oZ (z34 + (2 : Int)) fun z36 => oX z36 36 (oV (sI s32 246 z36 x6) fun s38 => oX z21 6 (oV (sI s38 247 z21 x7) fun s40 => some (0, s40))))) else some (0, s))
set_option maxRecDepth 20000 in
theorem c174_84 {G : aHp} {d : Nat} (hG : zG G) : ∀ {n : Nat} {x2 : Int} {x4 : Int} {x5 : Int} {x6 : Int} {x7 : Int} {x8 : Int} {d1 d3 : Option zV} {s : zS} {r_ : Int} {s_ : zS}, m174_84 n x2 x4 x5 x6 x7 x8 s = some (r_, s_) → Zp G (d + 6) 174 84 [some (zr 12 0 209), d1, some (zj x2), d3, some (zi x4), some (zi x5), some (zi x6), some (zi x7), some (zi x8)] [] s (zRet none s_) := by
  intro n
  induction n with
  | zero => intro x2 x4 x5 x6 x7 x8 d1 d3 s r_ s_ hm; cases hm
  | succ n ih =>
  intro x2 x4 x5 x6 x7 x8 d1 d3 s r_ s_ hm
  replace hm : (oX (2 : Int) 8 (oV (s.1 242 (2 : Int)) fun z1 => if x8 < z1 then oV (s.1 209 5) fun z4 => if z4 = (0 : Int) then oX x8 6 (oV (s.1 247 x8) fun z6 => if z6 = x7 then oV (s.1 209 40) fun z9 => oC (m153 (3 : Int) z9 s) fun z10 s11 => oZ (x8 + (1 : Int)) fun z13 => m174_84 n x2 x4 x5 x6 x7 z13 s11 else oZ (x8 + (1 : Int)) fun z15 => m174_84 n x2 x4 x5 x6 x7 z15 s) else oZ (x8 + (1 : Int)) fun z17 => m174_84 n x2 x4 x5 x6 x7 z17 s else oV (s.1 209 5) fun z19 => if z19 = (0 : Int) then oC (m170 (2 : Int) x2 s) fun z21 s22 => oZ ((3 : Int) * z21) fun z24 => oX z24 36 (oV (sI s22 246 z24 x4) fun s26 => oZ ((3 : Int) * z21) fun z28 => oZ (z28 + (1 : Int)) fun z30 => oX z30 36 (oV (sI s26 246 z30 x5) fun s32 => oZ ((3 : Int) * z21) fun z34 => oZ (z34 + (2 : Int)) fun z36 => oX z36 36 (oV (sI s32 246 z36 x6) fun s38 => oX z21 6 (oV (sI s38 247 z21 x7) fun s40 => some (0, s40))))) else some (0, s))) = some (r_, s_) := hm
  refine z_iload (pc' := 86) hM174 rfl rfl rfl ?_
  refine z_aload_n (pc' := 87) hM174 rfl rfl rfl ?_
  refine z_fldR (pc' := 90) hM174 rfl (zf_12_41 hG) rfl rfl ?_
  refine z_iconst (pc' := 91) hM174 rfl rfl rfl ?_
  obtain ⟨h2, hm⟩ := o_x hm
  obtain ⟨z1, ez1, hm⟩ := o_v hm
  refine z_iald (pc' := 92) (zGN hG) hM174 rfl rfl h2 ez1 ?_
  refine z_cmpge (pc' := 95) (t := 129) hM174 rfl rfl (fun h3 => ?_) (fun h3 => ?_)
  · replace hm := o_t hm h3
    refine z_aload_n (pc' := 96) hM174 rfl rfl rfl ?_
    obtain ⟨z4, ez4, hm⟩ := o_v hm
    refine z_fldI (pc' := 99) hM174 rfl rfl rfl ez4 ?_
    refine z_ifne (pc' := 102) (t := 123) hM174 rfl rfl (fun h5 => ?_) (fun h5 => ?_)
    · replace hm := o_t hm h5
      refine z_aload_n (pc' := 103) hM174 rfl rfl rfl ?_
      refine z_fldR (pc' := 106) hM174 rfl (zf_12_46 hG) rfl rfl ?_
      refine z_iload (pc' := 108) hM174 rfl rfl rfl ?_
      obtain ⟨h7, hm⟩ := o_x hm
      obtain ⟨z6, ez6, hm⟩ := o_v hm
      refine z_iald (pc' := 109) (zGN hG) hM174 rfl rfl h7 ez6 ?_
      refine z_iload (pc' := 111) hM174 rfl rfl rfl ?_
      refine z_cmpne (pc' := 114) (t := 123) hM174 rfl rfl (fun h8 => ?_) (fun h8 => ?_)
      · replace hm := o_t hm h8
        refine z_aload_n (pc' := 115) hM174 rfl rfl rfl ?_
        refine z_iconst (pc' := 116) hM174 rfl rfl rfl ?_
        refine z_aload_n (pc' := 117) hM174 rfl rfl rfl ?_
        obtain ⟨z9, ez9, hm⟩ := o_v hm
        refine z_fldI (pc' := 120) hM174 rfl rfl rfl ez9 ?_
        obtain ⟨z10, s11, h12, hm⟩ := o_c hm
        refine z_cvV (d := d + 5) (pc' := 123) hM174 rfl hM153 rfl rfl rfl rfl rfl rfl (c153 (d := d + 4) hG h12) rfl ?_
        obtain ⟨z13, ez13, h14, hm⟩ := o_z hm
        refine z_iinc (pc' := 126) (l' := [some (zr 12 0 209), d1, some (zj x2), d3, some (zi x4), some (zi x5), some (zi x6), some (zi x7), some (zi z13)]) hM174 rfl rfl rfl ez13 h14 rfl rfl ?_
        refine z_goto (t := 84) hM174 rfl ?_
        exact ih hm
      · replace hm := o_f hm h8
        obtain ⟨z15, ez15, h16, hm⟩ := o_z hm
        refine z_iinc (pc' := 126) (l' := [some (zr 12 0 209), d1, some (zj x2), d3, some (zi x4), some (zi x5), some (zi x6), some (zi x7), some (zi z15)]) hM174 rfl rfl rfl ez15 h16 rfl rfl ?_
        refine z_goto (t := 84) hM174 rfl ?_
        exact ih hm
    · replace hm := o_f hm h5
      obtain ⟨z17, ez17, h18, hm⟩ := o_z hm
      refine z_iinc (pc' := 126) (l' := [some (zr 12 0 209), d1, some (zj x2), d3, some (zi x4), some (zi x5), some (zi x6), some (zi x7), some (zi z17)]) hM174 rfl rfl rfl ez17 h18 rfl rfl ?_
      refine z_goto (t := 84) hM174 rfl ?_
      exact ih hm
  · replace hm := o_f hm h3
    refine z_aload_n (pc' := 130) hM174 rfl rfl rfl ?_
    obtain ⟨z19, ez19, hm⟩ := o_v hm
    refine z_fldI (pc' := 133) hM174 rfl rfl rfl ez19 ?_
    refine z_ifeq (pc' := 136) (t := 137) hM174 rfl rfl (fun h20 => ?_) (fun h20 => ?_)
    · replace hm := o_t hm h20
      refine z_aload_n (pc' := 138) hM174 rfl rfl rfl ?_
      refine z_iconst (pc' := 139) hM174 rfl rfl rfl ?_
      refine z_lload_n (pc' := 140) hM174 rfl rfl rfl ?_
      obtain ⟨z21, s22, h23, hm⟩ := o_c hm
      refine z_cv (d := d + 5) (pc' := 143) hM174 rfl hM170 rfl rfl rfl rfl rfl rfl (c170 (d := d + 4) hG h23) rfl ?_
      refine z_istore (pc' := 145) (l' := [some (zr 12 0 209), d1, some (zj x2), d3, some (zi x4), some (zi x5), some (zi x6), some (zi x7), some (zi z21)]) hM174 rfl rfl rfl rfl ?_
      refine z_aload_n (pc' := 146) hM174 rfl rfl rfl ?_
      refine z_fldR (pc' := 149) hM174 rfl (zf_12_45 hG) rfl rfl ?_
      refine z_iconst (pc' := 150) hM174 rfl rfl rfl ?_
      refine z_iload (pc' := 152) hM174 rfl rfl rfl ?_
      obtain ⟨z24, ez24, h25, hm⟩ := o_z hm
      refine z_imul (pc' := 153) hM174 rfl rfl ez24 h25 ?_
      refine z_iload (pc' := 155) hM174 rfl rfl rfl ?_
      obtain ⟨h27, hm⟩ := o_x hm
      obtain ⟨s26, es26, hm⟩ := o_v hm
      refine z_iast (pc' := 156) hM174 rfl rfl h27 es26 ?_
      refine z_aload_n (pc' := 157) hM174 rfl rfl rfl ?_
      refine z_fldR (pc' := 160) hM174 rfl (zf_12_45 hG) rfl rfl ?_
      refine z_iconst (pc' := 161) hM174 rfl rfl rfl ?_
      refine z_iload (pc' := 163) hM174 rfl rfl rfl ?_
      obtain ⟨z28, ez28, h29, hm⟩ := o_z hm
      refine z_imul (pc' := 164) hM174 rfl rfl ez28 h29 ?_
      refine z_iconst (pc' := 165) hM174 rfl rfl rfl ?_
      obtain ⟨z30, ez30, h31, hm⟩ := o_z hm
      refine z_iadd (pc' := 166) hM174 rfl rfl ez30 h31 ?_
      refine z_iload (pc' := 168) hM174 rfl rfl rfl ?_
      obtain ⟨h33, hm⟩ := o_x hm
      obtain ⟨s32, es32, hm⟩ := o_v hm
      refine z_iast (pc' := 169) hM174 rfl rfl h33 es32 ?_
      refine z_aload_n (pc' := 170) hM174 rfl rfl rfl ?_
      refine z_fldR (pc' := 173) hM174 rfl (zf_12_45 hG) rfl rfl ?_
      refine z_iconst (pc' := 174) hM174 rfl rfl rfl ?_
      refine z_iload (pc' := 176) hM174 rfl rfl rfl ?_
      obtain ⟨z34, ez34, h35, hm⟩ := o_z hm
      refine z_imul (pc' := 177) hM174 rfl rfl ez34 h35 ?_
      refine z_iconst (pc' := 178) hM174 rfl rfl rfl ?_
      obtain ⟨z36, ez36, h37, hm⟩ := o_z hm
      refine z_iadd (pc' := 179) hM174 rfl rfl ez36 h37 ?_
      refine z_iload (pc' := 181) hM174 rfl rfl rfl ?_
      obtain ⟨h39, hm⟩ := o_x hm
      obtain ⟨s38, es38, hm⟩ := o_v hm
      refine z_iast (pc' := 182) hM174 rfl rfl h39 es38 ?_
      refine z_aload_n (pc' := 183) hM174 rfl rfl rfl ?_
      refine z_fldR (pc' := 186) hM174 rfl (zf_12_46 hG) rfl rfl ?_
      refine z_iload (pc' := 188) hM174 rfl rfl rfl ?_
      refine z_iload (pc' := 190) hM174 rfl rfl rfl ?_
      obtain ⟨h41, hm⟩ := o_x hm
      obtain ⟨s40, es40, hm⟩ := o_v hm
      refine z_iast (pc' := 191) hM174 rfl rfl h41 es40 ?_
      cases hm
      exact z_retV hM174 rfl rfl ⟨rfl, rfl⟩
    · replace hm := o_f hm h20
      cases hm
      exact z_retV hM174 rfl rfl ⟨rfl, rfl⟩
def m174 (x1 : Int) (s : zS) : Option (Int × zS) := oC (m166 (2 : Int) (6 : Int) x1 s) fun z1 s2 => if z1 = (0 : Int) then oC (m168 s2) fun z5 s6 => oC (m159 4 216 s6) fun z8 s9 => oC (m162 (1 : Int) (50 : Int) s9) fun z11 s12 => oC (m159 4 220 s12) fun z14 s15 => oC (m162 (0 : Int) (99 : Int) s15) fun z17 s18 => oC (m159 2 221 s18) fun z20 s21 => oC (m169 (0 : Int) s21) fun z23 s24 => oC (m159 2 222 s24) fun z26 s27 => oC (m169 (1 : Int) s27) fun z29 s30 => m174_84 zFu z5 z11 z17 z23 z29 (0 : Int) s30 else some (0, s2)
set_option maxRecDepth 20000 in
theorem c174 {G : aHp} {d : Nat} (hG : zG G) {x1 : Int} {s : zS} {r_ : Int} {s_ : zS} (hm : m174 x1 s = some (r_, s_)) : Zp G (d + 6) 174 0 [some (zr 12 0 209), some (zi x1), none, none, none, none, none, none, none] [] s (zRet none s_) := by
  replace hm : (oC (m166 (2 : Int) (6 : Int) x1 s) fun z1 s2 => if z1 = (0 : Int) then oC (m168 s2) fun z5 s6 => oC (m159 4 216 s6) fun z8 s9 => oC (m162 (1 : Int) (50 : Int) s9) fun z11 s12 => oC (m159 4 220 s12) fun z14 s15 => oC (m162 (0 : Int) (99 : Int) s15) fun z17 s18 => oC (m159 2 221 s18) fun z20 s21 => oC (m169 (0 : Int) s21) fun z23 s24 => oC (m159 2 222 s24) fun z26 s27 => oC (m169 (1 : Int) s27) fun z29 s30 => m174_84 zFu z5 z11 z17 z23 z29 (0 : Int) s30 else some (0, s2)) = some (r_, s_) := hm
  refine z_aload_n (pc' := 1) hM174 rfl rfl rfl ?_
  refine z_iconst (pc' := 2) hM174 rfl rfl rfl ?_
  refine z_bipush (pc' := 4) hM174 rfl rfl rfl ?_
  refine z_iload_n (pc' := 5) hM174 rfl rfl rfl ?_
  obtain ⟨z1, s2, h3, hm⟩ := o_c hm
  refine z_cv (d := d + 5) (pc' := 8) hM174 rfl hM166 rfl rfl rfl rfl rfl rfl (c166 (d := d + 3) hG h3) rfl ?_
  refine z_ifeq (pc' := 11) (t := 12) hM174 rfl rfl (fun h4 => ?_) (fun h4 => ?_)
  · replace hm := o_t hm h4
    refine z_aload_n (pc' := 13) hM174 rfl rfl rfl ?_
    obtain ⟨z5, s6, h7, hm⟩ := o_c hm
    refine z_cv (d := d + 5) (pc' := 16) hM174 rfl hM168 rfl rfl rfl rfl rfl rfl (c168 (d := d) hG h7) rfl ?_
    refine z_lstore_n (pc' := 17) (l' := [some (zr 12 0 209), some (zi x1), some (zj z5), none, none, none, none, none, none]) hM174 rfl rfl rfl rfl ?_
    refine z_aload_n (pc' := 18) hM174 rfl rfl rfl ?_
    refine z_aload_n (pc' := 19) hM174 rfl rfl rfl ?_
    refine z_fldR (pc' := 22) hM174 rfl (zf_12_14 hG) rfl rfl ?_
    obtain ⟨z8, s9, h10, hm⟩ := o_c hm
    refine z_cvV (d := d + 5) (pc' := 25) hM174 rfl hM159 rfl rfl rfl rfl rfl rfl (c159 (d := d + 1) hG h10) rfl ?_
    refine z_aload_n (pc' := 26) hM174 rfl rfl rfl ?_
    refine z_iconst (pc' := 27) hM174 rfl rfl rfl ?_
    refine z_bipush (pc' := 29) hM174 rfl rfl rfl ?_
    obtain ⟨z11, s12, h13, hm⟩ := o_c hm
    refine z_cv (d := d + 5) (pc' := 32) hM174 rfl hM162 rfl rfl rfl rfl rfl rfl (c162 (d := d + 3) hG h13) rfl ?_
    refine z_istore (pc' := 34) (l' := [some (zr 12 0 209), some (zi x1), some (zj z5), none, some (zi z11), none, none, none, none]) hM174 rfl rfl rfl rfl ?_
    refine z_aload_n (pc' := 35) hM174 rfl rfl rfl ?_
    refine z_aload_n (pc' := 36) hM174 rfl rfl rfl ?_
    refine z_fldR (pc' := 39) hM174 rfl (zf_12_18 hG) rfl rfl ?_
    obtain ⟨z14, s15, h16, hm⟩ := o_c hm
    refine z_cvV (d := d + 5) (pc' := 42) hM174 rfl hM159 rfl rfl rfl rfl rfl rfl (c159 (d := d + 1) hG h16) rfl ?_
    refine z_aload_n (pc' := 43) hM174 rfl rfl rfl ?_
    refine z_iconst (pc' := 44) hM174 rfl rfl rfl ?_
    refine z_bipush (pc' := 46) hM174 rfl rfl rfl ?_
    obtain ⟨z17, s18, h19, hm⟩ := o_c hm
    refine z_cv (d := d + 5) (pc' := 49) hM174 rfl hM162 rfl rfl rfl rfl rfl rfl (c162 (d := d + 3) hG h19) rfl ?_
    refine z_istore (pc' := 51) (l' := [some (zr 12 0 209), some (zi x1), some (zj z5), none, some (zi z11), some (zi z17), none, none, none]) hM174 rfl rfl rfl rfl ?_
    refine z_aload_n (pc' := 52) hM174 rfl rfl rfl ?_
    refine z_aload_n (pc' := 53) hM174 rfl rfl rfl ?_
    refine z_fldR (pc' := 56) hM174 rfl (zf_12_19 hG) rfl rfl ?_
    obtain ⟨z20, s21, h22, hm⟩ := o_c hm
    refine z_cvV (d := d + 5) (pc' := 59) hM174 rfl hM159 rfl rfl rfl rfl rfl rfl (c159 (d := d + 1) hG h22) rfl ?_
    refine z_aload_n (pc' := 60) hM174 rfl rfl rfl ?_
    refine z_iconst (pc' := 61) hM174 rfl rfl rfl ?_
    obtain ⟨z23, s24, h25, hm⟩ := o_c hm
    refine z_cv (d := d + 5) (pc' := 64) hM174 rfl hM169 rfl rfl rfl rfl rfl rfl (c169 (d := d) hG h25) rfl ?_
    refine z_istore (pc' := 66) (l' := [some (zr 12 0 209), some (zi x1), some (zj z5), none, some (zi z11), some (zi z17), some (zi z23), none, none]) hM174 rfl rfl rfl rfl ?_
    refine z_aload_n (pc' := 67) hM174 rfl rfl rfl ?_
    refine z_aload_n (pc' := 68) hM174 rfl rfl rfl ?_
    refine z_fldR (pc' := 71) hM174 rfl (zf_12_20 hG) rfl rfl ?_
    obtain ⟨z26, s27, h28, hm⟩ := o_c hm
    refine z_cvV (d := d + 5) (pc' := 74) hM174 rfl hM159 rfl rfl rfl rfl rfl rfl (c159 (d := d + 1) hG h28) rfl ?_
    refine z_aload_n (pc' := 75) hM174 rfl rfl rfl ?_
    refine z_iconst (pc' := 76) hM174 rfl rfl rfl ?_
    obtain ⟨z29, s30, h31, hm⟩ := o_c hm
    refine z_cv (d := d + 5) (pc' := 79) hM174 rfl hM169 rfl rfl rfl rfl rfl rfl (c169 (d := d) hG h31) rfl ?_
    refine z_istore (pc' := 81) (l' := [some (zr 12 0 209), some (zi x1), some (zj z5), none, some (zi z11), some (zi z17), some (zi z23), some (zi z29), none]) hM174 rfl rfl rfl rfl ?_
    refine z_iconst (pc' := 82) hM174 rfl rfl rfl ?_
    refine z_istore (pc' := 84) (l' := [some (zr 12 0 209), some (zi x1), some (zj z5), none, some (zi z11), some (zi z17), some (zi z23), some (zi z29), some (zi (0 : Int))]) hM174 rfl rfl rfl rfl ?_
    exact c174_84 hG hm
  · replace hm := o_f hm h4
    cases hm
    exact z_retV hM174 rfl rfl ⟨rfl, rfl⟩
def m255  (s : zS) : Option (Int × zS) := oC (m157 5 275 s) fun z1 s2 => if z1 = (0 : Int) then oC (m157 5 276 s2) fun z5 s6 => if z5 = (0 : Int) then oC (m157 6 277 s6) fun z9 s10 => if z9 = (0 : Int) then oC (m157 4 278 s10) fun z13 s14 => if z13 = (0 : Int) then oC (m157 3 279 s14) fun z17 s18 => if z17 = (0 : Int) then oC (m157 6 280 s18) fun z21 s22 => if z21 = (0 : Int) then oC (m157 4 281 s22) fun z25 s26 => if z25 = (0 : Int) then oC (m157 4 282 s26) fun z29 s30 => if z29 = (0 : Int) then oC (m157 5 283 s30) fun z33 s34 => if z33 = (0 : Int) then oC (m157 3 284 s34) fun z37 s38 => if z37 = (0 : Int) then some ((-1 : Int), s38) else some ((9 : Int), s38) else some ((8 : Int), s34) else some ((7 : Int), s30) else some ((6 : Int), s26) else some ((5 : Int), s22) else some ((4 : Int), s18) else some ((3 : Int), s14) else some ((2 : Int), s10) else some ((1 : Int), s6) else some ((0 : Int), s2)
theorem c255 {G : aHp} {d : Nat} (hG : zG G) {s : zS} {r_ : Int} {s_ : zS} (hm : m255  s = some (r_, s_)) : Zp G (d + 3) 255 0 [some (zr 12 0 209)] [] s (zRet (some (zi r_)) s_) := by
  replace hm : (oC (m157 5 275 s) fun z1 s2 => if z1 = (0 : Int) then oC (m157 5 276 s2) fun z5 s6 => if z5 = (0 : Int) then oC (m157 6 277 s6) fun z9 s10 => if z9 = (0 : Int) then oC (m157 4 278 s10) fun z13 s14 => if z13 = (0 : Int) then oC (m157 3 279 s14) fun z17 s18 => if z17 = (0 : Int) then oC (m157 6 280 s18) fun z21 s22 => if z21 = (0 : Int) then oC (m157 4 281 s22) fun z25 s26 => if z25 = (0 : Int) then oC (m157 4 282 s26) fun z29 s30 => if z29 = (0 : Int) then oC (m157 5 283 s30) fun z33 s34 => if z33 = (0 : Int) then oC (m157 3 284 s34) fun z37 s38 => if z37 = (0 : Int) then some ((-1 : Int), s38) else some ((9 : Int), s38) else some ((8 : Int), s34) else some ((7 : Int), s30) else some ((6 : Int), s26) else some ((5 : Int), s22) else some ((4 : Int), s18) else some ((3 : Int), s14) else some ((2 : Int), s10) else some ((1 : Int), s6) else some ((0 : Int), s2)) = some (r_, s_) := hm
  refine z_aload_n (pc' := 1) hM255 rfl rfl rfl ?_
  refine z_aload_n (pc' := 2) hM255 rfl rfl rfl ?_
  refine z_fldR (pc' := 5) hM255 rfl (zf_12_89 hG) rfl rfl ?_
  obtain ⟨z1, s2, h3, hm⟩ := o_c hm
  refine z_cv (d := d + 2) (pc' := 8) hM255 rfl hM157 rfl rfl rfl rfl rfl rfl (c157 (d := d) hG h3) rfl ?_
  refine z_ifeq (pc' := 11) (t := 13) hM255 rfl rfl (fun h4 => ?_) (fun h4 => ?_)
  · replace hm := o_t hm h4
    refine z_aload_n (pc' := 14) hM255 rfl rfl rfl ?_
    refine z_aload_n (pc' := 15) hM255 rfl rfl rfl ?_
    refine z_fldR (pc' := 18) hM255 rfl (zf_12_90 hG) rfl rfl ?_
    obtain ⟨z5, s6, h7, hm⟩ := o_c hm
    refine z_cv (d := d + 2) (pc' := 21) hM255 rfl hM157 rfl rfl rfl rfl rfl rfl (c157 (d := d) hG h7) rfl ?_
    refine z_ifeq (pc' := 24) (t := 26) hM255 rfl rfl (fun h8 => ?_) (fun h8 => ?_)
    · replace hm := o_t hm h8
      refine z_aload_n (pc' := 27) hM255 rfl rfl rfl ?_
      refine z_aload_n (pc' := 28) hM255 rfl rfl rfl ?_
      refine z_fldR (pc' := 31) hM255 rfl (zf_12_91 hG) rfl rfl ?_
      obtain ⟨z9, s10, h11, hm⟩ := o_c hm
      refine z_cv (d := d + 2) (pc' := 34) hM255 rfl hM157 rfl rfl rfl rfl rfl rfl (c157 (d := d) hG h11) rfl ?_
      refine z_ifeq (pc' := 37) (t := 39) hM255 rfl rfl (fun h12 => ?_) (fun h12 => ?_)
      · replace hm := o_t hm h12
        refine z_aload_n (pc' := 40) hM255 rfl rfl rfl ?_
        refine z_aload_n (pc' := 41) hM255 rfl rfl rfl ?_
        refine z_fldR (pc' := 44) hM255 rfl (zf_12_92 hG) rfl rfl ?_
        obtain ⟨z13, s14, h15, hm⟩ := o_c hm
        refine z_cv (d := d + 2) (pc' := 47) hM255 rfl hM157 rfl rfl rfl rfl rfl rfl (c157 (d := d) hG h15) rfl ?_
        refine z_ifeq (pc' := 50) (t := 52) hM255 rfl rfl (fun h16 => ?_) (fun h16 => ?_)
        · replace hm := o_t hm h16
          refine z_aload_n (pc' := 53) hM255 rfl rfl rfl ?_
          refine z_aload_n (pc' := 54) hM255 rfl rfl rfl ?_
          refine z_fldR (pc' := 57) hM255 rfl (zf_12_93 hG) rfl rfl ?_
          obtain ⟨z17, s18, h19, hm⟩ := o_c hm
          refine z_cv (d := d + 2) (pc' := 60) hM255 rfl hM157 rfl rfl rfl rfl rfl rfl (c157 (d := d) hG h19) rfl ?_
          refine z_ifeq (pc' := 63) (t := 65) hM255 rfl rfl (fun h20 => ?_) (fun h20 => ?_)
          · replace hm := o_t hm h20
            refine z_aload_n (pc' := 66) hM255 rfl rfl rfl ?_
            refine z_aload_n (pc' := 67) hM255 rfl rfl rfl ?_
            refine z_fldR (pc' := 70) hM255 rfl (zf_12_94 hG) rfl rfl ?_
            obtain ⟨z21, s22, h23, hm⟩ := o_c hm
            refine z_cv (d := d + 2) (pc' := 73) hM255 rfl hM157 rfl rfl rfl rfl rfl rfl (c157 (d := d) hG h23) rfl ?_
            refine z_ifeq (pc' := 76) (t := 78) hM255 rfl rfl (fun h24 => ?_) (fun h24 => ?_)
            · replace hm := o_t hm h24
              refine z_aload_n (pc' := 79) hM255 rfl rfl rfl ?_
              refine z_aload_n (pc' := 80) hM255 rfl rfl rfl ?_
              refine z_fldR (pc' := 83) hM255 rfl (zf_12_95 hG) rfl rfl ?_
              obtain ⟨z25, s26, h27, hm⟩ := o_c hm
              refine z_cv (d := d + 2) (pc' := 86) hM255 rfl hM157 rfl rfl rfl rfl rfl rfl (c157 (d := d) hG h27) rfl ?_
              refine z_ifeq (pc' := 89) (t := 92) hM255 rfl rfl (fun h28 => ?_) (fun h28 => ?_)
              · replace hm := o_t hm h28
                refine z_aload_n (pc' := 93) hM255 rfl rfl rfl ?_
                refine z_aload_n (pc' := 94) hM255 rfl rfl rfl ?_
                refine z_fldR (pc' := 97) hM255 rfl (zf_12_96 hG) rfl rfl ?_
                obtain ⟨z29, s30, h31, hm⟩ := o_c hm
                refine z_cv (d := d + 2) (pc' := 100) hM255 rfl hM157 rfl rfl rfl rfl rfl rfl (c157 (d := d) hG h31) rfl ?_
                refine z_ifeq (pc' := 103) (t := 106) hM255 rfl rfl (fun h32 => ?_) (fun h32 => ?_)
                · replace hm := o_t hm h32
                  refine z_aload_n (pc' := 107) hM255 rfl rfl rfl ?_
                  refine z_aload_n (pc' := 108) hM255 rfl rfl rfl ?_
                  refine z_fldR (pc' := 111) hM255 rfl (zf_12_97 hG) rfl rfl ?_
                  obtain ⟨z33, s34, h35, hm⟩ := o_c hm
                  refine z_cv (d := d + 2) (pc' := 114) hM255 rfl hM157 rfl rfl rfl rfl rfl rfl (c157 (d := d) hG h35) rfl ?_
                  refine z_ifeq (pc' := 117) (t := 120) hM255 rfl rfl (fun h36 => ?_) (fun h36 => ?_)
                  · replace hm := o_t hm h36
                    refine z_aload_n (pc' := 121) hM255 rfl rfl rfl ?_
                    refine z_aload_n (pc' := 122) hM255 rfl rfl rfl ?_
                    refine z_fldR (pc' := 125) hM255 rfl (zf_12_98 hG) rfl rfl ?_
                    obtain ⟨z37, s38, h39, hm⟩ := o_c hm
                    refine z_cv (d := d + 2) (pc' := 128) hM255 rfl hM157 rfl rfl rfl rfl rfl rfl (c157 (d := d) hG h39) rfl ?_
                    refine z_ifeq (pc' := 131) (t := 134) hM255 rfl rfl (fun h40 => ?_) (fun h40 => ?_)
                    · replace hm := o_t hm h40
                      refine z_iconst (pc' := 135) hM255 rfl rfl rfl ?_
                      cases hm
                      exact z_retI hM255 rfl rfl ⟨rfl, rfl⟩
                    · replace hm := o_f hm h40
                      refine z_bipush (pc' := 133) hM255 rfl rfl rfl ?_
                      cases hm
                      exact z_retI hM255 rfl rfl ⟨rfl, rfl⟩
                  · replace hm := o_f hm h36
                    refine z_bipush (pc' := 119) hM255 rfl rfl rfl ?_
                    cases hm
                    exact z_retI hM255 rfl rfl ⟨rfl, rfl⟩
                · replace hm := o_f hm h32
                  refine z_bipush (pc' := 105) hM255 rfl rfl rfl ?_
                  cases hm
                  exact z_retI hM255 rfl rfl ⟨rfl, rfl⟩
              · replace hm := o_f hm h28
                refine z_bipush (pc' := 91) hM255 rfl rfl rfl ?_
                cases hm
                exact z_retI hM255 rfl rfl ⟨rfl, rfl⟩
            · replace hm := o_f hm h24
              refine z_iconst (pc' := 77) hM255 rfl rfl rfl ?_
              cases hm
              exact z_retI hM255 rfl rfl ⟨rfl, rfl⟩
          · replace hm := o_f hm h20
            refine z_iconst (pc' := 64) hM255 rfl rfl rfl ?_
            cases hm
            exact z_retI hM255 rfl rfl ⟨rfl, rfl⟩
        · replace hm := o_f hm h16
          refine z_iconst (pc' := 51) hM255 rfl rfl rfl ?_
          cases hm
          exact z_retI hM255 rfl rfl ⟨rfl, rfl⟩
      · replace hm := o_f hm h12
        refine z_iconst (pc' := 38) hM255 rfl rfl rfl ?_
        cases hm
        exact z_retI hM255 rfl rfl ⟨rfl, rfl⟩
    · replace hm := o_f hm h8
      refine z_iconst (pc' := 25) hM255 rfl rfl rfl ?_
      cases hm
      exact z_retI hM255 rfl rfl ⟨rfl, rfl⟩
  · replace hm := o_f hm h4
    refine z_iconst (pc' := 12) hM255 rfl rfl rfl ?_
    cases hm
    exact z_retI hM255 rfl rfl ⟨rfl, rfl⟩
def m256 (x1 : Int) (x2 : Int) (s : zS) : Option (Int × zS) := oC (m255 s) fun z1 s2 => if z1 < x1 then some ((-1 : Int), s2) else if z1 < x2 then oC (m165 z1 s2) fun z6 s7 => if z6 = (0 : Int) then some ((-1 : Int), s7) else some (z1, s7) else some ((-1 : Int), s2)
theorem c256 {G : aHp} {d : Nat} (hG : zG G) {x1 : Int} {x2 : Int} {s : zS} {r_ : Int} {s_ : zS} (hm : m256 x1 x2 s = some (r_, s_)) : Zp G (d + 4) 256 0 [some (zr 12 0 209), some (zi x1), some (zi x2), none] [] s (zRet (some (zi r_)) s_) := by
  replace hm : (oC (m255 s) fun z1 s2 => if z1 < x1 then some ((-1 : Int), s2) else if z1 < x2 then oC (m165 z1 s2) fun z6 s7 => if z6 = (0 : Int) then some ((-1 : Int), s7) else some (z1, s7) else some ((-1 : Int), s2)) = some (r_, s_) := hm
  refine z_aload_n (pc' := 1) hM256 rfl rfl rfl ?_
  obtain ⟨z1, s2, h3, hm⟩ := o_c hm
  refine z_cv (d := d + 3) (pc' := 4) hM256 rfl hM255 rfl rfl rfl rfl rfl rfl (c255 (d := d) hG h3) rfl ?_
  refine z_istore_n (pc' := 5) (l' := [some (zr 12 0 209), some (zi x1), some (zi x2), some (zi z1)]) hM256 rfl rfl rfl rfl ?_
  refine z_iload_n (pc' := 6) hM256 rfl rfl rfl ?_
  refine z_iload_n (pc' := 7) hM256 rfl rfl rfl ?_
  refine z_cmplt (pc' := 10) (t := 27) hM256 rfl rfl (fun h4 => ?_) (fun h4 => ?_)
  · replace hm := o_t hm h4
    refine z_iconst (pc' := 28) hM256 rfl rfl rfl ?_
    cases hm
    exact z_retI hM256 rfl rfl ⟨rfl, rfl⟩
  · replace hm := o_f hm h4
    refine z_iload_n (pc' := 11) hM256 rfl rfl rfl ?_
    refine z_iload_n (pc' := 12) hM256 rfl rfl rfl ?_
    refine z_cmpge (pc' := 15) (t := 27) hM256 rfl rfl (fun h5 => ?_) (fun h5 => ?_)
    · replace hm := o_t hm h5
      refine z_aload_n (pc' := 16) hM256 rfl rfl rfl ?_
      refine z_iload_n (pc' := 17) hM256 rfl rfl rfl ?_
      obtain ⟨z6, s7, h8, hm⟩ := o_c hm
      refine z_cv (d := d + 3) (pc' := 20) hM256 rfl hM165 rfl rfl rfl rfl rfl rfl (c165 (d := d + 2) hG h8) rfl ?_
      refine z_ifeq (pc' := 23) (t := 27) hM256 rfl rfl (fun h9 => ?_) (fun h9 => ?_)
      · replace hm := o_t hm h9
        refine z_iconst (pc' := 28) hM256 rfl rfl rfl ?_
        cases hm
        exact z_retI hM256 rfl rfl ⟨rfl, rfl⟩
      · replace hm := o_f hm h9
        refine z_iload_n (pc' := 24) hM256 rfl rfl rfl ?_
        refine z_goto (t := 28) hM256 rfl ?_
        cases hm
        exact z_retI hM256 rfl rfl ⟨rfl, rfl⟩
    · replace hm := o_f hm h5
      refine z_iconst (pc' := 28) hM256 rfl rfl rfl ?_
      cases hm
      exact z_retI hM256 rfl rfl ⟨rfl, rfl⟩
def m249 (x1 : Int) (x2 : Int) (s : zS) : Option (Int × zS) := oV (s.1 209 5) fun z1 => if z1 = (0 : Int) then oV (s.1 209 103) fun z3 => if z3 = (6 : Int) then oC (m153 (4 : Int) x2 s) fun z5 s6 => some (0, s6) else oV (s.1 209 103) fun z8 => oZ (z8 + (1 : Int)) fun z9 => oV (sI s 209 103 z9) fun s11 => oV (s11.1 209 102) fun z12 => oX z12 1700 (oV (sI s11 286 z12 x1) fun s13 => oV (s13.1 209 102) fun z15 => oZ (z15 + (1 : Int)) fun z16 => oV (sI s13 209 102 z16) fun s18 => some (0, s18)) else some (0, s)
theorem c249 {G : aHp} {d : Nat} (hG : zG G) {x1 : Int} {x2 : Int} {s : zS} {r_ : Int} {s_ : zS} (hm : m249 x1 x2 s = some (r_, s_)) : Zp G (d + 2) 249 0 [some (zr 12 0 209), some (zi x1), some (zi x2)] [] s (zRet none s_) := by
  replace hm : (oV (s.1 209 5) fun z1 => if z1 = (0 : Int) then oV (s.1 209 103) fun z3 => if z3 = (6 : Int) then oC (m153 (4 : Int) x2 s) fun z5 s6 => some (0, s6) else oV (s.1 209 103) fun z8 => oZ (z8 + (1 : Int)) fun z9 => oV (sI s 209 103 z9) fun s11 => oV (s11.1 209 102) fun z12 => oX z12 1700 (oV (sI s11 286 z12 x1) fun s13 => oV (s13.1 209 102) fun z15 => oZ (z15 + (1 : Int)) fun z16 => oV (sI s13 209 102 z16) fun s18 => some (0, s18)) else some (0, s)) = some (r_, s_) := hm
  refine z_aload_n (pc' := 1) hM249 rfl rfl rfl ?_
  obtain ⟨z1, ez1, hm⟩ := o_v hm
  refine z_fldI (pc' := 4) hM249 rfl rfl rfl ez1 ?_
  refine z_ifeq (pc' := 7) (t := 8) hM249 rfl rfl (fun h2 => ?_) (fun h2 => ?_)
  · replace hm := o_t hm h2
    refine z_aload_n (pc' := 9) hM249 rfl rfl rfl ?_
    obtain ⟨z3, ez3, hm⟩ := o_v hm
    refine z_fldI (pc' := 12) hM249 rfl rfl rfl ez3 ?_
    refine z_bipush (pc' := 14) hM249 rfl rfl rfl ?_
    refine z_cmpne (pc' := 17) (t := 24) hM249 rfl rfl (fun h4 => ?_) (fun h4 => ?_)
    · replace hm := o_t hm h4
      refine z_aload_n (pc' := 18) hM249 rfl rfl rfl ?_
      refine z_iconst (pc' := 19) hM249 rfl rfl rfl ?_
      refine z_iload_n (pc' := 20) hM249 rfl rfl rfl ?_
      obtain ⟨z5, s6, h7, hm⟩ := o_c hm
      refine z_cvV (d := d + 1) (pc' := 23) hM249 rfl hM153 rfl rfl rfl rfl rfl rfl (c153 (d := d) hG h7) rfl ?_
      cases hm
      exact z_retV hM249 rfl rfl ⟨rfl, rfl⟩
    · replace hm := o_f hm h4
      refine z_aload_n (pc' := 25) hM249 rfl rfl rfl ?_
      refine z_dupA (pc' := 26) hM249 rfl rfl ?_
      obtain ⟨z8, ez8, hm⟩ := o_v hm
      refine z_fldI (pc' := 29) hM249 rfl rfl rfl ez8 ?_
      refine z_iconst (pc' := 30) hM249 rfl rfl rfl ?_
      obtain ⟨z9, ez9, h10, hm⟩ := o_z hm
      refine z_iadd (pc' := 31) hM249 rfl rfl ez9 h10 ?_
      obtain ⟨s11, es11, hm⟩ := o_v hm
      refine z_putI (pc' := 34) hM249 rfl rfl rfl es11 ?_
      refine z_aload_n (pc' := 35) hM249 rfl rfl rfl ?_
      refine z_fldR (pc' := 38) hM249 rfl (zf_12_101 hG) rfl rfl ?_
      refine z_aload_n (pc' := 39) hM249 rfl rfl rfl ?_
      obtain ⟨z12, ez12, hm⟩ := o_v hm
      refine z_fldI (pc' := 42) hM249 rfl rfl rfl ez12 ?_
      refine z_iload_n (pc' := 43) hM249 rfl rfl rfl ?_
      obtain ⟨h14, hm⟩ := o_x hm
      obtain ⟨s13, es13, hm⟩ := o_v hm
      refine z_iast (pc' := 44) hM249 rfl rfl h14 es13 ?_
      refine z_aload_n (pc' := 45) hM249 rfl rfl rfl ?_
      refine z_dupA (pc' := 46) hM249 rfl rfl ?_
      obtain ⟨z15, ez15, hm⟩ := o_v hm
      refine z_fldI (pc' := 49) hM249 rfl rfl rfl ez15 ?_
      refine z_iconst (pc' := 50) hM249 rfl rfl rfl ?_
      obtain ⟨z16, ez16, h17, hm⟩ := o_z hm
      refine z_iadd (pc' := 51) hM249 rfl rfl ez16 h17 ?_
      obtain ⟨s18, es18, hm⟩ := o_v hm
      refine z_putI (pc' := 54) hM249 rfl rfl rfl es18 ?_
      cases hm
      exact z_retV hM249 rfl rfl ⟨rfl, rfl⟩
  · replace hm := o_f hm h2
    cases hm
    exact z_retV hM249 rfl rfl ⟨rfl, rfl⟩
def m257 (x1 : Int) (s : zS) : Option (Int × zS) := if x1 = (0 : Int) then oC (m159 5 275 s) fun z2 s3 => some (0, s3) else if x1 = (1 : Int) then oC (m159 5 276 s) fun z6 s7 => some (0, s7) else if x1 = (2 : Int) then oC (m159 6 277 s) fun z10 s11 => some (0, s11) else if x1 = (3 : Int) then oC (m159 4 278 s) fun z14 s15 => some (0, s15) else if x1 = (4 : Int) then oC (m159 3 279 s) fun z18 s19 => some (0, s19) else if x1 = (5 : Int) then oC (m159 6 280 s) fun z22 s23 => some (0, s23) else if x1 = (6 : Int) then oC (m159 4 281 s) fun z26 s27 => some (0, s27) else if x1 = (7 : Int) then oC (m159 4 282 s) fun z30 s31 => some (0, s31) else if x1 = (8 : Int) then oC (m159 5 283 s) fun z34 s35 => some (0, s35) else oC (m159 3 284 s) fun z37 s38 => some (0, s38)
theorem c257 {G : aHp} {d : Nat} (hG : zG G) {x1 : Int} {s : zS} {r_ : Int} {s_ : zS} (hm : m257 x1 s = some (r_, s_)) : Zp G (d + 5) 257 0 [some (zr 12 0 209), some (zi x1)] [] s (zRet none s_) := by
  replace hm : (if x1 = (0 : Int) then oC (m159 5 275 s) fun z2 s3 => some (0, s3) else if x1 = (1 : Int) then oC (m159 5 276 s) fun z6 s7 => some (0, s7) else if x1 = (2 : Int) then oC (m159 6 277 s) fun z10 s11 => some (0, s11) else if x1 = (3 : Int) then oC (m159 4 278 s) fun z14 s15 => some (0, s15) else if x1 = (4 : Int) then oC (m159 3 279 s) fun z18 s19 => some (0, s19) else if x1 = (5 : Int) then oC (m159 6 280 s) fun z22 s23 => some (0, s23) else if x1 = (6 : Int) then oC (m159 4 281 s) fun z26 s27 => some (0, s27) else if x1 = (7 : Int) then oC (m159 4 282 s) fun z30 s31 => some (0, s31) else if x1 = (8 : Int) then oC (m159 5 283 s) fun z34 s35 => some (0, s35) else oC (m159 3 284 s) fun z37 s38 => some (0, s38)) = some (r_, s_) := hm
  refine z_iload_n (pc' := 1) hM257 rfl rfl rfl ?_
  refine (Decidable.em (x1 = (0 : Int))).elim (fun h1 => ?_) (fun h1 => ?_)
  · replace hm := o_t hm h1
    refine z_swT (t := 52) (c := (0 : Int)) hM257 rfl h1 (by decide) rfl rfl ?_
    refine z_aload_n (pc' := 53) hM257 rfl rfl rfl ?_
    refine z_aload_n (pc' := 54) hM257 rfl rfl rfl ?_
    refine z_fldR (pc' := 57) hM257 rfl (zf_12_89 hG) rfl rfl ?_
    obtain ⟨z2, s3, h4, hm⟩ := o_c hm
    refine z_cvV (d := d + 4) (pc' := 60) hM257 rfl hM159 rfl rfl rfl rfl rfl rfl (c159 (d := d) hG h4) rfl ?_
    refine z_goto (t := 159) hM257 rfl ?_
    cases hm
    exact z_retV hM257 rfl rfl ⟨rfl, rfl⟩
  replace hm := o_f hm h1
  refine (Decidable.em (x1 = (1 : Int))).elim (fun h5 => ?_) (fun h5 => ?_)
  · replace hm := o_t hm h5
    refine z_swT (t := 63) (c := (1 : Int)) hM257 rfl h5 (by decide) rfl rfl ?_
    refine z_aload_n (pc' := 64) hM257 rfl rfl rfl ?_
    refine z_aload_n (pc' := 65) hM257 rfl rfl rfl ?_
    refine z_fldR (pc' := 68) hM257 rfl (zf_12_90 hG) rfl rfl ?_
    obtain ⟨z6, s7, h8, hm⟩ := o_c hm
    refine z_cvV (d := d + 4) (pc' := 71) hM257 rfl hM159 rfl rfl rfl rfl rfl rfl (c159 (d := d) hG h8) rfl ?_
    refine z_goto (t := 159) hM257 rfl ?_
    cases hm
    exact z_retV hM257 rfl rfl ⟨rfl, rfl⟩
  replace hm := o_f hm h5
  refine (Decidable.em (x1 = (2 : Int))).elim (fun h9 => ?_) (fun h9 => ?_)
  · replace hm := o_t hm h9
    refine z_swT (t := 74) (c := (2 : Int)) hM257 rfl h9 (by decide) rfl rfl ?_
    refine z_aload_n (pc' := 75) hM257 rfl rfl rfl ?_
    refine z_aload_n (pc' := 76) hM257 rfl rfl rfl ?_
    refine z_fldR (pc' := 79) hM257 rfl (zf_12_91 hG) rfl rfl ?_
    obtain ⟨z10, s11, h12, hm⟩ := o_c hm
    refine z_cvV (d := d + 4) (pc' := 82) hM257 rfl hM159 rfl rfl rfl rfl rfl rfl (c159 (d := d) hG h12) rfl ?_
    refine z_goto (t := 159) hM257 rfl ?_
    cases hm
    exact z_retV hM257 rfl rfl ⟨rfl, rfl⟩
  replace hm := o_f hm h9
  refine (Decidable.em (x1 = (3 : Int))).elim (fun h13 => ?_) (fun h13 => ?_)
  · replace hm := o_t hm h13
    refine z_swT (t := 85) (c := (3 : Int)) hM257 rfl h13 (by decide) rfl rfl ?_
    refine z_aload_n (pc' := 86) hM257 rfl rfl rfl ?_
    refine z_aload_n (pc' := 87) hM257 rfl rfl rfl ?_
    refine z_fldR (pc' := 90) hM257 rfl (zf_12_92 hG) rfl rfl ?_
    obtain ⟨z14, s15, h16, hm⟩ := o_c hm
    refine z_cvV (d := d + 4) (pc' := 93) hM257 rfl hM159 rfl rfl rfl rfl rfl rfl (c159 (d := d) hG h16) rfl ?_
    refine z_goto (t := 159) hM257 rfl ?_
    cases hm
    exact z_retV hM257 rfl rfl ⟨rfl, rfl⟩
  replace hm := o_f hm h13
  refine (Decidable.em (x1 = (4 : Int))).elim (fun h17 => ?_) (fun h17 => ?_)
  · replace hm := o_t hm h17
    refine z_swT (t := 96) (c := (4 : Int)) hM257 rfl h17 (by decide) rfl rfl ?_
    refine z_aload_n (pc' := 97) hM257 rfl rfl rfl ?_
    refine z_aload_n (pc' := 98) hM257 rfl rfl rfl ?_
    refine z_fldR (pc' := 101) hM257 rfl (zf_12_93 hG) rfl rfl ?_
    obtain ⟨z18, s19, h20, hm⟩ := o_c hm
    refine z_cvV (d := d + 4) (pc' := 104) hM257 rfl hM159 rfl rfl rfl rfl rfl rfl (c159 (d := d) hG h20) rfl ?_
    refine z_goto (t := 159) hM257 rfl ?_
    cases hm
    exact z_retV hM257 rfl rfl ⟨rfl, rfl⟩
  replace hm := o_f hm h17
  refine (Decidable.em (x1 = (5 : Int))).elim (fun h21 => ?_) (fun h21 => ?_)
  · replace hm := o_t hm h21
    refine z_swT (t := 107) (c := (5 : Int)) hM257 rfl h21 (by decide) rfl rfl ?_
    refine z_aload_n (pc' := 108) hM257 rfl rfl rfl ?_
    refine z_aload_n (pc' := 109) hM257 rfl rfl rfl ?_
    refine z_fldR (pc' := 112) hM257 rfl (zf_12_94 hG) rfl rfl ?_
    obtain ⟨z22, s23, h24, hm⟩ := o_c hm
    refine z_cvV (d := d + 4) (pc' := 115) hM257 rfl hM159 rfl rfl rfl rfl rfl rfl (c159 (d := d) hG h24) rfl ?_
    refine z_goto (t := 159) hM257 rfl ?_
    cases hm
    exact z_retV hM257 rfl rfl ⟨rfl, rfl⟩
  replace hm := o_f hm h21
  refine (Decidable.em (x1 = (6 : Int))).elim (fun h25 => ?_) (fun h25 => ?_)
  · replace hm := o_t hm h25
    refine z_swT (t := 118) (c := (6 : Int)) hM257 rfl h25 (by decide) rfl rfl ?_
    refine z_aload_n (pc' := 119) hM257 rfl rfl rfl ?_
    refine z_aload_n (pc' := 120) hM257 rfl rfl rfl ?_
    refine z_fldR (pc' := 123) hM257 rfl (zf_12_95 hG) rfl rfl ?_
    obtain ⟨z26, s27, h28, hm⟩ := o_c hm
    refine z_cvV (d := d + 4) (pc' := 126) hM257 rfl hM159 rfl rfl rfl rfl rfl rfl (c159 (d := d) hG h28) rfl ?_
    refine z_goto (t := 159) hM257 rfl ?_
    cases hm
    exact z_retV hM257 rfl rfl ⟨rfl, rfl⟩
  replace hm := o_f hm h25
  refine (Decidable.em (x1 = (7 : Int))).elim (fun h29 => ?_) (fun h29 => ?_)
  · replace hm := o_t hm h29
    refine z_swT (t := 129) (c := (7 : Int)) hM257 rfl h29 (by decide) rfl rfl ?_
    refine z_aload_n (pc' := 130) hM257 rfl rfl rfl ?_
    refine z_aload_n (pc' := 131) hM257 rfl rfl rfl ?_
    refine z_fldR (pc' := 134) hM257 rfl (zf_12_96 hG) rfl rfl ?_
    obtain ⟨z30, s31, h32, hm⟩ := o_c hm
    refine z_cvV (d := d + 4) (pc' := 137) hM257 rfl hM159 rfl rfl rfl rfl rfl rfl (c159 (d := d) hG h32) rfl ?_
    refine z_goto (t := 159) hM257 rfl ?_
    cases hm
    exact z_retV hM257 rfl rfl ⟨rfl, rfl⟩
  replace hm := o_f hm h29
  refine (Decidable.em (x1 = (8 : Int))).elim (fun h33 => ?_) (fun h33 => ?_)
  · replace hm := o_t hm h33
    refine z_swT (t := 140) (c := (8 : Int)) hM257 rfl h33 (by decide) rfl rfl ?_
    refine z_aload_n (pc' := 141) hM257 rfl rfl rfl ?_
    refine z_aload_n (pc' := 142) hM257 rfl rfl rfl ?_
    refine z_fldR (pc' := 145) hM257 rfl (zf_12_97 hG) rfl rfl ?_
    obtain ⟨z34, s35, h36, hm⟩ := o_c hm
    refine z_cvV (d := d + 4) (pc' := 148) hM257 rfl hM159 rfl rfl rfl rfl rfl rfl (c159 (d := d) hG h36) rfl ?_
    refine z_goto (t := 159) hM257 rfl ?_
    cases hm
    exact z_retV hM257 rfl rfl ⟨rfl, rfl⟩
  replace hm := o_f hm h33
  refine z_swF (t := 151) hM257 rfl (by omega) rfl ?_
  refine z_aload_n (pc' := 152) hM257 rfl rfl rfl ?_
  refine z_aload_n (pc' := 153) hM257 rfl rfl rfl ?_
  refine z_fldR (pc' := 156) hM257 rfl (zf_12_98 hG) rfl rfl ?_
  obtain ⟨z37, s38, h39, hm⟩ := o_c hm
  refine z_cvV (d := d + 4) (pc' := 159) hM257 rfl hM159 rfl rfl rfl rfl rfl rfl (c159 (d := d) hG h39) rfl ?_
  cases hm
  exact z_retV hM257 rfl rfl ⟨rfl, rfl⟩
def m248 (x1 : Int) (s : zS) : Option (Int × zS) := oV (s.1 209 100) fun z1 => oX z1 1700 (oV (sI s 285 z1 x1) fun s2 => oV (s2.1 209 100) fun z4 => oZ (z4 + (1 : Int)) fun z5 => oV (sI s2 209 100 z5) fun s7 => some (0, s7))
theorem c248 {G : aHp} {d : Nat} (hG : zG G) {x1 : Int} {s : zS} {r_ : Int} {s_ : zS} (hm : m248 x1 s = some (r_, s_)) : Zp G (d + 1) 248 0 [some (zr 12 0 209), some (zi x1)] [] s (zRet none s_) := by
  replace hm : (oV (s.1 209 100) fun z1 => oX z1 1700 (oV (sI s 285 z1 x1) fun s2 => oV (s2.1 209 100) fun z4 => oZ (z4 + (1 : Int)) fun z5 => oV (sI s2 209 100 z5) fun s7 => some (0, s7))) = some (r_, s_) := hm
  refine z_aload_n (pc' := 1) hM248 rfl rfl rfl ?_
  refine z_fldR (pc' := 4) hM248 rfl (zf_12_99 hG) rfl rfl ?_
  refine z_aload_n (pc' := 5) hM248 rfl rfl rfl ?_
  obtain ⟨z1, ez1, hm⟩ := o_v hm
  refine z_fldI (pc' := 8) hM248 rfl rfl rfl ez1 ?_
  refine z_iload_n (pc' := 9) hM248 rfl rfl rfl ?_
  obtain ⟨h3, hm⟩ := o_x hm
  obtain ⟨s2, es2, hm⟩ := o_v hm
  refine z_iast (pc' := 10) hM248 rfl rfl h3 es2 ?_
  refine z_aload_n (pc' := 11) hM248 rfl rfl rfl ?_
  refine z_dupA (pc' := 12) hM248 rfl rfl ?_
  obtain ⟨z4, ez4, hm⟩ := o_v hm
  refine z_fldI (pc' := 15) hM248 rfl rfl rfl ez4 ?_
  refine z_iconst (pc' := 16) hM248 rfl rfl rfl ?_
  obtain ⟨z5, ez5, h6, hm⟩ := o_z hm
  refine z_iadd (pc' := 17) hM248 rfl rfl ez5 h6 ?_
  obtain ⟨s7, es7, hm⟩ := o_v hm
  refine z_putI (pc' := 20) hM248 rfl rfl rfl es7 ?_
  cases hm
  exact z_retV hM248 rfl rfl ⟨rfl, rfl⟩
def m251  (s : zS) : Option (Int × zS) := oV (s.1 209 102) fun z1 => oZ (z1 - (1 : Int)) fun z2 => oV (sI s 209 102 z2) fun s4 => oV (s4.1 209 102) fun z5 => oX z5 1700 (oV (s4.1 286 z5) fun z6 => oC (m248 z6 s4) fun z8 s9 => some (0, s9))
theorem c251 {G : aHp} {d : Nat} (hG : zG G) {s : zS} {r_ : Int} {s_ : zS} (hm : m251  s = some (r_, s_)) : Zp G (d + 2) 251 0 [some (zr 12 0 209)] [] s (zRet none s_) := by
  replace hm : (oV (s.1 209 102) fun z1 => oZ (z1 - (1 : Int)) fun z2 => oV (sI s 209 102 z2) fun s4 => oV (s4.1 209 102) fun z5 => oX z5 1700 (oV (s4.1 286 z5) fun z6 => oC (m248 z6 s4) fun z8 s9 => some (0, s9))) = some (r_, s_) := hm
  refine z_aload_n (pc' := 1) hM251 rfl rfl rfl ?_
  refine z_dupA (pc' := 2) hM251 rfl rfl ?_
  obtain ⟨z1, ez1, hm⟩ := o_v hm
  refine z_fldI (pc' := 5) hM251 rfl rfl rfl ez1 ?_
  refine z_iconst (pc' := 6) hM251 rfl rfl rfl ?_
  obtain ⟨z2, ez2, h3, hm⟩ := o_z hm
  refine z_isub (pc' := 7) hM251 rfl rfl ez2 h3 ?_
  obtain ⟨s4, es4, hm⟩ := o_v hm
  refine z_putI (pc' := 10) hM251 rfl rfl rfl es4 ?_
  refine z_aload_n (pc' := 11) hM251 rfl rfl rfl ?_
  refine z_aload_n (pc' := 12) hM251 rfl rfl rfl ?_
  refine z_fldR (pc' := 15) hM251 rfl (zf_12_101 hG) rfl rfl ?_
  refine z_aload_n (pc' := 16) hM251 rfl rfl rfl ?_
  obtain ⟨z5, ez5, hm⟩ := o_v hm
  refine z_fldI (pc' := 19) hM251 rfl rfl rfl ez5 ?_
  obtain ⟨h7, hm⟩ := o_x hm
  obtain ⟨z6, ez6, hm⟩ := o_v hm
  refine z_iald (pc' := 20) (zGN hG) hM251 rfl rfl h7 ez6 ?_
  obtain ⟨z8, s9, h10, hm⟩ := o_c hm
  refine z_cvV (d := d + 1) (pc' := 23) hM251 rfl hM248 rfl rfl rfl rfl rfl rfl (c248 (d := d) hG h10) rfl ?_
  cases hm
  exact z_retV hM251 rfl rfl ⟨rfl, rfl⟩
def m258_0 : Nat → zS → Option (Int × zS)
  | 0, _ => none
  | n + 1, s => oV (s.1 209 5) fun z1 => if z1 = (0 : Int) then oV (s.1 209 102) fun z3 => oV (s.1 209 104) fun z4 => if z4 < z3 then oV (s.1 209 102) fun z6 => oZ (z6 - (1 : Int)) fun z7 => oX z7 1700 (oV (s.1 286 z7) fun z9 => if z9 < (60 : Int) then some (0, s) else oV (s.1 209 103) fun z12 => oZ (z12 - (1 : Int)) fun z13 => oV (sI s 209 103 z13) fun s15 => oC (m251 s15) fun z16 s17 => m258_0 n s17) else some (0, s) else some (0, s)
theorem c258_0 {G : aHp} {d : Nat} (hG : zG G) : ∀ {n : Nat} {s : zS} {r_ : Int} {s_ : zS}, m258_0 n  s = some (r_, s_) → Zp G (d + 3) 258 0 [some (zr 12 0 209)] [] s (zRet none s_) := by
  intro n
  induction n with
  | zero => intro  s r_ s_ hm; cases hm
  | succ n ih =>
  intro  s r_ s_ hm
  replace hm : (oV (s.1 209 5) fun z1 => if z1 = (0 : Int) then oV (s.1 209 102) fun z3 => oV (s.1 209 104) fun z4 => if z4 < z3 then oV (s.1 209 102) fun z6 => oZ (z6 - (1 : Int)) fun z7 => oX z7 1700 (oV (s.1 286 z7) fun z9 => if z9 < (60 : Int) then some (0, s) else oV (s.1 209 103) fun z12 => oZ (z12 - (1 : Int)) fun z13 => oV (sI s 209 103 z13) fun s15 => oC (m251 s15) fun z16 s17 => m258_0 n s17) else some (0, s) else some (0, s)) = some (r_, s_) := hm
  refine z_aload_n (pc' := 1) hM258 rfl rfl rfl ?_
  obtain ⟨z1, ez1, hm⟩ := o_v hm
  refine z_fldI (pc' := 4) hM258 rfl rfl rfl ez1 ?_
  refine z_ifne (pc' := 7) (t := 51) hM258 rfl rfl (fun h2 => ?_) (fun h2 => ?_)
  · replace hm := o_t hm h2
    refine z_aload_n (pc' := 8) hM258 rfl rfl rfl ?_
    obtain ⟨z3, ez3, hm⟩ := o_v hm
    refine z_fldI (pc' := 11) hM258 rfl rfl rfl ez3 ?_
    refine z_aload_n (pc' := 12) hM258 rfl rfl rfl ?_
    obtain ⟨z4, ez4, hm⟩ := o_v hm
    refine z_fldI (pc' := 15) hM258 rfl rfl rfl ez4 ?_
    refine z_cmple (pc' := 18) (t := 51) hM258 rfl rfl (fun h5 => ?_) (fun h5 => ?_)
    · replace hm := o_t hm h5
      refine z_aload_n (pc' := 19) hM258 rfl rfl rfl ?_
      refine z_fldR (pc' := 22) hM258 rfl (zf_12_101 hG) rfl rfl ?_
      refine z_aload_n (pc' := 23) hM258 rfl rfl rfl ?_
      obtain ⟨z6, ez6, hm⟩ := o_v hm
      refine z_fldI (pc' := 26) hM258 rfl rfl rfl ez6 ?_
      refine z_iconst (pc' := 27) hM258 rfl rfl rfl ?_
      obtain ⟨z7, ez7, h8, hm⟩ := o_z hm
      refine z_isub (pc' := 28) hM258 rfl rfl ez7 h8 ?_
      obtain ⟨h10, hm⟩ := o_x hm
      obtain ⟨z9, ez9, hm⟩ := o_v hm
      refine z_iald (pc' := 29) (zGN hG) hM258 rfl rfl h10 ez9 ?_
      refine z_bipush (pc' := 31) hM258 rfl rfl rfl ?_
      refine z_cmplt (pc' := 34) (t := 51) hM258 rfl rfl (fun h11 => ?_) (fun h11 => ?_)
      · replace hm := o_t hm h11
        cases hm
        exact z_retV hM258 rfl rfl ⟨rfl, rfl⟩
      · replace hm := o_f hm h11
        refine z_aload_n (pc' := 35) hM258 rfl rfl rfl ?_
        refine z_dupA (pc' := 36) hM258 rfl rfl ?_
        obtain ⟨z12, ez12, hm⟩ := o_v hm
        refine z_fldI (pc' := 39) hM258 rfl rfl rfl ez12 ?_
        refine z_iconst (pc' := 40) hM258 rfl rfl rfl ?_
        obtain ⟨z13, ez13, h14, hm⟩ := o_z hm
        refine z_isub (pc' := 41) hM258 rfl rfl ez13 h14 ?_
        obtain ⟨s15, es15, hm⟩ := o_v hm
        refine z_putI (pc' := 44) hM258 rfl rfl rfl es15 ?_
        refine z_aload_n (pc' := 45) hM258 rfl rfl rfl ?_
        obtain ⟨z16, s17, h18, hm⟩ := o_c hm
        refine z_cvV (d := d + 2) (pc' := 48) hM258 rfl hM251 rfl rfl rfl rfl rfl rfl (c251 (d := d) hG h18) rfl ?_
        refine z_goto (t := 0) hM258 rfl ?_
        exact ih hm
    · replace hm := o_f hm h5
      cases hm
      exact z_retV hM258 rfl rfl ⟨rfl, rfl⟩
  · replace hm := o_f hm h2
    cases hm
    exact z_retV hM258 rfl rfl ⟨rfl, rfl⟩
def m258  (s : zS) : Option (Int × zS) := m258_0 zFu s
theorem c258 {G : aHp} {d : Nat} (hG : zG G) {s : zS} {r_ : Int} {s_ : zS} (hm : m258  s = some (r_, s_)) : Zp G (d + 3) 258 0 [some (zr 12 0 209)] [] s (zRet none s_) :=
  c258_0 hG hm
def m259_212 (x2 : Int) (s : zS) : Option (Int × zS) := if x2 = (-1 : Int) then oC (m162 (0 : Int) (9999 : Int) s) fun z2 s3 => oZ ((1000 : Int) + z2) fun z5 => oC (m248 z5 s3) fun z7 s8 => oC (m258 s8) fun z10 s11 => some (0, s11) else oZ ((40 : Int) + x2) fun z13 => oC (m248 z13 s) fun z15 s16 => oC (m258 s16) fun z18 s19 => some (0, s19)
set_option maxRecDepth 20000 in
theorem c259_212 {G : aHp} {d : Nat} (hG : zG G) {x2 : Int} {d1 d3 d4 d5 : Option zV} {s : zS} {r_ : Int} {s_ : zS} (hm : m259_212 x2 s = some (r_, s_)) : Zp G (d + 6) 259 212 [some (zr 12 0 209), d1, some (zi x2), d3, d4, d5] [] s (zRet none s_) := by
  replace hm : (if x2 = (-1 : Int) then oC (m162 (0 : Int) (9999 : Int) s) fun z2 s3 => oZ ((1000 : Int) + z2) fun z5 => oC (m248 z5 s3) fun z7 s8 => oC (m258 s8) fun z10 s11 => some (0, s11) else oZ ((40 : Int) + x2) fun z13 => oC (m248 z13 s) fun z15 s16 => oC (m258 s16) fun z18 s19 => some (0, s19)) = some (r_, s_) := hm
  refine z_aload_n (pc' := 213) hM259 rfl rfl rfl ?_
  refine z_iload_n (pc' := 214) hM259 rfl rfl rfl ?_
  refine z_iconst (pc' := 215) hM259 rfl rfl rfl ?_
  refine z_cmpeq (pc' := 218) (t := 225) hM259 rfl rfl (fun h1 => ?_) (fun h1 => ?_)
  · replace hm := o_t hm h1
    refine z_sipush (pc' := 228) hM259 rfl rfl rfl ?_
    refine z_aload_n (pc' := 229) hM259 rfl rfl rfl ?_
    refine z_iconst (pc' := 230) hM259 rfl rfl rfl ?_
    refine z_sipush (pc' := 233) hM259 rfl rfl rfl ?_
    obtain ⟨z2, s3, h4, hm⟩ := o_c hm
    refine z_cv (d := d + 5) (pc' := 236) hM259 rfl hM162 rfl rfl rfl rfl rfl rfl (c162 (d := d + 3) hG h4) rfl ?_
    obtain ⟨z5, ez5, h6, hm⟩ := o_z hm
    refine z_iadd (pc' := 237) hM259 rfl rfl ez5 h6 ?_
    obtain ⟨z7, s8, h9, hm⟩ := o_c hm
    refine z_cvV (d := d + 5) (pc' := 240) hM259 rfl hM248 rfl rfl rfl rfl rfl rfl (c248 (d := d + 4) hG h9) rfl ?_
    refine z_aload_n (pc' := 241) hM259 rfl rfl rfl ?_
    obtain ⟨z10, s11, h12, hm⟩ := o_c hm
    refine z_cvV (d := d + 5) (pc' := 244) hM259 rfl hM258 rfl rfl rfl rfl rfl rfl (c258 (d := d + 2) hG h12) rfl ?_
    cases hm
    exact z_retV hM259 rfl rfl ⟨rfl, rfl⟩
  · replace hm := o_f hm h1
    refine z_bipush (pc' := 220) hM259 rfl rfl rfl ?_
    refine z_iload_n (pc' := 221) hM259 rfl rfl rfl ?_
    obtain ⟨z13, ez13, h14, hm⟩ := o_z hm
    refine z_iadd (pc' := 222) hM259 rfl rfl ez13 h14 ?_
    refine z_goto (t := 237) hM259 rfl ?_
    obtain ⟨z15, s16, h17, hm⟩ := o_c hm
    refine z_cvV (d := d + 5) (pc' := 240) hM259 rfl hM248 rfl rfl rfl rfl rfl rfl (c248 (d := d + 4) hG h17) rfl ?_
    refine z_aload_n (pc' := 241) hM259 rfl rfl rfl ?_
    obtain ⟨z18, s19, h20, hm⟩ := o_c hm
    refine z_cvV (d := d + 5) (pc' := 244) hM259 rfl hM258 rfl rfl rfl rfl rfl rfl (c258 (d := d + 2) hG h20) rfl ?_
    cases hm
    exact z_retV hM259 rfl rfl ⟨rfl, rfl⟩
def m259_186  (s : zS) : Option (Int × zS) := oV (s.1 209 5) fun z1 => if z1 = (0 : Int) then oC (m256 (0 : Int) (9 : Int) s) fun z3 s4 => if z3 = (-1 : Int) then m259_212 z3 s4 else oC (m257 z3 s4) fun z7 s8 => m259_212 z3 s8 else some (0, s)
set_option maxRecDepth 20000 in
theorem c259_186 {G : aHp} {d : Nat} (hG : zG G) {d1 d2 d3 d4 d5 : Option zV} {s : zS} {r_ : Int} {s_ : zS} (hm : m259_186  s = some (r_, s_)) : Zp G (d + 6) 259 186 [some (zr 12 0 209), d1, d2, d3, d4, d5] [] s (zRet none s_) := by
  replace hm : (oV (s.1 209 5) fun z1 => if z1 = (0 : Int) then oC (m256 (0 : Int) (9 : Int) s) fun z3 s4 => if z3 = (-1 : Int) then m259_212 z3 s4 else oC (m257 z3 s4) fun z7 s8 => m259_212 z3 s8 else some (0, s)) = some (r_, s_) := hm
  refine z_aload_n (pc' := 187) hM259 rfl rfl rfl ?_
  obtain ⟨z1, ez1, hm⟩ := o_v hm
  refine z_fldI (pc' := 190) hM259 rfl rfl rfl ez1 ?_
  refine z_ifeq (pc' := 193) (t := 194) hM259 rfl rfl (fun h2 => ?_) (fun h2 => ?_)
  · replace hm := o_t hm h2
    refine z_aload_n (pc' := 195) hM259 rfl rfl rfl ?_
    refine z_iconst (pc' := 196) hM259 rfl rfl rfl ?_
    refine z_bipush (pc' := 198) hM259 rfl rfl rfl ?_
    obtain ⟨z3, s4, h5, hm⟩ := o_c hm
    refine z_cv (d := d + 5) (pc' := 201) hM259 rfl hM256 rfl rfl rfl rfl rfl rfl (c256 (d := d + 1) hG h5) rfl ?_
    refine z_istore_n (pc' := 202) (l' := [some (zr 12 0 209), zKd d1, some (zi z3), d3, d4, d5]) hM259 rfl rfl rfl rfl ?_
    refine z_iload_n (pc' := 203) hM259 rfl rfl rfl ?_
    refine z_iconst (pc' := 204) hM259 rfl rfl rfl ?_
    refine z_cmpeq (pc' := 207) (t := 212) hM259 rfl rfl (fun h6 => ?_) (fun h6 => ?_)
    · replace hm := o_t hm h6
      exact c259_212 hG hm
    · replace hm := o_f hm h6
      refine z_aload_n (pc' := 208) hM259 rfl rfl rfl ?_
      refine z_iload_n (pc' := 209) hM259 rfl rfl rfl ?_
      obtain ⟨z7, s8, h9, hm⟩ := o_c hm
      refine z_cvV (d := d + 5) (pc' := 212) hM259 rfl hM257 rfl rfl rfl rfl rfl rfl (c257 (d := d) hG h9) rfl ?_
      exact c259_212 hG hm
  · replace hm := o_f hm h2
    cases hm
    exact z_retV hM259 rfl rfl ⟨rfl, rfl⟩
def m259_139 (k2_ : Int → zS → Option (Int × zS)) (x1 : Int) (x5 : Int) (y1 : Int) (s : zS) : Option (Int × zS) := oC (m249 y1 x5 s) fun z1 s2 => oC (m161 (40 : Int) s2) fun z4 s5 => k2_ x1 s5
set_option maxRecDepth 20000 in
theorem c259_139 {G : aHp} {d : Nat} {k2_ : Int → zS → Option (Int × zS)} (hG : zG G) (hk2 : ∀ {x1 : Int} {d2 d3 d4 d5 : Option zV} {s : zS} {r_ : Int} {s_ : zS}, k2_ x1 s = some (r_, s_) → Zp G (d + 6) 259 2 [some (zr 12 0 209), some (zi x1), d2, d3, d4, d5] [] s (zRet none s_)) {x1 : Int} {x5 : Int} {y1 : Int} {d2 d3 d4 : Option zV} {s : zS} {r_ : Int} {s_ : zS} (hm : m259_139 k2_ x1 x5 y1 s = some (r_, s_)) : Zp G (d + 6) 259 139 [some (zr 12 0 209), some (zi x1), d2, d3, d4, some (zi x5)] [zi y1, zr 12 0 209] s (zRet none s_) := by
  replace hm : (oC (m249 y1 x5 s) fun z1 s2 => oC (m161 (40 : Int) s2) fun z4 s5 => k2_ x1 s5) = some (r_, s_) := hm
  refine z_iload (pc' := 141) hM259 rfl rfl rfl ?_
  obtain ⟨z1, s2, h3, hm⟩ := o_c hm
  refine z_cvV (d := d + 5) (pc' := 144) hM259 rfl hM249 rfl rfl rfl rfl rfl rfl (c249 (d := d + 3) hG h3) rfl ?_
  refine z_aload_n (pc' := 145) hM259 rfl rfl rfl ?_
  refine z_bipush (pc' := 147) hM259 rfl rfl rfl ?_
  obtain ⟨z4, s5, h6, hm⟩ := o_c hm
  refine z_cvV (d := d + 5) (pc' := 150) hM259 rfl hM161 rfl rfl rfl rfl rfl rfl (c161 (d := d + 2) hG h6) rfl ?_
  refine z_goto (t := 183) hM259 rfl ?_
  refine z_goto (t := 2) hM259 rfl ?_
  exact hk2 hm
def m259_118 (k2_ : Int → zS → Option (Int × zS)) (x1 : Int) (x4 : Int) (y0 : Int) (s : zS) : Option (Int × zS) := if y0 = (-1 : Int) then oC (m161 (40 : Int) s) fun z2 s3 => k2_ x1 s3 else if x4 = (0 : Int) then m259_139 k2_ x1 y0 (22 : Int) s else m259_139 k2_ x1 y0 (21 : Int) s
set_option maxRecDepth 20000 in
theorem c259_118 {G : aHp} {d : Nat} {k2_ : Int → zS → Option (Int × zS)} (hG : zG G) (hk2 : ∀ {x1 : Int} {d2 d3 d4 d5 : Option zV} {s : zS} {r_ : Int} {s_ : zS}, k2_ x1 s = some (r_, s_) → Zp G (d + 6) 259 2 [some (zr 12 0 209), some (zi x1), d2, d3, d4, d5] [] s (zRet none s_)) {x1 : Int} {x4 : Int} {y0 : Int} {d2 d3 d5 : Option zV} {s : zS} {r_ : Int} {s_ : zS} (hm : m259_118 k2_ x1 x4 y0 s = some (r_, s_)) : Zp G (d + 6) 259 118 [some (zr 12 0 209), some (zi x1), d2, d3, some (zi x4), d5] [zi y0] s (zRet none s_) := by
  replace hm : (if y0 = (-1 : Int) then oC (m161 (40 : Int) s) fun z2 s3 => k2_ x1 s3 else if x4 = (0 : Int) then m259_139 k2_ x1 y0 (22 : Int) s else m259_139 k2_ x1 y0 (21 : Int) s) = some (r_, s_) := hm
  refine z_istore (pc' := 120) (l' := [some (zr 12 0 209), some (zi x1), d2, d3, some (zi x4), some (zi y0)]) hM259 rfl rfl rfl rfl ?_
  refine z_iload (pc' := 122) hM259 rfl rfl rfl ?_
  refine z_iconst (pc' := 123) hM259 rfl rfl rfl ?_
  refine z_cmpeq (pc' := 126) (t := 144) hM259 rfl rfl (fun h1 => ?_) (fun h1 => ?_)
  · replace hm := o_t hm h1
    refine z_aload_n (pc' := 145) hM259 rfl rfl rfl ?_
    refine z_bipush (pc' := 147) hM259 rfl rfl rfl ?_
    obtain ⟨z2, s3, h4, hm⟩ := o_c hm
    refine z_cvV (d := d + 5) (pc' := 150) hM259 rfl hM161 rfl rfl rfl rfl rfl rfl (c161 (d := d + 2) hG h4) rfl ?_
    refine z_goto (t := 183) hM259 rfl ?_
    refine z_goto (t := 2) hM259 rfl ?_
    exact hk2 hm
  · replace hm := o_f hm h1
    refine z_aload_n (pc' := 127) hM259 rfl rfl rfl ?_
    refine z_iload (pc' := 129) hM259 rfl rfl rfl ?_
    refine z_ifeq (pc' := 132) (t := 137) hM259 rfl rfl (fun h5 => ?_) (fun h5 => ?_)
    · replace hm := o_t hm h5
      refine z_bipush (pc' := 139) hM259 rfl rfl rfl ?_
      exact c259_139 hG hk2 hm
    · replace hm := o_f hm h5
      refine z_bipush (pc' := 134) hM259 rfl rfl rfl ?_
      refine z_goto (t := 139) hM259 rfl ?_
      exact c259_139 hG hk2 hm
def m259_101 (k2_ : Int → zS → Option (Int × zS)) (x1 : Int) (x4 : Int) (s : zS) : Option (Int × zS) := oC (m156 s) fun z1 s2 => if z1 = (40 : Int) then oV (s2.1 209 2) fun z5 => m259_118 k2_ x1 x4 z5 s2 else m259_118 k2_ x1 x4 (-1 : Int) s2
set_option maxRecDepth 20000 in
theorem c259_101 {G : aHp} {d : Nat} {k2_ : Int → zS → Option (Int × zS)} (hG : zG G) (hk2 : ∀ {x1 : Int} {d2 d3 d4 d5 : Option zV} {s : zS} {r_ : Int} {s_ : zS}, k2_ x1 s = some (r_, s_) → Zp G (d + 6) 259 2 [some (zr 12 0 209), some (zi x1), d2, d3, d4, d5] [] s (zRet none s_)) {x1 : Int} {x4 : Int} {d2 d3 d5 : Option zV} {s : zS} {r_ : Int} {s_ : zS} (hm : m259_101 k2_ x1 x4 s = some (r_, s_)) : Zp G (d + 6) 259 101 [some (zr 12 0 209), some (zi x1), d2, d3, some (zi x4), d5] [] s (zRet none s_) := by
  replace hm : (oC (m156 s) fun z1 s2 => if z1 = (40 : Int) then oV (s2.1 209 2) fun z5 => m259_118 k2_ x1 x4 z5 s2 else m259_118 k2_ x1 x4 (-1 : Int) s2) = some (r_, s_) := hm
  refine z_aload_n (pc' := 102) hM259 rfl rfl rfl ?_
  obtain ⟨z1, s2, h3, hm⟩ := o_c hm
  refine z_cv (d := d + 5) (pc' := 105) hM259 rfl hM156 rfl rfl rfl rfl rfl rfl (c156 (d := d + 4) hG h3) rfl ?_
  refine z_bipush (pc' := 107) hM259 rfl rfl rfl ?_
  refine z_cmpne (pc' := 110) (t := 117) hM259 rfl rfl (fun h4 => ?_) (fun h4 => ?_)
  · replace hm := o_t hm h4
    refine z_aload_n (pc' := 111) hM259 rfl rfl rfl ?_
    obtain ⟨z5, ez5, hm⟩ := o_v hm
    refine z_fldI (pc' := 114) hM259 rfl rfl rfl ez5 ?_
    refine z_goto (t := 118) hM259 rfl ?_
    exact c259_118 hG hk2 hm
  · replace hm := o_f hm h4
    refine z_iconst (pc' := 118) hM259 rfl rfl rfl ?_
    exact c259_118 hG hk2 hm
def m259_78 (k2_ : Int → zS → Option (Int × zS)) (x1 : Int) (s : zS) : Option (Int × zS) := oC (m158 3 273 s) fun z1 s2 => if z1 = (0 : Int) then oC (m159 3 274 s2) fun z5 s6 => m259_101 k2_ x1 z1 s6 else m259_101 k2_ x1 z1 s2
set_option maxRecDepth 20000 in
theorem c259_78 {G : aHp} {d : Nat} {k2_ : Int → zS → Option (Int × zS)} (hG : zG G) (hk2 : ∀ {x1 : Int} {d2 d3 d4 d5 : Option zV} {s : zS} {r_ : Int} {s_ : zS}, k2_ x1 s = some (r_, s_) → Zp G (d + 6) 259 2 [some (zr 12 0 209), some (zi x1), d2, d3, d4, d5] [] s (zRet none s_)) {x1 : Int} {d2 d3 d4 d5 : Option zV} {s : zS} {r_ : Int} {s_ : zS} (hm : m259_78 k2_ x1 s = some (r_, s_)) : Zp G (d + 6) 259 78 [some (zr 12 0 209), some (zi x1), d2, d3, d4, d5] [] s (zRet none s_) := by
  replace hm : (oC (m158 3 273 s) fun z1 s2 => if z1 = (0 : Int) then oC (m159 3 274 s2) fun z5 s6 => m259_101 k2_ x1 z1 s6 else m259_101 k2_ x1 z1 s2) = some (r_, s_) := hm
  refine z_aload_n (pc' := 79) hM259 rfl rfl rfl ?_
  refine z_aload_n (pc' := 80) hM259 rfl rfl rfl ?_
  refine z_fldR (pc' := 83) hM259 rfl (zf_12_87 hG) rfl rfl ?_
  obtain ⟨z1, s2, h3, hm⟩ := o_c hm
  refine z_cv (d := d + 5) (pc' := 86) hM259 rfl hM158 rfl rfl rfl rfl rfl rfl (c158 (d := d + 2) hG h3) rfl ?_
  refine z_istore (pc' := 88) (l' := [some (zr 12 0 209), some (zi x1), d2, zKd d3, some (zi z1), d5]) hM259 rfl rfl rfl rfl ?_
  refine z_iload (pc' := 90) hM259 rfl rfl rfl ?_
  refine z_ifne (pc' := 93) (t := 101) hM259 rfl rfl (fun h4 => ?_) (fun h4 => ?_)
  · replace hm := o_t hm h4
    refine z_aload_n (pc' := 94) hM259 rfl rfl rfl ?_
    refine z_aload_n (pc' := 95) hM259 rfl rfl rfl ?_
    refine z_fldR (pc' := 98) hM259 rfl (zf_12_88 hG) rfl rfl ?_
    obtain ⟨z5, s6, h7, hm⟩ := o_c hm
    refine z_cvV (d := d + 5) (pc' := 101) hM259 rfl hM159 rfl rfl rfl rfl rfl rfl (c159 (d := d + 1) hG h7) rfl ?_
    exact c259_101 hG hk2 hm
  · replace hm := o_f hm h4
    exact c259_101 hG hk2 hm
def m259_2 : Nat → Int → zS → Option (Int × zS)
  | 0, _, _ => none
  | n + 1, x1, s => if x1 = (0 : Int) then m259_186 s else oV (s.1 209 5) fun z2 => if z2 = (0 : Int) then oC (m156 s) fun z4 s5 => oC (m256 (9 : Int) (10 : Int) s5) fun z7 s8 => if z4 = (40 : Int) then oV (s8.1 209 2) fun z11 => oC (m249 (20 : Int) z11 s8) fun z12 s13 => oV (s13.1 209 2) fun z15 => oZ (z15 + (1 : Int)) fun z16 => oV (sI s13 209 2 z16) fun s18 => m259_2 n x1 s18 else oC (m157 3 273 s8) fun z19 s20 => if z19 = (0 : Int) then oC (m157 3 274 s20) fun z23 s24 => if z23 = (0 : Int) then if z7 = (-1 : Int) then m259_2 n (0 : Int) s24 else oZ ((60 : Int) + z7) fun z28 => oZ (z28 - (9 : Int)) fun z30 => oV (s24.1 209 2) fun z32 => oC (m249 z30 z32 s24) fun z33 s34 => oC (m257 z7 s34) fun z36 s37 => m259_2 n x1 s37 else m259_78 (m259_2 n) x1 s24 else m259_78 (m259_2 n) x1 s20 else m259_186 s
set_option maxRecDepth 20000 in
theorem c259_2 {G : aHp} {d : Nat} (hG : zG G) : ∀ {n : Nat} {x1 : Int} {d2 d3 d4 d5 : Option zV} {s : zS} {r_ : Int} {s_ : zS}, m259_2 n x1 s = some (r_, s_) → Zp G (d + 6) 259 2 [some (zr 12 0 209), some (zi x1), d2, d3, d4, d5] [] s (zRet none s_) := by
  intro n
  induction n with
  | zero => intro x1 d2 d3 d4 d5 s r_ s_ hm; cases hm
  | succ n ih =>
  intro x1 d2 d3 d4 d5 s r_ s_ hm
  replace hm : (if x1 = (0 : Int) then m259_186 s else oV (s.1 209 5) fun z2 => if z2 = (0 : Int) then oC (m156 s) fun z4 s5 => oC (m256 (9 : Int) (10 : Int) s5) fun z7 s8 => if z4 = (40 : Int) then oV (s8.1 209 2) fun z11 => oC (m249 (20 : Int) z11 s8) fun z12 s13 => oV (s13.1 209 2) fun z15 => oZ (z15 + (1 : Int)) fun z16 => oV (sI s13 209 2 z16) fun s18 => m259_2 n x1 s18 else oC (m157 3 273 s8) fun z19 s20 => if z19 = (0 : Int) then oC (m157 3 274 s20) fun z23 s24 => if z23 = (0 : Int) then if z7 = (-1 : Int) then m259_2 n (0 : Int) s24 else oZ ((60 : Int) + z7) fun z28 => oZ (z28 - (9 : Int)) fun z30 => oV (s24.1 209 2) fun z32 => oC (m249 z30 z32 s24) fun z33 s34 => oC (m257 z7 s34) fun z36 s37 => m259_2 n x1 s37 else m259_78 (m259_2 n) x1 s24 else m259_78 (m259_2 n) x1 s20 else m259_186 s) = some (r_, s_) := hm
  refine z_iload_n (pc' := 3) hM259 rfl rfl rfl ?_
  refine z_ifeq (pc' := 6) (t := 186) hM259 rfl rfl (fun h1 => ?_) (fun h1 => ?_)
  · replace hm := o_t hm h1
    exact c259_186 hG hm
  · replace hm := o_f hm h1
    refine z_aload_n (pc' := 7) hM259 rfl rfl rfl ?_
    obtain ⟨z2, ez2, hm⟩ := o_v hm
    refine z_fldI (pc' := 10) hM259 rfl rfl rfl ez2 ?_
    refine z_ifne (pc' := 13) (t := 186) hM259 rfl rfl (fun h3 => ?_) (fun h3 => ?_)
    · replace hm := o_t hm h3
      refine z_aload_n (pc' := 14) hM259 rfl rfl rfl ?_
      obtain ⟨z4, s5, h6, hm⟩ := o_c hm
      refine z_cv (d := d + 5) (pc' := 17) hM259 rfl hM156 rfl rfl rfl rfl rfl rfl (c156 (d := d + 4) hG h6) rfl ?_
      refine z_istore_n (pc' := 18) (l' := [some (zr 12 0 209), some (zi x1), some (zi z4), d3, d4, d5]) hM259 rfl rfl rfl rfl ?_
      refine z_aload_n (pc' := 19) hM259 rfl rfl rfl ?_
      refine z_bipush (pc' := 21) hM259 rfl rfl rfl ?_
      refine z_bipush (pc' := 23) hM259 rfl rfl rfl ?_
      obtain ⟨z7, s8, h9, hm⟩ := o_c hm
      refine z_cv (d := d + 5) (pc' := 26) hM259 rfl hM256 rfl rfl rfl rfl rfl rfl (c256 (d := d + 1) hG h9) rfl ?_
      refine z_istore_n (pc' := 27) (l' := [some (zr 12 0 209), some (zi x1), some (zi z4), some (zi z7), d4, d5]) hM259 rfl rfl rfl rfl ?_
      refine z_iload_n (pc' := 28) hM259 rfl rfl rfl ?_
      refine z_bipush (pc' := 30) hM259 rfl rfl rfl ?_
      refine z_cmpne (pc' := 33) (t := 56) hM259 rfl rfl (fun h10 => ?_) (fun h10 => ?_)
      · replace hm := o_t hm h10
        refine z_aload_n (pc' := 34) hM259 rfl rfl rfl ?_
        refine z_bipush (pc' := 36) hM259 rfl rfl rfl ?_
        refine z_aload_n (pc' := 37) hM259 rfl rfl rfl ?_
        obtain ⟨z11, ez11, hm⟩ := o_v hm
        refine z_fldI (pc' := 40) hM259 rfl rfl rfl ez11 ?_
        obtain ⟨z12, s13, h14, hm⟩ := o_c hm
        refine z_cvV (d := d + 5) (pc' := 43) hM259 rfl hM249 rfl rfl rfl rfl rfl rfl (c249 (d := d + 3) hG h14) rfl ?_
        refine z_aload_n (pc' := 44) hM259 rfl rfl rfl ?_
        refine z_dupA (pc' := 45) hM259 rfl rfl ?_
        obtain ⟨z15, ez15, hm⟩ := o_v hm
        refine z_fldI (pc' := 48) hM259 rfl rfl rfl ez15 ?_
        refine z_iconst (pc' := 49) hM259 rfl rfl rfl ?_
        obtain ⟨z16, ez16, h17, hm⟩ := o_z hm
        refine z_iadd (pc' := 50) hM259 rfl rfl ez16 h17 ?_
        obtain ⟨s18, es18, hm⟩ := o_v hm
        refine z_putI (pc' := 53) hM259 rfl rfl rfl es18 ?_
        refine z_goto (t := 183) hM259 rfl ?_
        refine z_goto (t := 2) hM259 rfl ?_
        exact ih hm
      · replace hm := o_f hm h10
        refine z_aload_n (pc' := 57) hM259 rfl rfl rfl ?_
        refine z_aload_n (pc' := 58) hM259 rfl rfl rfl ?_
        refine z_fldR (pc' := 61) hM259 rfl (zf_12_87 hG) rfl rfl ?_
        obtain ⟨z19, s20, h21, hm⟩ := o_c hm
        refine z_cv (d := d + 5) (pc' := 64) hM259 rfl hM157 rfl rfl rfl rfl rfl rfl (c157 (d := d + 3) hG h21) rfl ?_
        refine z_ifne (pc' := 67) (t := 78) hM259 rfl rfl (fun h22 => ?_) (fun h22 => ?_)
        · replace hm := o_t hm h22
          refine z_aload_n (pc' := 68) hM259 rfl rfl rfl ?_
          refine z_aload_n (pc' := 69) hM259 rfl rfl rfl ?_
          refine z_fldR (pc' := 72) hM259 rfl (zf_12_88 hG) rfl rfl ?_
          obtain ⟨z23, s24, h25, hm⟩ := o_c hm
          refine z_cv (d := d + 5) (pc' := 75) hM259 rfl hM157 rfl rfl rfl rfl rfl rfl (c157 (d := d + 3) hG h25) rfl ?_
          refine z_ifeq (pc' := 78) (t := 153) hM259 rfl rfl (fun h26 => ?_) (fun h26 => ?_)
          · replace hm := o_t hm h26
            refine z_iload_n (pc' := 154) hM259 rfl rfl rfl ?_
            refine z_iconst (pc' := 155) hM259 rfl rfl rfl ?_
            refine z_cmpeq (pc' := 158) (t := 181) hM259 rfl rfl (fun h27 => ?_) (fun h27 => ?_)
            · replace hm := o_t hm h27
              refine z_iconst (pc' := 182) hM259 rfl rfl rfl ?_
              refine z_istore_n (pc' := 183) (l' := [some (zr 12 0 209), some (zi (0 : Int)), some (zi z4), some (zi z7), d4, d5]) hM259 rfl rfl rfl rfl ?_
              refine z_goto (t := 2) hM259 rfl ?_
              exact ih hm
            · replace hm := o_f hm h27
              refine z_aload_n (pc' := 159) hM259 rfl rfl rfl ?_
              refine z_bipush (pc' := 161) hM259 rfl rfl rfl ?_
              refine z_iload_n (pc' := 162) hM259 rfl rfl rfl ?_
              obtain ⟨z28, ez28, h29, hm⟩ := o_z hm
              refine z_iadd (pc' := 163) hM259 rfl rfl ez28 h29 ?_
              refine z_bipush (pc' := 165) hM259 rfl rfl rfl ?_
              obtain ⟨z30, ez30, h31, hm⟩ := o_z hm
              refine z_isub (pc' := 166) hM259 rfl rfl ez30 h31 ?_
              refine z_aload_n (pc' := 167) hM259 rfl rfl rfl ?_
              obtain ⟨z32, ez32, hm⟩ := o_v hm
              refine z_fldI (pc' := 170) hM259 rfl rfl rfl ez32 ?_
              obtain ⟨z33, s34, h35, hm⟩ := o_c hm
              refine z_cvV (d := d + 5) (pc' := 173) hM259 rfl hM249 rfl rfl rfl rfl rfl rfl (c249 (d := d + 3) hG h35) rfl ?_
              refine z_aload_n (pc' := 174) hM259 rfl rfl rfl ?_
              refine z_iload_n (pc' := 175) hM259 rfl rfl rfl ?_
              obtain ⟨z36, s37, h38, hm⟩ := o_c hm
              refine z_cvV (d := d + 5) (pc' := 178) hM259 rfl hM257 rfl rfl rfl rfl rfl rfl (c257 (d := d) hG h38) rfl ?_
              refine z_goto (t := 183) hM259 rfl ?_
              refine z_goto (t := 2) hM259 rfl ?_
              exact ih hm
          · replace hm := o_f hm h26
            exact c259_78 hG ih hm
        · replace hm := o_f hm h22
          exact c259_78 hG ih hm
    · replace hm := o_f hm h3
      exact c259_186 hG hm
def m259  (s : zS) : Option (Int × zS) := m259_2 zFu (1 : Int) s
set_option maxRecDepth 20000 in
theorem c259 {G : aHp} {d : Nat} (hG : zG G) {s : zS} {r_ : Int} {s_ : zS} (hm : m259  s = some (r_, s_)) : Zp G (d + 6) 259 0 [some (zr 12 0 209), none, none, none, none, none] [] s (zRet none s_) := by
  replace hm : (m259_2 zFu (1 : Int) s) = some (r_, s_) := hm
  refine z_iconst (pc' := 1) hM259 rfl rfl rfl ?_
  refine z_istore_n (pc' := 2) (l' := [some (zr 12 0 209), some (zi (1 : Int)), none, none, none, none]) hM259 rfl rfl rfl rfl ?_
  exact c259_2 hG hm
