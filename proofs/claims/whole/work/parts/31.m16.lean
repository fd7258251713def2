/-! ===== methods (by gen_mir.py) ===== -/
def m272_46 (x2 : Int) (y1 : Int) (y2 : Int) (s : zS) : Option (Int × zS) := oZ (y1 * y2) fun z1 => oZ x2 fun z3 => oZ (z1 + z3) fun z5 => oX z5 49 (oV (s.1 252 z5) fun z7 => some (z7, s))
theorem c272_46 {G : aHp} {d : Nat} (hG : zG G) {x2 : Int} {y1 : Int} {y2 : Int} {d0 d1 d3 d4 : Option zV} {s : zS} {r_ : Int} {s_ : zS} (hm : m272_46 x2 y1 y2 s = some (r_, s_)) : Zp G (d + 3) 272 46 [d0, d1, some (zj x2), d3, d4] [zi y2, zi y1, zr 100 49 252] s (zRet (some (zj r_)) s_) := by
  replace hm : (oZ (y1 * y2) fun z1 => oZ x2 fun z3 => oZ (z1 + z3) fun z5 => oX z5 49 (oV (s.1 252 z5) fun z7 => some (z7, s))) = some (r_, s_) := hm
  obtain ⟨z1, ez1, h2, hm⟩ := o_z hm
  refine z_imul (pc' := 47) hM272 rfl rfl ez1 h2 ?_
  refine z_lload_n (pc' := 48) hM272 rfl rfl rfl ?_
  obtain ⟨z3, ez3, h4, hm⟩ := o_z hm
  refine z_l2i (pc' := 49) hM272 rfl rfl ez3 h4 ?_
  obtain ⟨z5, ez5, h6, hm⟩ := o_z hm
  refine z_iadd (pc' := 50) hM272 rfl rfl ez5 h6 ?_
  obtain ⟨h8, hm⟩ := o_x hm
  obtain ⟨z7, ez7, hm⟩ := o_v hm
  refine z_iald (pc' := 51) (zGN hG) hM272 rfl rfl h8 ez7 ?_
  refine z_i2l (pc' := 52) hM272 rfl rfl ?_
  refine z_goto (t := 58) hM272 rfl ?_
  cases hm
  exact z_retJ hM272 rfl rfl ⟨rfl, rfl⟩
def m272 (x1 : Int) (x2 : Int) (x4 : Int) (s : zS) : Option (Int × zS) := oC (m184 x2 s) fun z1 s2 => if z1 = (0 : Int) then some ((-1 : Int), s2) else oC (m189 x4 s2) fun z5 s6 => if z5 = (-1 : Int) then m272_46 x2 (7 : Int) (0 : Int) s6 else oC (m189 x4 s6) fun z9 s10 => m272_46 x2 (7 : Int) z9 s10
theorem c272 {G : aHp} {d : Nat} (hG : zG G) {x1 : Int} {x2 : Int} {x4 : Int} {s : zS} {r_ : Int} {s_ : zS} (hm : m272 x1 x2 x4 s = some (r_, s_)) : Zp G (d + 3) 272 0 [some (zr 12 0 209), some (zi x1), some (zj x2), none, some (zi x4)] [] s (zRet (some (zj r_)) s_) := by
  replace hm : (oC (m184 x2 s) fun z1 s2 => if z1 = (0 : Int) then some ((-1 : Int), s2) else oC (m189 x4 s2) fun z5 s6 => if z5 = (-1 : Int) then m272_46 x2 (7 : Int) (0 : Int) s6 else oC (m189 x4 s6) fun z9 s10 => m272_46 x2 (7 : Int) z9 s10) = some (r_, s_) := hm
  refine z_iload_n (pc' := 1) hM272 rfl rfl rfl ?_
  refine z_lsw (t := 12) hM272 rfl rfl rfl ?_
  refine z_aload_n (pc' := 13) hM272 rfl rfl rfl ?_
  refine z_lload_n (pc' := 14) hM272 rfl rfl rfl ?_
  obtain ⟨z1, s2, h3, hm⟩ := o_c hm
  refine z_cv (d := d + 2) (pc' := 17) hM272 rfl hM184 rfl rfl rfl rfl rfl rfl (c184 (d := d) hG h3) rfl ?_
  refine z_ifeq (pc' := 20) (t := 55) hM272 rfl rfl (fun h4 => ?_) (fun h4 => ?_)
  · replace hm := o_t hm h4
    refine z_ldc2 (pc' := 58) hM272 rfl rfl rfl ?_
    cases hm
    exact z_retJ hM272 rfl rfl ⟨rfl, rfl⟩
  · replace hm := o_f hm h4
    refine z_aload_n (pc' := 21) hM272 rfl rfl rfl ?_
    refine z_fldR (pc' := 24) hM272 rfl (zf_12_54 hG) rfl rfl ?_
    refine z_bipush (pc' := 26) hM272 rfl rfl rfl ?_
    refine z_aload_n (pc' := 27) hM272 rfl rfl rfl ?_
    refine z_iload (pc' := 29) hM272 rfl rfl rfl ?_
    obtain ⟨z5, s6, h7, hm⟩ := o_c hm
    refine z_cv (d := d + 2) (pc' := 32) hM272 rfl hM189 rfl rfl rfl rfl rfl rfl (c189 (d := d + 1) hG h7) rfl ?_
    refine z_iconst (pc' := 33) hM272 rfl rfl rfl ?_
    refine z_cmpne (pc' := 36) (t := 40) hM272 rfl rfl (fun h8 => ?_) (fun h8 => ?_)
    · replace hm := o_t hm h8
      refine z_iconst (pc' := 37) hM272 rfl rfl rfl ?_
      refine z_goto (t := 46) hM272 rfl ?_
      exact c272_46 hG hm
    · replace hm := o_f hm h8
      refine z_aload_n (pc' := 41) hM272 rfl rfl rfl ?_
      refine z_iload (pc' := 43) hM272 rfl rfl rfl ?_
      obtain ⟨z9, s10, h11, hm⟩ := o_c hm
      refine z_cv (d := d + 2) (pc' := 46) hM272 rfl hM189 rfl rfl rfl rfl rfl rfl (c189 (d := d + 1) hG h11) rfl ?_
      exact c272_46 hG hm
def m273_7 : Nat → Int → Int → zS → Option (Int × zS)
  | 0, _, _, _ => none
  | n + 1, x1, x2, s => oV (s.1 209 100) fun z1 => if x2 < z1 then oX x2 1700 (oV (s.1 285 x2) fun z3 => if z3 < (1000 : Int) then if z3 < (60 : Int) then if z3 < (40 : Int) then if z3 = (13 : Int) then oC (m269 (1 : Int) s) fun z9 s10 => oZ (x2 + (1 : Int)) fun z12 => m273_7 n x1 z12 s10 else if z3 = (12 : Int) then oV (s.1 209 106) fun z15 => oZ (z15 - (1 : Int)) fun z16 => oV (s.1 209 106) fun z18 => oZ (z18 - (1 : Int)) fun z19 => oX z19 1700 (oV (s.2.1 287 z19) fun z21 => oJ ((1 : Int) - z21) fun z23 => oX z16 1700 (oV (sJ s 287 z16 z23) fun s25 => oZ (x2 + (1 : Int)) fun z27 => m273_7 n x1 z27 s25)) else oC (m270 z3 s) fun z29 s30 => oZ (x2 + (1 : Int)) fun z32 => m273_7 n x1 z32 s30 else oZ (z3 - (40 : Int)) fun z34 => oC (m271 z34 x1 s) fun z36 s37 => oC (m267 z36 s37) fun z39 s40 => oC (m269 z39 s40) fun z42 s43 => oZ (x2 + (1 : Int)) fun z45 => m273_7 n x1 z45 s43 else oV (s.1 209 106) fun z47 => oZ (z47 - (1 : Int)) fun z48 => oZ (z3 - (60 : Int)) fun z50 => oV (s.1 209 106) fun z52 => oZ (z52 - (1 : Int)) fun z53 => oX z53 1700 (oV (s.2.1 287 z53) fun z55 => oC (m272 z50 z55 x1 s) fun z57 s58 => oC (m267 z57 s58) fun z60 s61 => oX z48 1700 (oV (sJ s61 287 z48 z60) fun s63 => oZ (x2 + (1 : Int)) fun z65 => m273_7 n x1 z65 s63)) else oZ (z3 - (1000 : Int)) fun z67 => oC (m269 z67 s) fun z69 s70 => oZ (x2 + (1 : Int)) fun z72 => m273_7 n x1 z72 s70) else oX (0 : Int) 1700 (oV (s.2.1 287 (0 : Int)) fun z74 => some (z74, s))
set_option maxRecDepth 20000 in
theorem c273_7 {G : aHp} {d : Nat} (hG : zG G) : ∀ {n : Nat} {x1 : Int} {x2 : Int} {d3 : Option zV} {s : zS} {r_ : Int} {s_ : zS}, m273_7 n x1 x2 s = some (r_, s_) → Zp G (d + 4) 273 7 [some (zr 12 0 209), some (zi x1), some (zi x2), d3] [] s (zRet (some (zj r_)) s_) := by
  intro n
  induction n with
  | zero => intro x1 x2 d3 s r_ s_ hm; cases hm
  | succ n ih =>
  intro x1 x2 d3 s r_ s_ hm
  replace hm : (oV (s.1 209 100) fun z1 => if x2 < z1 then oX x2 1700 (oV (s.1 285 x2) fun z3 => if z3 < (1000 : Int) then if z3 < (60 : Int) then if z3 < (40 : Int) then if z3 = (13 : Int) then oC (m269 (1 : Int) s) fun z9 s10 => oZ (x2 + (1 : Int)) fun z12 => m273_7 n x1 z12 s10 else if z3 = (12 : Int) then oV (s.1 209 106) fun z15 => oZ (z15 - (1 : Int)) fun z16 => oV (s.1 209 106) fun z18 => oZ (z18 - (1 : Int)) fun z19 => oX z19 1700 (oV (s.2.1 287 z19) fun z21 => oJ ((1 : Int) - z21) fun z23 => oX z16 1700 (oV (sJ s 287 z16 z23) fun s25 => oZ (x2 + (1 : Int)) fun z27 => m273_7 n x1 z27 s25)) else oC (m270 z3 s) fun z29 s30 => oZ (x2 + (1 : Int)) fun z32 => m273_7 n x1 z32 s30 else oZ (z3 - (40 : Int)) fun z34 => oC (m271 z34 x1 s) fun z36 s37 => oC (m267 z36 s37) fun z39 s40 => oC (m269 z39 s40) fun z42 s43 => oZ (x2 + (1 : Int)) fun z45 => m273_7 n x1 z45 s43 else oV (s.1 209 106) fun z47 => oZ (z47 - (1 : Int)) fun z48 => oZ (z3 - (60 : Int)) fun z50 => oV (s.1 209 106) fun z52 => oZ (z52 - (1 : Int)) fun z53 => oX z53 1700 (oV (s.2.1 287 z53) fun z55 => oC (m272 z50 z55 x1 s) fun z57 s58 => oC (m267 z57 s58) fun z60 s61 => oX z48 1700 (oV (sJ s61 287 z48 z60) fun s63 => oZ (x2 + (1 : Int)) fun z65 => m273_7 n x1 z65 s63)) else oZ (z3 - (1000 : Int)) fun z67 => oC (m269 z67 s) fun z69 s70 => oZ (x2 + (1 : Int)) fun z72 => m273_7 n x1 z72 s70) else oX (0 : Int) 1700 (oV (s.2.1 287 (0 : Int)) fun z74 => some (z74, s))) = some (r_, s_) := hm
  refine z_iload_n (pc' := 8) hM273 rfl rfl rfl ?_
  refine z_aload_n (pc' := 9) hM273 rfl rfl rfl ?_
  obtain ⟨z1, ez1, hm⟩ := o_v hm
  refine z_fldI (pc' := 12) hM273 rfl rfl rfl ez1 ?_
  refine z_cmpge (pc' := 15) (t := 168) hM273 rfl rfl (fun h2 => ?_) (fun h2 => ?_)
  · replace hm := o_t hm h2
    refine z_aload_n (pc' := 16) hM273 rfl rfl rfl ?_
    refine z_fldR (pc' := 19) hM273 rfl (zf_12_99 hG) rfl rfl ?_
    refine z_iload_n (pc' := 20) hM273 rfl rfl rfl ?_
    obtain ⟨h4, hm⟩ := o_x hm
    obtain ⟨z3, ez3, hm⟩ := o_v hm
    refine z_iald (pc' := 21) (zGN hG) hM273 rfl rfl h4 ez3 ?_
    refine z_istore_n (pc' := 22) (l' := [some (zr 12 0 209), some (zi x1), some (zi x2), some (zi z3)]) hM273 rfl rfl rfl rfl ?_
    refine z_iload_n (pc' := 23) hM273 rfl rfl rfl ?_
    refine z_sipush (pc' := 26) hM273 rfl rfl rfl ?_
    refine z_cmplt (pc' := 29) (t := 42) hM273 rfl rfl (fun h5 => ?_) (fun h5 => ?_)
    · replace hm := o_t hm h5
      refine z_iload_n (pc' := 43) hM273 rfl rfl rfl ?_
      refine z_bipush (pc' := 45) hM273 rfl rfl rfl ?_
      refine z_cmplt (pc' := 48) (t := 85) hM273 rfl rfl (fun h6 => ?_) (fun h6 => ?_)
      · replace hm := o_t hm h6
        refine z_iload_n (pc' := 86) hM273 rfl rfl rfl ?_
        refine z_bipush (pc' := 88) hM273 rfl rfl rfl ?_
        refine z_cmplt (pc' := 91) (t := 110) hM273 rfl rfl (fun h7 => ?_) (fun h7 => ?_)
        · replace hm := o_t hm h7
          refine z_iload_n (pc' := 111) hM273 rfl rfl rfl ?_
          refine z_bipush (pc' := 113) hM273 rfl rfl rfl ?_
          refine z_cmpne (pc' := 116) (t := 124) hM273 rfl rfl (fun h8 => ?_) (fun h8 => ?_)
          · replace hm := o_t hm h8
            refine z_aload_n (pc' := 117) hM273 rfl rfl rfl ?_
            refine z_lconst (pc' := 118) (x := (1 : Int)) hM273 rfl rfl rfl rfl ?_
            obtain ⟨z9, s10, h11, hm⟩ := o_c hm
            refine z_cvV (d := d + 3) (pc' := 121) hM273 rfl hM269 rfl rfl rfl rfl rfl rfl (c269 (d := d + 2) hG h11) rfl ?_
            refine z_goto (t := 162) hM273 rfl ?_
            obtain ⟨z12, ez12, h13, hm⟩ := o_z hm
            refine z_iinc (pc' := 165) (l' := [some (zr 12 0 209), some (zi x1), some (zi z12), some (zi z3)]) hM273 rfl rfl rfl ez12 h13 rfl rfl ?_
            refine z_goto (t := 7) hM273 rfl ?_
            exact ih hm
          · replace hm := o_f hm h8
            refine z_iload_n (pc' := 125) hM273 rfl rfl rfl ?_
            refine z_bipush (pc' := 127) hM273 rfl rfl rfl ?_
            refine z_cmpne (pc' := 130) (t := 157) hM273 rfl rfl (fun h14 => ?_) (fun h14 => ?_)
            · replace hm := o_t hm h14
              refine z_aload_n (pc' := 131) hM273 rfl rfl rfl ?_
              refine z_fldR (pc' := 134) hM273 rfl (zf_12_105 hG) rfl rfl ?_
              refine z_aload_n (pc' := 135) hM273 rfl rfl rfl ?_
              obtain ⟨z15, ez15, hm⟩ := o_v hm
              refine z_fldI (pc' := 138) hM273 rfl rfl rfl ez15 ?_
              refine z_iconst (pc' := 139) hM273 rfl rfl rfl ?_
              obtain ⟨z16, ez16, h17, hm⟩ := o_z hm
              refine z_isub (pc' := 140) hM273 rfl rfl ez16 h17 ?_
              refine z_lconst (pc' := 141) (x := (1 : Int)) hM273 rfl rfl rfl rfl ?_
              refine z_aload_n (pc' := 142) hM273 rfl rfl rfl ?_
              refine z_fldR (pc' := 145) hM273 rfl (zf_12_105 hG) rfl rfl ?_
              refine z_aload_n (pc' := 146) hM273 rfl rfl rfl ?_
              obtain ⟨z18, ez18, hm⟩ := o_v hm
              refine z_fldI (pc' := 149) hM273 rfl rfl rfl ez18 ?_
              refine z_iconst (pc' := 150) hM273 rfl rfl rfl ?_
              obtain ⟨z19, ez19, h20, hm⟩ := o_z hm
              refine z_isub (pc' := 151) hM273 rfl rfl ez19 h20 ?_
              obtain ⟨h22, hm⟩ := o_x hm
              obtain ⟨z21, ez21, hm⟩ := o_v hm
              refine z_lald (pc' := 152) hM273 rfl rfl h22 ez21 ?_
              obtain ⟨z23, ez23, h24, hm⟩ := o_j hm
              refine z_lsub (pc' := 153) hM273 rfl rfl ez23 h24 ?_
              obtain ⟨h26, hm⟩ := o_x hm
              obtain ⟨s25, es25, hm⟩ := o_v hm
              refine z_last (pc' := 154) hM273 rfl rfl h26 es25 ?_
              refine z_goto (t := 162) hM273 rfl ?_
              obtain ⟨z27, ez27, h28, hm⟩ := o_z hm
              refine z_iinc (pc' := 165) (l' := [some (zr 12 0 209), some (zi x1), some (zi z27), some (zi z3)]) hM273 rfl rfl rfl ez27 h28 rfl rfl ?_
              refine z_goto (t := 7) hM273 rfl ?_
              exact ih hm
            · replace hm := o_f hm h14
              refine z_aload_n (pc' := 158) hM273 rfl rfl rfl ?_
              refine z_iload_n (pc' := 159) hM273 rfl rfl rfl ?_
              obtain ⟨z29, s30, h31, hm⟩ := o_c hm
              refine z_cvV (d := d + 3) (pc' := 162) hM273 rfl hM270 rfl rfl rfl rfl rfl rfl (c270 (d := d + 1) hG h31) rfl ?_
              obtain ⟨z32, ez32, h33, hm⟩ := o_z hm
              refine z_iinc (pc' := 165) (l' := [some (zr 12 0 209), some (zi x1), some (zi z32), some (zi z3)]) hM273 rfl rfl rfl ez32 h33 rfl rfl ?_
              refine z_goto (t := 7) hM273 rfl ?_
              exact ih hm
        · replace hm := o_f hm h7
          refine z_aload_n (pc' := 92) hM273 rfl rfl rfl ?_
          refine z_aload_n (pc' := 93) hM273 rfl rfl rfl ?_
          refine z_iload_n (pc' := 94) hM273 rfl rfl rfl ?_
          refine z_bipush (pc' := 96) hM273 rfl rfl rfl ?_
          obtain ⟨z34, ez34, h35, hm⟩ := o_z hm
          refine z_isub (pc' := 97) hM273 rfl rfl ez34 h35 ?_
          refine z_iload_n (pc' := 98) hM273 rfl rfl rfl ?_
          obtain ⟨z36, s37, h38, hm⟩ := o_c hm
          refine z_cv (d := d + 3) (pc' := 101) hM273 rfl hM271 rfl rfl rfl rfl rfl rfl (c271 (d := d) hG h38) rfl ?_
          obtain ⟨z39, s40, h41, hm⟩ := o_c hm
          refine z_cs (d := d + 3) (pc' := 104) hM273 rfl hM267 rfl rfl rfl rfl (c267 (d := d + 2) hG h41) rfl ?_
          obtain ⟨z42, s43, h44, hm⟩ := o_c hm
          refine z_cvV (d := d + 3) (pc' := 107) hM273 rfl hM269 rfl rfl rfl rfl rfl rfl (c269 (d := d + 2) hG h44) rfl ?_
          refine z_goto (t := 162) hM273 rfl ?_
          obtain ⟨z45, ez45, h46, hm⟩ := o_z hm
          refine z_iinc (pc' := 165) (l' := [some (zr 12 0 209), some (zi x1), some (zi z45), some (zi z3)]) hM273 rfl rfl rfl ez45 h46 rfl rfl ?_
          refine z_goto (t := 7) hM273 rfl ?_
          exact ih hm
      · replace hm := o_f hm h6
        refine z_aload_n (pc' := 49) hM273 rfl rfl rfl ?_
        refine z_fldR (pc' := 52) hM273 rfl (zf_12_105 hG) rfl rfl ?_
        refine z_aload_n (pc' := 53) hM273 rfl rfl rfl ?_
        obtain ⟨z47, ez47, hm⟩ := o_v hm
        refine z_fldI (pc' := 56) hM273 rfl rfl rfl ez47 ?_
        refine z_iconst (pc' := 57) hM273 rfl rfl rfl ?_
        obtain ⟨z48, ez48, h49, hm⟩ := o_z hm
        refine z_isub (pc' := 58) hM273 rfl rfl ez48 h49 ?_
        refine z_aload_n (pc' := 59) hM273 rfl rfl rfl ?_
        refine z_iload_n (pc' := 60) hM273 rfl rfl rfl ?_
        refine z_bipush (pc' := 62) hM273 rfl rfl rfl ?_
        obtain ⟨z50, ez50, h51, hm⟩ := o_z hm
        refine z_isub (pc' := 63) hM273 rfl rfl ez50 h51 ?_
        refine z_aload_n (pc' := 64) hM273 rfl rfl rfl ?_
        refine z_fldR (pc' := 67) hM273 rfl (zf_12_105 hG) rfl rfl ?_
        refine z_aload_n (pc' := 68) hM273 rfl rfl rfl ?_
        obtain ⟨z52, ez52, hm⟩ := o_v hm
        refine z_fldI (pc' := 71) hM273 rfl rfl rfl ez52 ?_
        refine z_iconst (pc' := 72) hM273 rfl rfl rfl ?_
        obtain ⟨z53, ez53, h54, hm⟩ := o_z hm
        refine z_isub (pc' := 73) hM273 rfl rfl ez53 h54 ?_
        obtain ⟨h56, hm⟩ := o_x hm
        obtain ⟨z55, ez55, hm⟩ := o_v hm
        refine z_lald (pc' := 74) hM273 rfl rfl h56 ez55 ?_
        refine z_iload_n (pc' := 75) hM273 rfl rfl rfl ?_
        obtain ⟨z57, s58, h59, hm⟩ := o_c hm
        refine z_cv (d := d + 3) (pc' := 78) hM273 rfl hM272 rfl rfl rfl rfl rfl rfl (c272 (d := d) hG h59) rfl ?_
        obtain ⟨z60, s61, h62, hm⟩ := o_c hm
        refine z_cs (d := d + 3) (pc' := 81) hM273 rfl hM267 rfl rfl rfl rfl (c267 (d := d + 2) hG h62) rfl ?_
        obtain ⟨h64, hm⟩ := o_x hm
        obtain ⟨s63, es63, hm⟩ := o_v hm
        refine z_last (pc' := 82) hM273 rfl rfl h64 es63 ?_
        refine z_goto (t := 162) hM273 rfl ?_
        obtain ⟨z65, ez65, h66, hm⟩ := o_z hm
        refine z_iinc (pc' := 165) (l' := [some (zr 12 0 209), some (zi x1), some (zi z65), some (zi z3)]) hM273 rfl rfl rfl ez65 h66 rfl rfl ?_
        refine z_goto (t := 7) hM273 rfl ?_
        exact ih hm
    · replace hm := o_f hm h5
      refine z_aload_n (pc' := 30) hM273 rfl rfl rfl ?_
      refine z_iload_n (pc' := 31) hM273 rfl rfl rfl ?_
      refine z_sipush (pc' := 34) hM273 rfl rfl rfl ?_
      obtain ⟨z67, ez67, h68, hm⟩ := o_z hm
      refine z_isub (pc' := 35) hM273 rfl rfl ez67 h68 ?_
      refine z_i2l (pc' := 36) hM273 rfl rfl ?_
      obtain ⟨z69, s70, h71, hm⟩ := o_c hm
      refine z_cvV (d := d + 3) (pc' := 39) hM273 rfl hM269 rfl rfl rfl rfl rfl rfl (c269 (d := d + 2) hG h71) rfl ?_
      refine z_goto (t := 162) hM273 rfl ?_
      obtain ⟨z72, ez72, h73, hm⟩ := o_z hm
      refine z_iinc (pc' := 165) (l' := [some (zr 12 0 209), some (zi x1), some (zi z72), some (zi z3)]) hM273 rfl rfl rfl ez72 h73 rfl rfl ?_
      refine z_goto (t := 7) hM273 rfl ?_
      exact ih hm
  · replace hm := o_f hm h2
    refine z_aload_n (pc' := 169) hM273 rfl rfl rfl ?_
    refine z_fldR (pc' := 172) hM273 rfl (zf_12_105 hG) rfl rfl ?_
    refine z_iconst (pc' := 173) hM273 rfl rfl rfl ?_
    obtain ⟨h75, hm⟩ := o_x hm
    obtain ⟨z74, ez74, hm⟩ := o_v hm
    refine z_lald (pc' := 174) hM273 rfl rfl h75 ez74 ?_
    cases hm
    exact z_retJ hM273 rfl rfl ⟨rfl, rfl⟩
def m273 (x1 : Int) (s : zS) : Option (Int × zS) := oV (sI s 209 106 (0 : Int)) fun s1 => m273_7 zFu x1 (0 : Int) s1
set_option maxRecDepth 20000 in
theorem c273 {G : aHp} {d : Nat} (hG : zG G) {x1 : Int} {s : zS} {r_ : Int} {s_ : zS} (hm : m273 x1 s = some (r_, s_)) : Zp G (d + 4) 273 0 [some (zr 12 0 209), some (zi x1), none, none] [] s (zRet (some (zj r_)) s_) := by
  replace hm : (oV (sI s 209 106 (0 : Int)) fun s1 => m273_7 zFu x1 (0 : Int) s1) = some (r_, s_) := hm
  refine z_aload_n (pc' := 1) hM273 rfl rfl rfl ?_
  refine z_iconst (pc' := 2) hM273 rfl rfl rfl ?_
  obtain ⟨s1, es1, hm⟩ := o_v hm
  refine z_putI (pc' := 5) hM273 rfl rfl rfl es1 ?_
  refine z_iconst (pc' := 6) hM273 rfl rfl rfl ?_
  refine z_istore_n (pc' := 7) (l' := [some (zr 12 0 209), some (zi x1), some (zi (0 : Int)), none]) hM273 rfl rfl rfl rfl ?_
  exact c273_7 hG hm
def m274_76 (y0 : Int) (s : zS) : Option (Int × zS) := if y0 = (5 : Int) then oC (m159 5 268 s) fun z2 s3 => some (y0, s3) else some (y0, s)
theorem c274_76 {G : aHp} {d : Nat} (hG : zG G) {y0 : Int} {d1 : Option zV} {s : zS} {r_ : Int} {s_ : zS} (hm : m274_76 y0 s = some (r_, s_)) : Zp G (d + 5) 274 76 [some (zr 12 0 209), d1] [zi y0] s (zRet (some (zi r_)) s_) := by
  replace hm : (if y0 = (5 : Int) then oC (m159 5 268 s) fun z2 s3 => some (y0, s3) else some (y0, s)) = some (r_, s_) := hm
  refine z_istore_n (pc' := 77) (l' := [some (zr 12 0 209), some (zi y0)]) hM274 rfl rfl rfl rfl ?_
  refine z_iload_n (pc' := 78) hM274 rfl rfl rfl ?_
  refine z_iconst (pc' := 79) hM274 rfl rfl rfl ?_
  refine z_cmpne (pc' := 82) (t := 90) hM274 rfl rfl (fun h1 => ?_) (fun h1 => ?_)
  · replace hm := o_t hm h1
    refine z_aload_n (pc' := 83) hM274 rfl rfl rfl ?_
    refine z_aload_n (pc' := 84) hM274 rfl rfl rfl ?_
    refine z_fldR (pc' := 87) hM274 rfl (zf_12_82 hG) rfl rfl ?_
    obtain ⟨z2, s3, h4, hm⟩ := o_c hm
    refine z_cvV (d := d + 4) (pc' := 90) hM274 rfl hM159 rfl rfl rfl rfl rfl rfl (c159 (d := d) hG h4) rfl ?_
    refine z_iload_n (pc' := 91) hM274 rfl rfl rfl ?_
    cases hm
    exact z_retI hM274 rfl rfl ⟨rfl, rfl⟩
  · replace hm := o_f hm h1
    refine z_iload_n (pc' := 91) hM274 rfl rfl rfl ?_
    cases hm
    exact z_retI hM274 rfl rfl ⟨rfl, rfl⟩
def m274  (s : zS) : Option (Int × zS) := oC (m158 5 263 s) fun z1 s2 => if z1 = (0 : Int) then oC (m158 4 264 s2) fun z5 s6 => if z5 = (0 : Int) then oC (m158 5 265 s6) fun z9 s10 => if z9 = (0 : Int) then oC (m158 5 266 s10) fun z13 s14 => if z13 = (0 : Int) then oC (m158 4 267 s14) fun z17 s18 => if z17 = (0 : Int) then m274_76 (5 : Int) s18 else m274_76 (4 : Int) s18 else m274_76 (3 : Int) s14 else m274_76 (2 : Int) s10 else m274_76 (1 : Int) s6 else m274_76 (0 : Int) s2
theorem c274 {G : aHp} {d : Nat} (hG : zG G) {s : zS} {r_ : Int} {s_ : zS} (hm : m274  s = some (r_, s_)) : Zp G (d + 5) 274 0 [some (zr 12 0 209), none] [] s (zRet (some (zi r_)) s_) := by
  replace hm : (oC (m158 5 263 s) fun z1 s2 => if z1 = (0 : Int) then oC (m158 4 264 s2) fun z5 s6 => if z5 = (0 : Int) then oC (m158 5 265 s6) fun z9 s10 => if z9 = (0 : Int) then oC (m158 5 266 s10) fun z13 s14 => if z13 = (0 : Int) then oC (m158 4 267 s14) fun z17 s18 => if z17 = (0 : Int) then m274_76 (5 : Int) s18 else m274_76 (4 : Int) s18 else m274_76 (3 : Int) s14 else m274_76 (2 : Int) s10 else m274_76 (1 : Int) s6 else m274_76 (0 : Int) s2) = some (r_, s_) := hm
  refine z_aload_n (pc' := 1) hM274 rfl rfl rfl ?_
  refine z_aload_n (pc' := 2) hM274 rfl rfl rfl ?_
  refine z_fldR (pc' := 5) hM274 rfl (zf_12_77 hG) rfl rfl ?_
  obtain ⟨z1, s2, h3, hm⟩ := o_c hm
  refine z_cv (d := d + 4) (pc' := 8) hM274 rfl hM158 rfl rfl rfl rfl rfl rfl (c158 (d := d + 1) hG h3) rfl ?_
  refine z_ifeq (pc' := 11) (t := 15) hM274 rfl rfl (fun h4 => ?_) (fun h4 => ?_)
  · replace hm := o_t hm h4
    refine z_aload_n (pc' := 16) hM274 rfl rfl rfl ?_
    refine z_aload_n (pc' := 17) hM274 rfl rfl rfl ?_
    refine z_fldR (pc' := 20) hM274 rfl (zf_12_78 hG) rfl rfl ?_
    obtain ⟨z5, s6, h7, hm⟩ := o_c hm
    refine z_cv (d := d + 4) (pc' := 23) hM274 rfl hM158 rfl rfl rfl rfl rfl rfl (c158 (d := d + 1) hG h7) rfl ?_
    refine z_ifeq (pc' := 26) (t := 30) hM274 rfl rfl (fun h8 => ?_) (fun h8 => ?_)
    · replace hm := o_t hm h8
      refine z_aload_n (pc' := 31) hM274 rfl rfl rfl ?_
      refine z_aload_n (pc' := 32) hM274 rfl rfl rfl ?_
      refine z_fldR (pc' := 35) hM274 rfl (zf_12_79 hG) rfl rfl ?_
      obtain ⟨z9, s10, h11, hm⟩ := o_c hm
      refine z_cv (d := d + 4) (pc' := 38) hM274 rfl hM158 rfl rfl rfl rfl rfl rfl (c158 (d := d + 1) hG h11) rfl ?_
      refine z_ifeq (pc' := 41) (t := 45) hM274 rfl rfl (fun h12 => ?_) (fun h12 => ?_)
      · replace hm := o_t hm h12
        refine z_aload_n (pc' := 46) hM274 rfl rfl rfl ?_
        refine z_aload_n (pc' := 47) hM274 rfl rfl rfl ?_
        refine z_fldR (pc' := 50) hM274 rfl (zf_12_80 hG) rfl rfl ?_
        obtain ⟨z13, s14, h15, hm⟩ := o_c hm
        refine z_cv (d := d + 4) (pc' := 53) hM274 rfl hM158 rfl rfl rfl rfl rfl rfl (c158 (d := d + 1) hG h15) rfl ?_
        refine z_ifeq (pc' := 56) (t := 60) hM274 rfl rfl (fun h16 => ?_) (fun h16 => ?_)
        · replace hm := o_t hm h16
          refine z_aload_n (pc' := 61) hM274 rfl rfl rfl ?_
          refine z_aload_n (pc' := 62) hM274 rfl rfl rfl ?_
          refine z_fldR (pc' := 65) hM274 rfl (zf_12_81 hG) rfl rfl ?_
          obtain ⟨z17, s18, h19, hm⟩ := o_c hm
          refine z_cv (d := d + 4) (pc' := 68) hM274 rfl hM158 rfl rfl rfl rfl rfl rfl (c158 (d := d + 1) hG h19) rfl ?_
          refine z_ifeq (pc' := 71) (t := 75) hM274 rfl rfl (fun h20 => ?_) (fun h20 => ?_)
          · replace hm := o_t hm h20
            refine z_iconst (pc' := 76) hM274 rfl rfl rfl ?_
            exact c274_76 hG hm
          · replace hm := o_f hm h20
            refine z_iconst (pc' := 72) hM274 rfl rfl rfl ?_
            refine z_goto (t := 76) hM274 rfl ?_
            exact c274_76 hG hm
        · replace hm := o_f hm h16
          refine z_iconst (pc' := 57) hM274 rfl rfl rfl ?_
          refine z_goto (t := 76) hM274 rfl ?_
          exact c274_76 hG hm
      · replace hm := o_f hm h12
        refine z_iconst (pc' := 42) hM274 rfl rfl rfl ?_
        refine z_goto (t := 76) hM274 rfl ?_
        exact c274_76 hG hm
    · replace hm := o_f hm h8
      refine z_iconst (pc' := 27) hM274 rfl rfl rfl ?_
      refine z_goto (t := 76) hM274 rfl ?_
      exact c274_76 hG hm
  · replace hm := o_f hm h4
    refine z_iconst (pc' := 12) hM274 rfl rfl rfl ?_
    refine z_goto (t := 76) hM274 rfl ?_
    exact c274_76 hG hm
def m275_90 (x1 : Int) (x2 : Int) (s : zS) : Option (Int × zS) := if (3 : Int) < x1 then oV (s.1 209 108) fun z2 => if z2 = (0 : Int) then if x1 = (4 : Int) then oV (s.2.1 209 107) fun z5 => oV (zCmp x2 z5) fun z6 => if (0 : Int) < z6 then oV (sJ s 209 107 x2) fun s8 => oV (sI s8 209 108 (0 : Int)) fun s9 => some (0, s9) else oV (sI s 209 108 (0 : Int)) fun s10 => some (0, s10) else oV (s.2.1 209 107) fun z11 => oV (zCmp x2 z11) fun z12 => if z12 < (0 : Int) then oV (sJ s 209 107 x2) fun s14 => oV (sI s14 209 108 (0 : Int)) fun s15 => some (0, s15) else oV (sI s 209 108 (0 : Int)) fun s16 => some (0, s16) else oV (sJ s 209 107 x2) fun s17 => oV (sI s17 209 108 (0 : Int)) fun s18 => some (0, s18) else oV (sI s 209 108 (0 : Int)) fun s19 => some (0, s19)
theorem c275_90 {G : aHp} {d : Nat} (hG : zG G) {x1 : Int} {x2 : Int} {d3 d4 d5 : Option zV} {s : zS} {r_ : Int} {s_ : zS} (hm : m275_90 x1 x2 s = some (r_, s_)) : Zp G (d + 1) 275 90 [some (zr 12 0 209), some (zi x1), some (zj x2), d3, d4, d5] [] s (zRet none s_) := by
  replace hm : (if (3 : Int) < x1 then oV (s.1 209 108) fun z2 => if z2 = (0 : Int) then if x1 = (4 : Int) then oV (s.2.1 209 107) fun z5 => oV (zCmp x2 z5) fun z6 => if (0 : Int) < z6 then oV (sJ s 209 107 x2) fun s8 => oV (sI s8 209 108 (0 : Int)) fun s9 => some (0, s9) else oV (sI s 209 108 (0 : Int)) fun s10 => some (0, s10) else oV (s.2.1 209 107) fun z11 => oV (zCmp x2 z11) fun z12 => if z12 < (0 : Int) then oV (sJ s 209 107 x2) fun s14 => oV (sI s14 209 108 (0 : Int)) fun s15 => some (0, s15) else oV (sI s 209 108 (0 : Int)) fun s16 => some (0, s16) else oV (sJ s 209 107 x2) fun s17 => oV (sI s17 209 108 (0 : Int)) fun s18 => some (0, s18) else oV (sI s 209 108 (0 : Int)) fun s19 => some (0, s19)) = some (r_, s_) := hm
  refine z_iload_n (pc' := 91) hM275 rfl rfl rfl ?_
  refine z_iconst (pc' := 92) hM275 rfl rfl rfl ?_
  refine z_cmple (pc' := 95) (t := 133) hM275 rfl rfl (fun h1 => ?_) (fun h1 => ?_)
  · replace hm := o_t hm h1
    refine z_aload_n (pc' := 96) hM275 rfl rfl rfl ?_
    obtain ⟨z2, ez2, hm⟩ := o_v hm
    refine z_fldZ (pc' := 99) hM275 rfl rfl rfl ez2 ?_
    refine z_ifne (pc' := 102) (t := 128) hM275 rfl rfl (fun h3 => ?_) (fun h3 => ?_)
    · replace hm := o_t hm h3
      refine z_iload_n (pc' := 103) hM275 rfl rfl rfl ?_
      refine z_iconst (pc' := 104) hM275 rfl rfl rfl ?_
      refine z_cmpne (pc' := 107) (t := 119) hM275 rfl rfl (fun h4 => ?_) (fun h4 => ?_)
      · replace hm := o_t hm h4
        refine z_lload_n (pc' := 108) hM275 rfl rfl rfl ?_
        refine z_aload_n (pc' := 109) hM275 rfl rfl rfl ?_
        obtain ⟨z5, ez5, hm⟩ := o_v hm
        refine z_fldJ (pc' := 112) hM275 rfl rfl rfl ez5 ?_
        obtain ⟨z6, ez6, hm⟩ := o_v hm
        refine z_lcmp (pc' := 113) hM275 rfl rfl ez6 ?_
        refine z_ifle (pc' := 116) (t := 133) hM275 rfl rfl (fun h7 => ?_) (fun h7 => ?_)
        · replace hm := o_t hm h7
          refine z_goto (t := 128) hM275 rfl ?_
          refine z_aload_n (pc' := 129) hM275 rfl rfl rfl ?_
          refine z_lload_n (pc' := 130) hM275 rfl rfl rfl ?_
          obtain ⟨s8, es8, hm⟩ := o_v hm
          refine z_putJ (pc' := 133) hM275 rfl rfl rfl es8 ?_
          refine z_aload_n (pc' := 134) hM275 rfl rfl rfl ?_
          refine z_iconst (pc' := 135) hM275 rfl rfl rfl ?_
          obtain ⟨s9, es9, hm⟩ := o_v hm
          refine z_putZ (pc' := 138) hM275 rfl (Or.inl rfl) rfl rfl es9 ?_
          cases hm
          exact z_retV hM275 rfl rfl ⟨rfl, rfl⟩
        · replace hm := o_f hm h7
          refine z_aload_n (pc' := 134) hM275 rfl rfl rfl ?_
          refine z_iconst (pc' := 135) hM275 rfl rfl rfl ?_
          obtain ⟨s10, es10, hm⟩ := o_v hm
          refine z_putZ (pc' := 138) hM275 rfl (Or.inl rfl) rfl rfl es10 ?_
          cases hm
          exact z_retV hM275 rfl rfl ⟨rfl, rfl⟩
      · replace hm := o_f hm h4
        refine z_lload_n (pc' := 120) hM275 rfl rfl rfl ?_
        refine z_aload_n (pc' := 121) hM275 rfl rfl rfl ?_
        obtain ⟨z11, ez11, hm⟩ := o_v hm
        refine z_fldJ (pc' := 124) hM275 rfl rfl rfl ez11 ?_
        obtain ⟨z12, ez12, hm⟩ := o_v hm
        refine z_lcmp (pc' := 125) hM275 rfl rfl ez12 ?_
        refine z_ifge (pc' := 128) (t := 133) hM275 rfl rfl (fun h13 => ?_) (fun h13 => ?_)
        · replace hm := o_t hm h13
          refine z_aload_n (pc' := 129) hM275 rfl rfl rfl ?_
          refine z_lload_n (pc' := 130) hM275 rfl rfl rfl ?_
          obtain ⟨s14, es14, hm⟩ := o_v hm
          refine z_putJ (pc' := 133) hM275 rfl rfl rfl es14 ?_
          refine z_aload_n (pc' := 134) hM275 rfl rfl rfl ?_
          refine z_iconst (pc' := 135) hM275 rfl rfl rfl ?_
          obtain ⟨s15, es15, hm⟩ := o_v hm
          refine z_putZ (pc' := 138) hM275 rfl (Or.inl rfl) rfl rfl es15 ?_
          cases hm
          exact z_retV hM275 rfl rfl ⟨rfl, rfl⟩
        · replace hm := o_f hm h13
          refine z_aload_n (pc' := 134) hM275 rfl rfl rfl ?_
          refine z_iconst (pc' := 135) hM275 rfl rfl rfl ?_
          obtain ⟨s16, es16, hm⟩ := o_v hm
          refine z_putZ (pc' := 138) hM275 rfl (Or.inl rfl) rfl rfl es16 ?_
          cases hm
          exact z_retV hM275 rfl rfl ⟨rfl, rfl⟩
    · replace hm := o_f hm h3
      refine z_aload_n (pc' := 129) hM275 rfl rfl rfl ?_
      refine z_lload_n (pc' := 130) hM275 rfl rfl rfl ?_
      obtain ⟨s17, es17, hm⟩ := o_v hm
      refine z_putJ (pc' := 133) hM275 rfl rfl rfl es17 ?_
      refine z_aload_n (pc' := 134) hM275 rfl rfl rfl ?_
      refine z_iconst (pc' := 135) hM275 rfl rfl rfl ?_
      obtain ⟨s18, es18, hm⟩ := o_v hm
      refine z_putZ (pc' := 138) hM275 rfl (Or.inl rfl) rfl rfl es18 ?_
      cases hm
      exact z_retV hM275 rfl rfl ⟨rfl, rfl⟩
  · replace hm := o_f hm h1
    refine z_aload_n (pc' := 134) hM275 rfl rfl rfl ?_
    refine z_iconst (pc' := 135) hM275 rfl rfl rfl ?_
    obtain ⟨s19, es19, hm⟩ := o_v hm
    refine z_putZ (pc' := 138) hM275 rfl (Or.inl rfl) rfl rfl es19 ?_
    cases hm
    exact z_retV hM275 rfl rfl ⟨rfl, rfl⟩
def m275_75 (x1 : Int) (x2 : Int) (s : zS) : Option (Int × zS) := if x1 = (3 : Int) then oV (s.2.1 209 107) fun z2 => oJ (z2 + x2) fun z3 => oV (sJ s 209 107 z3) fun s5 => m275_90 x1 x2 s5 else m275_90 x1 x2 s
theorem c275_75 {G : aHp} {d : Nat} (hG : zG G) {x1 : Int} {x2 : Int} {d3 d4 d5 : Option zV} {s : zS} {r_ : Int} {s_ : zS} (hm : m275_75 x1 x2 s = some (r_, s_)) : Zp G (d + 1) 275 75 [some (zr 12 0 209), some (zi x1), some (zj x2), d3, d4, d5] [] s (zRet none s_) := by
  replace hm : (if x1 = (3 : Int) then oV (s.2.1 209 107) fun z2 => oJ (z2 + x2) fun z3 => oV (sJ s 209 107 z3) fun s5 => m275_90 x1 x2 s5 else m275_90 x1 x2 s) = some (r_, s_) := hm
  refine z_iload_n (pc' := 76) hM275 rfl rfl rfl ?_
  refine z_iconst (pc' := 77) hM275 rfl rfl rfl ?_
  refine z_cmpne (pc' := 80) (t := 90) hM275 rfl rfl (fun h1 => ?_) (fun h1 => ?_)
  · replace hm := o_t hm h1
    refine z_aload_n (pc' := 81) hM275 rfl rfl rfl ?_
    refine z_dupA (pc' := 82) hM275 rfl rfl ?_
    obtain ⟨z2, ez2, hm⟩ := o_v hm
    refine z_fldJ (pc' := 85) hM275 rfl rfl rfl ez2 ?_
    refine z_lload_n (pc' := 86) hM275 rfl rfl rfl ?_
    obtain ⟨z3, ez3, h4, hm⟩ := o_j hm
    refine z_ladd (pc' := 87) hM275 rfl rfl ez3 h4 ?_
    obtain ⟨s5, es5, hm⟩ := o_v hm
    refine z_putJ (pc' := 90) hM275 rfl rfl rfl es5 ?_
    exact c275_90 hG hm
  · replace hm := o_f hm h1
    exact c275_90 hG hm
def m275_55 (x1 : Int) (x2 : Int) (x5 : Int) (s : zS) : Option (Int × zS) := if x1 = (2 : Int) then if x5 = (0 : Int) then m275_75 x1 x2 s else oV (s.2.1 209 107) fun z3 => oJ (z3 + (1 : Int)) fun z4 => oV (sJ s 209 107 z4) fun s6 => m275_75 x1 x2 s6 else m275_75 x1 x2 s
theorem c275_55 {G : aHp} {d : Nat} (hG : zG G) {x1 : Int} {x2 : Int} {x5 : Int} {d3 d4 : Option zV} {s : zS} {r_ : Int} {s_ : zS} (hm : m275_55 x1 x2 x5 s = some (r_, s_)) : Zp G (d + 1) 275 55 [some (zr 12 0 209), some (zi x1), some (zj x2), d3, d4, some (zi x5)] [] s (zRet none s_) := by
  replace hm : (if x1 = (2 : Int) then if x5 = (0 : Int) then m275_75 x1 x2 s else oV (s.2.1 209 107) fun z3 => oJ (z3 + (1 : Int)) fun z4 => oV (sJ s 209 107 z4) fun s6 => m275_75 x1 x2 s6 else m275_75 x1 x2 s) = some (r_, s_) := hm
  refine z_iload_n (pc' := 56) hM275 rfl rfl rfl ?_
  refine z_iconst (pc' := 57) hM275 rfl rfl rfl ?_
  refine z_cmpne (pc' := 60) (t := 75) hM275 rfl rfl (fun h1 => ?_) (fun h1 => ?_)
  · replace hm := o_t hm h1
    refine z_iload (pc' := 62) hM275 rfl rfl rfl ?_
    refine z_ifeq (pc' := 65) (t := 75) hM275 rfl rfl (fun h2 => ?_) (fun h2 => ?_)
    · replace hm := o_t hm h2
      exact c275_75 hG hm
    · replace hm := o_f hm h2
      refine z_aload_n (pc' := 66) hM275 rfl rfl rfl ?_
      refine z_dupA (pc' := 67) hM275 rfl rfl ?_
      obtain ⟨z3, ez3, hm⟩ := o_v hm
      refine z_fldJ (pc' := 70) hM275 rfl rfl rfl ez3 ?_
      refine z_lconst (pc' := 71) (x := (1 : Int)) hM275 rfl rfl rfl rfl ?_
      obtain ⟨z4, ez4, h5, hm⟩ := o_j hm
      refine z_ladd (pc' := 72) hM275 rfl rfl ez4 h5 ?_
      obtain ⟨s6, es6, hm⟩ := o_v hm
      refine z_putJ (pc' := 75) hM275 rfl rfl rfl es6 ?_
      exact c275_75 hG hm
  · replace hm := o_f hm h1
    exact c275_75 hG hm
def m275_38 (x1 : Int) (x2 : Int) (x4 : Int) (x5 : Int) (s : zS) : Option (Int × zS) := if x1 = (1 : Int) then if x5 = (0 : Int) then m275_55 x1 x2 x5 s else oV (sJ s 209 107 x4) fun s3 => m275_55 x1 x2 x5 s3 else m275_55 x1 x2 x5 s
theorem c275_38 {G : aHp} {d : Nat} (hG : zG G) {x1 : Int} {x2 : Int} {x4 : Int} {x5 : Int} {d3 : Option zV} {s : zS} {r_ : Int} {s_ : zS} (hm : m275_38 x1 x2 x4 x5 s = some (r_, s_)) : Zp G (d + 1) 275 38 [some (zr 12 0 209), some (zi x1), some (zj x2), d3, some (zi x4), some (zi x5)] [] s (zRet none s_) := by
  replace hm : (if x1 = (1 : Int) then if x5 = (0 : Int) then m275_55 x1 x2 x5 s else oV (sJ s 209 107 x4) fun s3 => m275_55 x1 x2 x5 s3 else m275_55 x1 x2 x5 s) = some (r_, s_) := hm
  refine z_iload_n (pc' := 39) hM275 rfl rfl rfl ?_
  refine z_iconst (pc' := 40) hM275 rfl rfl rfl ?_
  refine z_cmpne (pc' := 43) (t := 55) hM275 rfl rfl (fun h1 => ?_) (fun h1 => ?_)
  · replace hm := o_t hm h1
    refine z_iload (pc' := 45) hM275 rfl rfl rfl ?_
    refine z_ifeq (pc' := 48) (t := 55) hM275 rfl rfl (fun h2 => ?_) (fun h2 => ?_)
    · replace hm := o_t hm h2
      exact c275_55 hG hm
    · replace hm := o_f hm h2
      refine z_aload_n (pc' := 49) hM275 rfl rfl rfl ?_
      refine z_iload (pc' := 51) hM275 rfl rfl rfl ?_
      refine z_i2l (pc' := 52) hM275 rfl rfl ?_
      obtain ⟨s3, es3, hm⟩ := o_v hm
      refine z_putJ (pc' := 55) hM275 rfl rfl rfl es3 ?_
      exact c275_55 hG hm
  · replace hm := o_f hm h1
    exact c275_55 hG hm
def m275_16 (x1 : Int) (x2 : Int) (x4 : Int) (y0 : Int) (s : zS) : Option (Int × zS) := if x1 = (0 : Int) then if y0 = (0 : Int) then m275_38 x1 x2 x4 y0 s else oV (s.2.1 209 107) fun z3 => oV (zCmp z3 (-1 : Int)) fun z4 => if z4 = (0 : Int) then oV (sJ s 209 107 x4) fun s6 => m275_55 x1 x2 y0 s6 else m275_38 x1 x2 x4 y0 s else m275_38 x1 x2 x4 y0 s
theorem c275_16 {G : aHp} {d : Nat} (hG : zG G) {x1 : Int} {x2 : Int} {x4 : Int} {y0 : Int} {d3 d5 : Option zV} {s : zS} {r_ : Int} {s_ : zS} (hm : m275_16 x1 x2 x4 y0 s = some (r_, s_)) : Zp G (d + 1) 275 16 [some (zr 12 0 209), some (zi x1), some (zj x2), d3, some (zi x4), d5] [zi y0] s (zRet none s_) := by
  replace hm : (if x1 = (0 : Int) then if y0 = (0 : Int) then m275_38 x1 x2 x4 y0 s else oV (s.2.1 209 107) fun z3 => oV (zCmp z3 (-1 : Int)) fun z4 => if z4 = (0 : Int) then oV (sJ s 209 107 x4) fun s6 => m275_55 x1 x2 y0 s6 else m275_38 x1 x2 x4 y0 s else m275_38 x1 x2 x4 y0 s) = some (r_, s_) := hm
  refine z_istore (pc' := 18) (l' := [some (zr 12 0 209), some (zi x1), some (zj x2), d3, some (zi x4), some (zi y0)]) hM275 rfl rfl rfl rfl ?_
  refine z_iload_n (pc' := 19) hM275 rfl rfl rfl ?_
  refine z_ifne (pc' := 22) (t := 38) hM275 rfl rfl (fun h1 => ?_) (fun h1 => ?_)
  · replace hm := o_t hm h1
    refine z_iload (pc' := 24) hM275 rfl rfl rfl ?_
    refine z_ifeq (pc' := 27) (t := 38) hM275 rfl rfl (fun h2 => ?_) (fun h2 => ?_)
    · replace hm := o_t hm h2
      exact c275_38 hG hm
    · replace hm := o_f hm h2
      refine z_aload_n (pc' := 28) hM275 rfl rfl rfl ?_
      obtain ⟨z3, ez3, hm⟩ := o_v hm
      refine z_fldJ (pc' := 31) hM275 rfl rfl rfl ez3 ?_
      refine z_ldc2 (pc' := 34) hM275 rfl rfl rfl ?_
      obtain ⟨z4, ez4, hm⟩ := o_v hm
      refine z_lcmp (pc' := 35) hM275 rfl rfl ez4 ?_
      refine z_ifeq (pc' := 38) (t := 48) hM275 rfl rfl (fun h5 => ?_) (fun h5 => ?_)
      · replace hm := o_t hm h5
        refine z_aload_n (pc' := 49) hM275 rfl rfl rfl ?_
        refine z_iload (pc' := 51) hM275 rfl rfl rfl ?_
        refine z_i2l (pc' := 52) hM275 rfl rfl ?_
        obtain ⟨s6, es6, hm⟩ := o_v hm
        refine z_putJ (pc' := 55) hM275 rfl rfl rfl es6 ?_
        exact c275_55 hG hm
      · replace hm := o_f hm h5
        exact c275_38 hG hm
  · replace hm := o_f hm h1
    exact c275_38 hG hm
def m275 (x1 : Int) (x2 : Int) (x4 : Int) (s : zS) : Option (Int × zS) := if x1 < (3 : Int) then oV (zCmp x2 (1 : Int)) fun z2 => if z2 = (0 : Int) then m275_16 x1 x2 x4 (1 : Int) s else m275_16 x1 x2 x4 (0 : Int) s else m275_16 x1 x2 x4 (0 : Int) s
theorem c275 {G : aHp} {d : Nat} (hG : zG G) {x1 : Int} {x2 : Int} {x4 : Int} {s : zS} {r_ : Int} {s_ : zS} (hm : m275 x1 x2 x4 s = some (r_, s_)) : Zp G (d + 1) 275 0 [some (zr 12 0 209), some (zi x1), some (zj x2), none, some (zi x4), none] [] s (zRet none s_) := by
  replace hm : (if x1 < (3 : Int) then oV (zCmp x2 (1 : Int)) fun z2 => if z2 = (0 : Int) then m275_16 x1 x2 x4 (1 : Int) s else m275_16 x1 x2 x4 (0 : Int) s else m275_16 x1 x2 x4 (0 : Int) s) = some (r_, s_) := hm
  refine z_iload_n (pc' := 1) hM275 rfl rfl rfl ?_
  refine z_iconst (pc' := 2) hM275 rfl rfl rfl ?_
  refine z_cmpge (pc' := 5) (t := 15) hM275 rfl rfl (fun h1 => ?_) (fun h1 => ?_)
  · replace hm := o_t hm h1
    refine z_lload_n (pc' := 6) hM275 rfl rfl rfl ?_
    refine z_lconst (pc' := 7) (x := (1 : Int)) hM275 rfl rfl rfl rfl ?_
    obtain ⟨z2, ez2, hm⟩ := o_v hm
    refine z_lcmp (pc' := 8) hM275 rfl rfl ez2 ?_
    refine z_ifne (pc' := 11) (t := 15) hM275 rfl rfl (fun h3 => ?_) (fun h3 => ?_)
    · replace hm := o_t hm h3
      refine z_iconst (pc' := 12) hM275 rfl rfl rfl ?_
      refine z_goto (t := 16) hM275 rfl ?_
      exact c275_16 hG hm
    · replace hm := o_f hm h3
      refine z_iconst (pc' := 16) hM275 rfl rfl rfl ?_
      exact c275_16 hG hm
  · replace hm := o_f hm h1
    refine z_iconst (pc' := 16) hM275 rfl rfl rfl ?_
    exact c275_16 hG hm
def m276_172 : Nat → Int → Int → zS → Option (Int × zS)
  | 0, _, _, _ => none
  | n + 1, x1, x2, s => oC (m183 s) fun z1 s2 => if x2 < z1 then oC (m273 x2 s2) fun z5 s6 => oC (m275 x1 z5 x2 s6) fun z8 s9 => oZ (x2 + (1 : Int)) fun z11 => m276_172 n x1 z11 s9 else oV (s2.2.1 209 107) fun z13 => some (z13, s2)
set_option maxRecDepth 20000 in
theorem c276_172 {G : aHp} {d : Nat} (hG : zG G) : ∀ {n : Nat} {x1 : Int} {x2 : Int} {s : zS} {r_ : Int} {s_ : zS}, m276_172 n x1 x2 s = some (r_, s_) → Zp G (d + 10) 276 172 [some (zr 12 0 209), some (zi x1), some (zi x2)] [] s (zRet (some (zj r_)) s_) := by
  intro n
  induction n with
  | zero => intro x1 x2 s r_ s_ hm; cases hm
  | succ n ih =>
  intro x1 x2 s r_ s_ hm
  replace hm : (oC (m183 s) fun z1 s2 => if x2 < z1 then oC (m273 x2 s2) fun z5 s6 => oC (m275 x1 z5 x2 s6) fun z8 s9 => oZ (x2 + (1 : Int)) fun z11 => m276_172 n x1 z11 s9 else oV (s2.2.1 209 107) fun z13 => some (z13, s2)) = some (r_, s_) := hm
  refine z_iload_n (pc' := 173) hM276 rfl rfl rfl ?_
  refine z_aload_n (pc' := 174) hM276 rfl rfl rfl ?_
  obtain ⟨z1, s2, h3, hm⟩ := o_c hm
  refine z_cv (d := d + 9) (pc' := 177) hM276 rfl hM183 rfl rfl rfl rfl rfl rfl (c183 (d := d + 8) hG h3) rfl ?_
  refine z_cmpge (pc' := 180) (t := 197) hM276 rfl rfl (fun h4 => ?_) (fun h4 => ?_)
  · replace hm := o_t hm h4
    refine z_aload_n (pc' := 181) hM276 rfl rfl rfl ?_
    refine z_iload_n (pc' := 182) hM276 rfl rfl rfl ?_
    refine z_aload_n (pc' := 183) hM276 rfl rfl rfl ?_
    refine z_iload_n (pc' := 184) hM276 rfl rfl rfl ?_
    obtain ⟨z5, s6, h7, hm⟩ := o_c hm
    refine z_cv (d := d + 9) (pc' := 187) hM276 rfl hM273 rfl rfl rfl rfl rfl rfl (c273 (d := d + 5) hG h7) rfl ?_
    refine z_iload_n (pc' := 188) hM276 rfl rfl rfl ?_
    obtain ⟨z8, s9, h10, hm⟩ := o_c hm
    refine z_cvV (d := d + 9) (pc' := 191) hM276 rfl hM275 rfl rfl rfl rfl rfl rfl (c275 (d := d + 8) hG h10) rfl ?_
    obtain ⟨z11, ez11, h12, hm⟩ := o_z hm
    refine z_iinc (pc' := 194) (l' := [some (zr 12 0 209), some (zi x1), some (zi z11)]) hM276 rfl rfl rfl ez11 h12 rfl rfl ?_
    refine z_goto (t := 172) hM276 rfl ?_
    exact ih hm
  · replace hm := o_f hm h4
    refine z_aload_n (pc' := 198) hM276 rfl rfl rfl ?_
    obtain ⟨z13, ez13, hm⟩ := o_v hm
    refine z_fldJ (pc' := 201) hM276 rfl rfl rfl ez13 ?_
    cases hm
    exact z_retJ hM276 rfl rfl ⟨rfl, rfl⟩
def m276_157 (x1 : Int) (y1 : Int) (s : zS) : Option (Int × zS) := oV (sJ s 209 107 y1) fun s1 => oV (sI s1 209 108 (1 : Int)) fun s2 => oV (sI s2 209 53 (0 : Int)) fun s3 => m276_172 zFu x1 (0 : Int) s3
set_option maxRecDepth 20000 in
theorem c276_157 {G : aHp} {d : Nat} (hG : zG G) {x1 : Int} {y1 : Int} {d2 : Option zV} {s : zS} {r_ : Int} {s_ : zS} (hm : m276_157 x1 y1 s = some (r_, s_)) : Zp G (d + 10) 276 157 [some (zr 12 0 209), some (zi x1), d2] [zj y1, zr 12 0 209] s (zRet (some (zj r_)) s_) := by
  replace hm : (oV (sJ s 209 107 y1) fun s1 => oV (sI s1 209 108 (1 : Int)) fun s2 => oV (sI s2 209 53 (0 : Int)) fun s3 => m276_172 zFu x1 (0 : Int) s3) = some (r_, s_) := hm
  obtain ⟨s1, es1, hm⟩ := o_v hm
  refine z_putJ (pc' := 160) hM276 rfl rfl rfl es1 ?_
  refine z_aload_n (pc' := 161) hM276 rfl rfl rfl ?_
  refine z_iconst (pc' := 162) hM276 rfl rfl rfl ?_
  obtain ⟨s2, es2, hm⟩ := o_v hm
  refine z_putZ (pc' := 165) hM276 rfl (Or.inr rfl) rfl rfl es2 ?_
  refine z_aload_n (pc' := 166) hM276 rfl rfl rfl ?_
  refine z_iconst (pc' := 167) hM276 rfl rfl rfl ?_
  obtain ⟨s3, es3, hm⟩ := o_v hm
  refine z_putZ (pc' := 170) hM276 rfl (Or.inl rfl) rfl rfl es3 ?_
  refine z_iconst (pc' := 171) hM276 rfl rfl rfl ?_
  refine z_istore_n (pc' := 172) (l' := [some (zr 12 0 209), some (zi x1), some (zi (0 : Int))]) hM276 rfl rfl rfl rfl ?_
  exact c276_172 hG hm
def m276_117 (x1 : Int) (s : zS) : Option (Int × zS) := oV (s.1 209 5) fun z1 => oV (sI s 209 7 z1) fun s2 => oV (s2.1 209 6) fun z3 => oV (sI s2 209 8 z3) fun s4 => oV (s4.1 209 5) fun z5 => if z5 = (0 : Int) then if x1 < (2 : Int) then m276_157 x1 (-1 : Int) s4 else m276_157 x1 (0 : Int) s4 else some ((-1000000000000000 : Int), s4)
set_option maxRecDepth 20000 in
theorem c276_117 {G : aHp} {d : Nat} (hG : zG G) {x1 : Int} {d2 : Option zV} {s : zS} {r_ : Int} {s_ : zS} (hm : m276_117 x1 s = some (r_, s_)) : Zp G (d + 10) 276 117 [some (zr 12 0 209), some (zi x1), d2] [] s (zRet (some (zj r_)) s_) := by
  replace hm : (oV (s.1 209 5) fun z1 => oV (sI s 209 7 z1) fun s2 => oV (s2.1 209 6) fun z3 => oV (sI s2 209 8 z3) fun s4 => oV (s4.1 209 5) fun z5 => if z5 = (0 : Int) then if x1 < (2 : Int) then m276_157 x1 (-1 : Int) s4 else m276_157 x1 (0 : Int) s4 else some ((-1000000000000000 : Int), s4)) = some (r_, s_) := hm
  refine z_aload_n (pc' := 118) hM276 rfl rfl rfl ?_
  refine z_aload_n (pc' := 119) hM276 rfl rfl rfl ?_
  obtain ⟨z1, ez1, hm⟩ := o_v hm
  refine z_fldI (pc' := 122) hM276 rfl rfl rfl ez1 ?_
  obtain ⟨s2, es2, hm⟩ := o_v hm
  refine z_putI (pc' := 125) hM276 rfl rfl rfl es2 ?_
  refine z_aload_n (pc' := 126) hM276 rfl rfl rfl ?_
  refine z_aload_n (pc' := 127) hM276 rfl rfl rfl ?_
  obtain ⟨z3, ez3, hm⟩ := o_v hm
  refine z_fldI (pc' := 130) hM276 rfl rfl rfl ez3 ?_
  obtain ⟨s4, es4, hm⟩ := o_v hm
  refine z_putI (pc' := 133) hM276 rfl rfl rfl es4 ?_
  refine z_aload_n (pc' := 134) hM276 rfl rfl rfl ?_
  obtain ⟨z5, ez5, hm⟩ := o_v hm
  refine z_fldI (pc' := 137) hM276 rfl rfl rfl ez5 ?_
  refine z_ifeq (pc' := 140) (t := 144) hM276 rfl rfl (fun h6 => ?_) (fun h6 => ?_)
  · replace hm := o_t hm h6
    refine z_aload_n (pc' := 145) hM276 rfl rfl rfl ?_
    refine z_iload_n (pc' := 146) hM276 rfl rfl rfl ?_
    refine z_iconst (pc' := 147) hM276 rfl rfl rfl ?_
    refine z_cmpge (pc' := 150) (t := 156) hM276 rfl rfl (fun h7 => ?_) (fun h7 => ?_)
    · replace hm := o_t hm h7
      refine z_ldc2 (pc' := 153) hM276 rfl rfl rfl ?_
      refine z_goto (t := 157) hM276 rfl ?_
      exact c276_157 hG hm
    · replace hm := o_f hm h7
      refine z_lconst (pc' := 157) (x := (0 : Int)) hM276 rfl rfl rfl rfl ?_
      exact c276_157 hG hm
  · replace hm := o_f hm h6
    refine z_ldc2 (pc' := 143) hM276 rfl rfl rfl ?_
    cases hm
    exact z_retJ hM276 rfl rfl ⟨rfl, rfl⟩
def m276_93 (x1 : Int) (s : zS) : Option (Int × zS) := oV (s.1 209 5) fun z1 => if z1 = (0 : Int) then oC (m156 s) fun z3 s4 => if z3 = (-1 : Int) then m276_117 x1 s4 else oV (s4.1 209 2) fun z7 => oC (m153 (1 : Int) z7 s4) fun z8 s9 => m276_117 x1 s9 else m276_117 x1 s
set_option maxRecDepth 20000 in
theorem c276_93 {G : aHp} {d : Nat} (hG : zG G) {x1 : Int} {d2 : Option zV} {s : zS} {r_ : Int} {s_ : zS} (hm : m276_93 x1 s = some (r_, s_)) : Zp G (d + 10) 276 93 [some (zr 12 0 209), some (zi x1), d2] [] s (zRet (some (zj r_)) s_) := by
  replace hm : (oV (s.1 209 5) fun z1 => if z1 = (0 : Int) then oC (m156 s) fun z3 s4 => if z3 = (-1 : Int) then m276_117 x1 s4 else oV (s4.1 209 2) fun z7 => oC (m153 (1 : Int) z7 s4) fun z8 s9 => m276_117 x1 s9 else m276_117 x1 s) = some (r_, s_) := hm
  refine z_aload_n (pc' := 94) hM276 rfl rfl rfl ?_
  obtain ⟨z1, ez1, hm⟩ := o_v hm
  refine z_fldI (pc' := 97) hM276 rfl rfl rfl ez1 ?_
  refine z_ifne (pc' := 100) (t := 117) hM276 rfl rfl (fun h2 => ?_) (fun h2 => ?_)
  · replace hm := o_t hm h2
    refine z_aload_n (pc' := 101) hM276 rfl rfl rfl ?_
    obtain ⟨z3, s4, h5, hm⟩ := o_c hm
    refine z_cv (d := d + 9) (pc' := 104) hM276 rfl hM156 rfl rfl rfl rfl rfl rfl (c156 (d := d + 8) hG h5) rfl ?_
    refine z_iconst (pc' := 105) hM276 rfl rfl rfl ?_
    refine z_cmpeq (pc' := 108) (t := 117) hM276 rfl rfl (fun h6 => ?_) (fun h6 => ?_)
    · replace hm := o_t hm h6
      exact c276_117 hG hm
    · replace hm := o_f hm h6
      refine z_aload_n (pc' := 109) hM276 rfl rfl rfl ?_
      refine z_iconst (pc' := 110) hM276 rfl rfl rfl ?_
      refine z_aload_n (pc' := 111) hM276 rfl rfl rfl ?_
      obtain ⟨z7, ez7, hm⟩ := o_v hm
      refine z_fldI (pc' := 114) hM276 rfl rfl rfl ez7 ?_
      obtain ⟨z8, s9, h10, hm⟩ := o_c hm
      refine z_cvV (d := d + 9) (pc' := 117) hM276 rfl hM153 rfl rfl rfl rfl rfl rfl (c153 (d := d + 8) hG h10) rfl ?_
      exact c276_117 hG hm
  · replace hm := o_f hm h2
    exact c276_117 hG hm
def m276  (s : zS) : Option (Int × zS) := oV (s.1 209 1) fun z1 => oV (sI s 209 3 z1) fun s2 => oV (sI s2 209 1 (0 : Int)) fun s3 => oV (sI s3 209 2 (0 : Int)) fun s4 => oV (sI s4 209 4 (-1 : Int)) fun s5 => oV (sI s5 209 5 (0 : Int)) fun s6 => oV (sI s6 209 6 (-1 : Int)) fun s7 => oV (sI s7 209 53 (0 : Int)) fun s8 => oV (sI s8 209 100 (0 : Int)) fun s9 => oV (sI s9 209 102 (0 : Int)) fun s10 => oV (sI s10 209 103 (0 : Int)) fun s11 => oV (sI s11 209 104 (0 : Int)) fun s12 => oC (m274 s12) fun z13 s14 => oV (s14.1 209 5) fun z16 => if z16 = (0 : Int) then if z13 < (3 : Int) then oC (m265 s14) fun z19 s20 => m276_93 z13 s20 else oV (s14.1 209 5) fun z22 => if z22 = (0 : Int) then oC (m261 s14) fun z24 s25 => m276_93 z13 s25 else m276_93 z13 s14 else oV (s14.1 209 5) fun z27 => if z27 = (0 : Int) then oC (m261 s14) fun z29 s30 => m276_93 z13 s30 else m276_93 z13 s14
set_option maxRecDepth 20000 in
theorem c276 {G : aHp} {d : Nat} (hG : zG G) {s : zS} {r_ : Int} {s_ : zS} (hm : m276  s = some (r_, s_)) : Zp G (d + 10) 276 0 [some (zr 12 0 209), none, none] [] s (zRet (some (zj r_)) s_) := by
  replace hm : (oV (s.1 209 1) fun z1 => oV (sI s 209 3 z1) fun s2 => oV (sI s2 209 1 (0 : Int)) fun s3 => oV (sI s3 209 2 (0 : Int)) fun s4 => oV (sI s4 209 4 (-1 : Int)) fun s5 => oV (sI s5 209 5 (0 : Int)) fun s6 => oV (sI s6 209 6 (-1 : Int)) fun s7 => oV (sI s7 209 53 (0 : Int)) fun s8 => oV (sI s8 209 100 (0 : Int)) fun s9 => oV (sI s9 209 102 (0 : Int)) fun s10 => oV (sI s10 209 103 (0 : Int)) fun s11 => oV (sI s11 209 104 (0 : Int)) fun s12 => oC (m274 s12) fun z13 s14 => oV (s14.1 209 5) fun z16 => if z16 = (0 : Int) then if z13 < (3 : Int) then oC (m265 s14) fun z19 s20 => m276_93 z13 s20 else oV (s14.1 209 5) fun z22 => if z22 = (0 : Int) then oC (m261 s14) fun z24 s25 => m276_93 z13 s25 else m276_93 z13 s14 else oV (s14.1 209 5) fun z27 => if z27 = (0 : Int) then oC (m261 s14) fun z29 s30 => m276_93 z13 s30 else m276_93 z13 s14) = some (r_, s_) := hm
  refine z_aload_n (pc' := 1) hM276 rfl rfl rfl ?_
  refine z_aload_n (pc' := 2) hM276 rfl rfl rfl ?_
  obtain ⟨z1, ez1, hm⟩ := o_v hm
  refine z_fldI (pc' := 5) hM276 rfl rfl rfl ez1 ?_
  obtain ⟨s2, es2, hm⟩ := o_v hm
  refine z_putI (pc' := 8) hM276 rfl rfl rfl es2 ?_
  refine z_aload_n (pc' := 9) hM276 rfl rfl rfl ?_
  refine z_iconst (pc' := 10) hM276 rfl rfl rfl ?_
  obtain ⟨s3, es3, hm⟩ := o_v hm
  refine z_putI (pc' := 13) hM276 rfl rfl rfl es3 ?_
  refine z_aload_n (pc' := 14) hM276 rfl rfl rfl ?_
  refine z_iconst (pc' := 15) hM276 rfl rfl rfl ?_
  obtain ⟨s4, es4, hm⟩ := o_v hm
  refine z_putI (pc' := 18) hM276 rfl rfl rfl es4 ?_
  refine z_aload_n (pc' := 19) hM276 rfl rfl rfl ?_
  refine z_iconst (pc' := 20) hM276 rfl rfl rfl ?_
  obtain ⟨s5, es5, hm⟩ := o_v hm
  refine z_putI (pc' := 23) hM276 rfl rfl rfl es5 ?_
  refine z_aload_n (pc' := 24) hM276 rfl rfl rfl ?_
  refine z_iconst (pc' := 25) hM276 rfl rfl rfl ?_
  obtain ⟨s6, es6, hm⟩ := o_v hm
  refine z_putI (pc' := 28) hM276 rfl rfl rfl es6 ?_
  refine z_aload_n (pc' := 29) hM276 rfl rfl rfl ?_
  refine z_iconst (pc' := 30) hM276 rfl rfl rfl ?_
  obtain ⟨s7, es7, hm⟩ := o_v hm
  refine z_putI (pc' := 33) hM276 rfl rfl rfl es7 ?_
  refine z_aload_n (pc' := 34) hM276 rfl rfl rfl ?_
  refine z_iconst (pc' := 35) hM276 rfl rfl rfl ?_
  obtain ⟨s8, es8, hm⟩ := o_v hm
  refine z_putZ (pc' := 38) hM276 rfl (Or.inl rfl) rfl rfl es8 ?_
  refine z_aload_n (pc' := 39) hM276 rfl rfl rfl ?_
  refine z_iconst (pc' := 40) hM276 rfl rfl rfl ?_
  obtain ⟨s9, es9, hm⟩ := o_v hm
  refine z_putI (pc' := 43) hM276 rfl rfl rfl es9 ?_
  refine z_aload_n (pc' := 44) hM276 rfl rfl rfl ?_
  refine z_iconst (pc' := 45) hM276 rfl rfl rfl ?_
  obtain ⟨s10, es10, hm⟩ := o_v hm
  refine z_putI (pc' := 48) hM276 rfl rfl rfl es10 ?_
  refine z_aload_n (pc' := 49) hM276 rfl rfl rfl ?_
  refine z_iconst (pc' := 50) hM276 rfl rfl rfl ?_
  obtain ⟨s11, es11, hm⟩ := o_v hm
  refine z_putI (pc' := 53) hM276 rfl rfl rfl es11 ?_
  refine z_aload_n (pc' := 54) hM276 rfl rfl rfl ?_
  refine z_iconst (pc' := 55) hM276 rfl rfl rfl ?_
  obtain ⟨s12, es12, hm⟩ := o_v hm
  refine z_putI (pc' := 58) hM276 rfl rfl rfl es12 ?_
  refine z_aload_n (pc' := 59) hM276 rfl rfl rfl ?_
  obtain ⟨z13, s14, h15, hm⟩ := o_c hm
  refine z_cv (d := d + 9) (pc' := 62) hM276 rfl hM274 rfl rfl rfl rfl rfl rfl (c274 (d := d + 4) hG h15) rfl ?_
  refine z_istore_n (pc' := 63) (l' := [some (zr 12 0 209), some (zi z13), none]) hM276 rfl rfl rfl rfl ?_
  refine z_aload_n (pc' := 64) hM276 rfl rfl rfl ?_
  obtain ⟨z16, ez16, hm⟩ := o_v hm
  refine z_fldI (pc' := 67) hM276 rfl rfl rfl ez16 ?_
  refine z_ifne (pc' := 70) (t := 82) hM276 rfl rfl (fun h17 => ?_) (fun h17 => ?_)
  · replace hm := o_t hm h17
    refine z_iload_n (pc' := 71) hM276 rfl rfl rfl ?_
    refine z_iconst (pc' := 72) hM276 rfl rfl rfl ?_
    refine z_cmpge (pc' := 75) (t := 82) hM276 rfl rfl (fun h18 => ?_) (fun h18 => ?_)
    · replace hm := o_t hm h18
      refine z_aload_n (pc' := 76) hM276 rfl rfl rfl ?_
      obtain ⟨z19, s20, h21, hm⟩ := o_c hm
      refine z_cvV (d := d + 9) (pc' := 79) hM276 rfl hM265 rfl rfl rfl rfl rfl rfl (c265 (d := d) hG h21) rfl ?_
      refine z_goto (t := 93) hM276 rfl ?_
      exact c276_93 hG hm
    · replace hm := o_f hm h18
      refine z_aload_n (pc' := 83) hM276 rfl rfl rfl ?_
      obtain ⟨z22, ez22, hm⟩ := o_v hm
      refine z_fldI (pc' := 86) hM276 rfl rfl rfl ez22 ?_
      refine z_ifne (pc' := 89) (t := 93) hM276 rfl rfl (fun h23 => ?_) (fun h23 => ?_)
      · replace hm := o_t hm h23
        refine z_aload_n (pc' := 90) hM276 rfl rfl rfl ?_
        obtain ⟨z24, s25, h26, hm⟩ := o_c hm
        refine z_cvV (d := d + 9) (pc' := 93) hM276 rfl hM261 rfl rfl rfl rfl rfl rfl (c261 (d := d + 2) hG h26) rfl ?_
        exact c276_93 hG hm
      · replace hm := o_f hm h23
        exact c276_93 hG hm
  · replace hm := o_f hm h17
    refine z_aload_n (pc' := 83) hM276 rfl rfl rfl ?_
    obtain ⟨z27, ez27, hm⟩ := o_v hm
    refine z_fldI (pc' := 86) hM276 rfl rfl rfl ez27 ?_
    refine z_ifne (pc' := 89) (t := 93) hM276 rfl rfl (fun h28 => ?_) (fun h28 => ?_)
    · replace hm := o_t hm h28
      refine z_aload_n (pc' := 90) hM276 rfl rfl rfl ?_
      obtain ⟨z29, s30, h31, hm⟩ := o_c hm
      refine z_cvV (d := d + 9) (pc' := 93) hM276 rfl hM261 rfl rfl rfl rfl rfl rfl (c261 (d := d + 2) hG h31) rfl ?_
      exact c276_93 hG hm
    · replace hm := o_f hm h28
      exact c276_93 hG hm
def m277_5 : Nat → Nat → Nat → Int → Int → Int → zS → Option (Int × zS)
  | 0, _, _, _, _, _, _ => none
  | n + 1, n0, a0, x1, x2, x3, s => if x3 < x1 then oZ ((3 : Int) * x2) fun z2 => oX x3 n0 (oV (s.1 a0 x3) fun z4 => oZ (z2 + z4) fun z6 => oN (251 : Int) (oV (Int.tmod z6 (251 : Int)) fun z8 => oZ (x3 + (1 : Int)) fun z9 => m277_5 n n0 a0 x1 z8 z9 s)) else some (x2, s)
theorem c277_5 {G : aHp} {d : Nat} (hG : zG G) : ∀ {n : Nat} {n0 : Nat} {a0 : Nat} {x1 : Int} {x2 : Int} {x3 : Int} {s : zS} {r_ : Int} {s_ : zS}, m277_5 n n0 a0 x1 x2 x3 s = some (r_, s_) → Zp G (d + 1) 277 5 [some (zr 100 n0 a0), some (zi x1), some (zi x2), some (zi x3)] [] s (zRet (some (zi r_)) s_) := by
  intro n
  induction n with
  | zero => intro n0 a0 x1 x2 x3 s r_ s_ hm; cases hm
  | succ n ih =>
  intro n0 a0 x1 x2 x3 s r_ s_ hm
  replace hm : (if x3 < x1 then oZ ((3 : Int) * x2) fun z2 => oX x3 n0 (oV (s.1 a0 x3) fun z4 => oZ (z2 + z4) fun z6 => oN (251 : Int) (oV (Int.tmod z6 (251 : Int)) fun z8 => oZ (x3 + (1 : Int)) fun z9 => m277_5 n n0 a0 x1 z8 z9 s)) else some (x2, s)) = some (r_, s_) := hm
  refine z_iload_n (pc' := 6) hM277 rfl rfl rfl ?_
  refine z_iload_n (pc' := 7) hM277 rfl rfl rfl ?_
  refine z_cmpge (pc' := 10) (t := 28) hM277 rfl rfl (fun h1 => ?_) (fun h1 => ?_)
  · replace hm := o_t hm h1
    refine z_iconst (pc' := 11) hM277 rfl rfl rfl ?_
    refine z_iload_n (pc' := 12) hM277 rfl rfl rfl ?_
    obtain ⟨z2, ez2, h3, hm⟩ := o_z hm
    refine z_imul (pc' := 13) hM277 rfl rfl ez2 h3 ?_
    refine z_aload_n (pc' := 14) hM277 rfl rfl rfl ?_
    refine z_iload_n (pc' := 15) hM277 rfl rfl rfl ?_
    obtain ⟨h5, hm⟩ := o_x hm
    obtain ⟨z4, ez4, hm⟩ := o_v hm
    refine z_iald (pc' := 16) (zGN hG) hM277 rfl rfl h5 ez4 ?_
    obtain ⟨z6, ez6, h7, hm⟩ := o_z hm
    refine z_iadd (pc' := 17) hM277 rfl rfl ez6 h7 ?_
    refine z_sipush (pc' := 20) hM277 rfl rfl rfl ?_
    obtain ⟨nz8, hm⟩ := o_n hm
    obtain ⟨z8, ez8, hm⟩ := o_v hm
    refine z_irem (pc' := 21) hM277 rfl rfl nz8 ez8 ?_
    refine z_istore_n (pc' := 22) (l' := [some (zr 100 n0 a0), some (zi x1), some (zi z8), some (zi x3)]) hM277 rfl rfl rfl rfl ?_
    obtain ⟨z9, ez9, h10, hm⟩ := o_z hm
    refine z_iinc (pc' := 25) (l' := [some (zr 100 n0 a0), some (zi x1), some (zi z8), some (zi z9)]) hM277 rfl rfl rfl ez9 h10 rfl rfl ?_
    refine z_goto (t := 5) hM277 rfl ?_
    exact ih hm
  · replace hm := o_f hm h1
    refine z_iload_n (pc' := 29) hM277 rfl rfl rfl ?_
    cases hm
    exact z_retI hM277 rfl rfl ⟨rfl, rfl⟩
def m277 (n0 : Nat) (a0 : Nat) (x1 : Int) (s : zS) : Option (Int × zS) := m277_5 zFu n0 a0 x1 (103 : Int) (0 : Int) s
theorem c277 {G : aHp} {d : Nat} (hG : zG G) {n0 : Nat} {a0 : Nat} {x1 : Int} {s : zS} {r_ : Int} {s_ : zS} (hm : m277 n0 a0 x1 s = some (r_, s_)) : Zp G (d + 1) 277 0 [some (zr 100 n0 a0), some (zi x1), none, none] [] s (zRet (some (zi r_)) s_) := by
  replace hm : (m277_5 zFu n0 a0 x1 (103 : Int) (0 : Int) s) = some (r_, s_) := hm
  refine z_bipush (pc' := 2) hM277 rfl rfl rfl ?_
  refine z_istore_n (pc' := 3) (l' := [some (zr 100 n0 a0), some (zi x1), some (zi (103 : Int)), none]) hM277 rfl rfl rfl rfl ?_
  refine z_iconst (pc' := 4) hM277 rfl rfl rfl ?_
  refine z_istore_n (pc' := 5) (l' := [some (zr 100 n0 a0), some (zi x1), some (zi (103 : Int)), some (zi (0 : Int))]) hM277 rfl rfl rfl rfl ?_
  exact c277_5 hG hm
def m278 (x1 : Int) (s : zS) : Option (Int × zS) := oV (s.1 209 110) fun z1 => oX z1 44 (oV (sI s 288 z1 x1) fun s2 => oV (s2.1 209 110) fun z4 => oZ (z4 + (1 : Int)) fun z5 => oV (sI s2 209 110 z5) fun s7 => some (0, s7))
theorem c278 {G : aHp} {d : Nat} (hG : zG G) {x1 : Int} {s : zS} {r_ : Int} {s_ : zS} (hm : m278 x1 s = some (r_, s_)) : Zp G (d + 1) 278 0 [some (zr 12 0 209), some (zi x1)] [] s (zRet none s_) := by
  replace hm : (oV (s.1 209 110) fun z1 => oX z1 44 (oV (sI s 288 z1 x1) fun s2 => oV (s2.1 209 110) fun z4 => oZ (z4 + (1 : Int)) fun z5 => oV (sI s2 209 110 z5) fun s7 => some (0, s7))) = some (r_, s_) := hm
  refine z_aload_n (pc' := 1) hM278 rfl rfl rfl ?_
  refine z_fldR (pc' := 4) hM278 rfl (zf_12_109 hG) rfl rfl ?_
  refine z_aload_n (pc' := 5) hM278 rfl rfl rfl ?_
  obtain ⟨z1, ez1, hm⟩ := o_v hm
  refine z_fldI (pc' := 8) hM278 rfl rfl rfl ez1 ?_
  refine z_iload_n (pc' := 9) hM278 rfl rfl rfl ?_
  obtain ⟨h3, hm⟩ := o_x hm
  obtain ⟨s2, es2, hm⟩ := o_v hm
  refine z_iast (pc' := 10) hM278 rfl rfl h3 es2 ?_
  refine z_aload_n (pc' := 11) hM278 rfl rfl rfl ?_
  refine z_dupA (pc' := 12) hM278 rfl rfl ?_
  obtain ⟨z4, ez4, hm⟩ := o_v hm
  refine z_fldI (pc' := 15) hM278 rfl rfl rfl ez4 ?_
  refine z_iconst (pc' := 16) hM278 rfl rfl rfl ?_
  obtain ⟨z5, ez5, h6, hm⟩ := o_z hm
  refine z_iadd (pc' := 17) hM278 rfl rfl ez5 h6 ?_
  obtain ⟨s7, es7, hm⟩ := o_v hm
  refine z_putI (pc' := 20) hM278 rfl rfl rfl es7 ?_
  cases hm
  exact z_retV hM278 rfl rfl ⟨rfl, rfl⟩
def m279_132 : Nat → Int → zS → Option (Int × zS)
  | 0, _, _ => none
  | n + 1, x1, s => oX (28 : Int) 37 (oV (s.1 254 (28 : Int)) fun z1 => if x1 < z1 then oZ ((29 : Int) + x1) fun z4 => oX z4 37 (oV (s.1 254 z4) fun z6 => oC (m278 z6 s) fun z8 s9 => oZ (x1 + (1 : Int)) fun z11 => m279_132 n z11 s9) else oV (s.1 209 110) fun z13 => oC (m277 44 288 z13 s) fun z14 s15 => oC (m278 z14 s15) fun z17 s18 => oV (s18.1 209 110) fun z20 => some (z20, s18))
set_option maxRecDepth 20000 in
theorem c279_132 {G : aHp} {d : Nat} (hG : zG G) : ∀ {n : Nat} {x1 : Int} {s : zS} {r_ : Int} {s_ : zS}, m279_132 n x1 s = some (r_, s_) → Zp G (d + 2) 279 132 [some (zr 12 0 209), some (zi x1)] [] s (zRet (some (zi r_)) s_) := by
  intro n
  induction n with
  | zero => intro x1 s r_ s_ hm; cases hm
  | succ n ih =>
  intro x1 s r_ s_ hm
  replace hm : (oX (28 : Int) 37 (oV (s.1 254 (28 : Int)) fun z1 => if x1 < z1 then oZ ((29 : Int) + x1) fun z4 => oX z4 37 (oV (s.1 254 z4) fun z6 => oC (m278 z6 s) fun z8 s9 => oZ (x1 + (1 : Int)) fun z11 => m279_132 n z11 s9) else oV (s.1 209 110) fun z13 => oC (m277 44 288 z13 s) fun z14 s15 => oC (m278 z14 s15) fun z17 s18 => oV (s18.1 209 110) fun z20 => some (z20, s18))) = some (r_, s_) := hm
  refine z_iload_n (pc' := 133) hM279 rfl rfl rfl ?_
  refine z_aload_n (pc' := 134) hM279 rfl rfl rfl ?_
  refine z_fldR (pc' := 137) hM279 rfl (zf_12_56 hG) rfl rfl ?_
  refine z_bipush (pc' := 139) hM279 rfl rfl rfl ?_
  obtain ⟨h2, hm⟩ := o_x hm
  obtain ⟨z1, ez1, hm⟩ := o_v hm
  refine z_iald (pc' := 140) (zGN hG) hM279 rfl rfl h2 ez1 ?_
  refine z_cmpge (pc' := 143) (t := 162) hM279 rfl rfl (fun h3 => ?_) (fun h3 => ?_)
  · replace hm := o_t hm h3
    refine z_aload_n (pc' := 144) hM279 rfl rfl rfl ?_
    refine z_aload_n (pc' := 145) hM279 rfl rfl rfl ?_
    refine z_fldR (pc' := 148) hM279 rfl (zf_12_56 hG) rfl rfl ?_
    refine z_bipush (pc' := 150) hM279 rfl rfl rfl ?_
    refine z_iload_n (pc' := 151) hM279 rfl rfl rfl ?_
    obtain ⟨z4, ez4, h5, hm⟩ := o_z hm
    refine z_iadd (pc' := 152) hM279 rfl rfl ez4 h5 ?_
    obtain ⟨h7, hm⟩ := o_x hm
    obtain ⟨z6, ez6, hm⟩ := o_v hm
    refine z_iald (pc' := 153) (zGN hG) hM279 rfl rfl h7 ez6 ?_
    obtain ⟨z8, s9, h10, hm⟩ := o_c hm
    refine z_cvV (d := d + 1) (pc' := 156) hM279 rfl hM278 rfl rfl rfl rfl rfl rfl (c278 (d := d) hG h10) rfl ?_
    obtain ⟨z11, ez11, h12, hm⟩ := o_z hm
    refine z_iinc (pc' := 159) (l' := [some (zr 12 0 209), some (zi z11)]) hM279 rfl rfl rfl ez11 h12 rfl rfl ?_
    refine z_goto (t := 132) hM279 rfl ?_
    exact ih hm
  · replace hm := o_f hm h3
    refine z_aload_n (pc' := 163) hM279 rfl rfl rfl ?_
    refine z_aload_n (pc' := 164) hM279 rfl rfl rfl ?_
    refine z_fldR (pc' := 167) hM279 rfl (zf_12_109 hG) rfl rfl ?_
    refine z_aload_n (pc' := 168) hM279 rfl rfl rfl ?_
    obtain ⟨z13, ez13, hm⟩ := o_v hm
    refine z_fldI (pc' := 171) hM279 rfl rfl rfl ez13 ?_
    obtain ⟨z14, s15, h16, hm⟩ := o_c hm
    refine z_cs (d := d + 1) (pc' := 174) hM279 rfl hM277 rfl rfl rfl rfl (c277 (d := d) hG h16) rfl ?_
    obtain ⟨z17, s18, h19, hm⟩ := o_c hm
    refine z_cvV (d := d + 1) (pc' := 177) hM279 rfl hM278 rfl rfl rfl rfl rfl rfl (c278 (d := d) hG h19) rfl ?_
    refine z_aload_n (pc' := 178) hM279 rfl rfl rfl ?_
    obtain ⟨z20, ez20, hm⟩ := o_v hm
    refine z_fldI (pc' := 181) hM279 rfl rfl rfl ez20 ?_
    cases hm
    exact z_retI hM279 rfl rfl ⟨rfl, rfl⟩
def m279_70 : Nat → Int → zS → Option (Int × zS)
  | 0, _, _ => none
  | n + 1, x1, s => oC (m183 s) fun z1 s2 => if x1 < z1 then oC (m188 x1 s2) fun z5 s6 => oC (m278 z5 s6) fun z8 s9 => oC (m189 x1 s9) fun z11 s12 => oZ (z11 + (1 : Int)) fun z14 => oC (m278 z14 s12) fun z16 s17 => oC (m190 x1 s17) fun z19 s20 => oN (256 : Int) (oZ (Int.tdiv z19 (256 : Int)) fun z22 => oC (m278 z22 s20) fun z24 s25 => oC (m190 x1 s25) fun z27 s28 => oN (256 : Int) (oV (Int.tmod z27 (256 : Int)) fun z30 => oC (m278 z30 s28) fun z31 s32 => oZ (x1 + (1 : Int)) fun z34 => m279_70 n z34 s32)) else m279_132 zFu (0 : Int) s2
set_option maxRecDepth 20000 in
theorem c279_70 {G : aHp} {d : Nat} (hG : zG G) : ∀ {n : Nat} {x1 : Int} {s : zS} {r_ : Int} {s_ : zS}, m279_70 n x1 s = some (r_, s_) → Zp G (d + 2) 279 70 [some (zr 12 0 209), some (zi x1)] [] s (zRet (some (zi r_)) s_) := by
  intro n
  induction n with
  | zero => intro x1 s r_ s_ hm; cases hm
  | succ n ih =>
  intro x1 s r_ s_ hm
  replace hm : (oC (m183 s) fun z1 s2 => if x1 < z1 then oC (m188 x1 s2) fun z5 s6 => oC (m278 z5 s6) fun z8 s9 => oC (m189 x1 s9) fun z11 s12 => oZ (z11 + (1 : Int)) fun z14 => oC (m278 z14 s12) fun z16 s17 => oC (m190 x1 s17) fun z19 s20 => oN (256 : Int) (oZ (Int.tdiv z19 (256 : Int)) fun z22 => oC (m278 z22 s20) fun z24 s25 => oC (m190 x1 s25) fun z27 s28 => oN (256 : Int) (oV (Int.tmod z27 (256 : Int)) fun z30 => oC (m278 z30 s28) fun z31 s32 => oZ (x1 + (1 : Int)) fun z34 => m279_70 n z34 s32)) else m279_132 zFu (0 : Int) s2) = some (r_, s_) := hm
  refine z_iload_n (pc' := 71) hM279 rfl rfl rfl ?_
  refine z_aload_n (pc' := 72) hM279 rfl rfl rfl ?_
  obtain ⟨z1, s2, h3, hm⟩ := o_c hm
  refine z_cv (d := d + 1) (pc' := 75) hM279 rfl hM183 rfl rfl rfl rfl rfl rfl (c183 (d := d) hG h3) rfl ?_
  refine z_cmpge (pc' := 78) (t := 130) hM279 rfl rfl (fun h4 => ?_) (fun h4 => ?_)
  · replace hm := o_t hm h4
    refine z_aload_n (pc' := 79) hM279 rfl rfl rfl ?_
    refine z_aload_n (pc' := 80) hM279 rfl rfl rfl ?_
    refine z_iload_n (pc' := 81) hM279 rfl rfl rfl ?_
    obtain ⟨z5, s6, h7, hm⟩ := o_c hm
    refine z_cv (d := d + 1) (pc' := 84) hM279 rfl hM188 rfl rfl rfl rfl rfl rfl (c188 (d := d) hG h7) rfl ?_
    obtain ⟨z8, s9, h10, hm⟩ := o_c hm
    refine z_cvV (d := d + 1) (pc' := 87) hM279 rfl hM278 rfl rfl rfl rfl rfl rfl (c278 (d := d) hG h10) rfl ?_
    refine z_aload_n (pc' := 88) hM279 rfl rfl rfl ?_
    refine z_aload_n (pc' := 89) hM279 rfl rfl rfl ?_
    refine z_iload_n (pc' := 90) hM279 rfl rfl rfl ?_
    obtain ⟨z11, s12, h13, hm⟩ := o_c hm
    refine z_cv (d := d + 1) (pc' := 93) hM279 rfl hM189 rfl rfl rfl rfl rfl rfl (c189 (d := d) hG h13) rfl ?_
    refine z_iconst (pc' := 94) hM279 rfl rfl rfl ?_
    obtain ⟨z14, ez14, h15, hm⟩ := o_z hm
    refine z_iadd (pc' := 95) hM279 rfl rfl ez14 h15 ?_
    obtain ⟨z16, s17, h18, hm⟩ := o_c hm
    refine z_cvV (d := d + 1) (pc' := 98) hM279 rfl hM278 rfl rfl rfl rfl rfl rfl (c278 (d := d) hG h18) rfl ?_
    refine z_aload_n (pc' := 99) hM279 rfl rfl rfl ?_
    refine z_aload_n (pc' := 100) hM279 rfl rfl rfl ?_
    refine z_iload_n (pc' := 101) hM279 rfl rfl rfl ?_
    obtain ⟨z19, s20, h21, hm⟩ := o_c hm
    refine z_cv (d := d + 1) (pc' := 104) hM279 rfl hM190 rfl rfl rfl rfl rfl rfl (c190 (d := d) hG h21) rfl ?_
    refine z_sipush (pc' := 107) hM279 rfl rfl rfl ?_
    obtain ⟨nz22, hm⟩ := o_n hm
    obtain ⟨z22, ez22, h23, hm⟩ := o_z hm
    refine z_idiv (pc' := 108) hM279 rfl rfl nz22 ez22 h23 ?_
    obtain ⟨z24, s25, h26, hm⟩ := o_c hm
    refine z_cvV (d := d + 1) (pc' := 111) hM279 rfl hM278 rfl rfl rfl rfl rfl rfl (c278 (d := d) hG h26) rfl ?_
    refine z_aload_n (pc' := 112) hM279 rfl rfl rfl ?_
    refine z_aload_n (pc' := 113) hM279 rfl rfl rfl ?_
    refine z_iload_n (pc' := 114) hM279 rfl rfl rfl ?_
    obtain ⟨z27, s28, h29, hm⟩ := o_c hm
    refine z_cv (d := d + 1) (pc' := 117) hM279 rfl hM190 rfl rfl rfl rfl rfl rfl (c190 (d := d) hG h29) rfl ?_
    refine z_sipush (pc' := 120) hM279 rfl rfl rfl ?_
    obtain ⟨nz30, hm⟩ := o_n hm
    obtain ⟨z30, ez30, hm⟩ := o_v hm
    refine z_irem (pc' := 121) hM279 rfl rfl nz30 ez30 ?_
    obtain ⟨z31, s32, h33, hm⟩ := o_c hm
    refine z_cvV (d := d + 1) (pc' := 124) hM279 rfl hM278 rfl rfl rfl rfl rfl rfl (c278 (d := d) hG h33) rfl ?_
    obtain ⟨z34, ez34, h35, hm⟩ := o_z hm
    refine z_iinc (pc' := 127) (l' := [some (zr 12 0 209), some (zi z34)]) hM279 rfl rfl rfl ez34 h35 rfl rfl ?_
    refine z_goto (t := 70) hM279 rfl ?_
    exact ih hm
  · replace hm := o_f hm h4
    refine z_iconst (pc' := 131) hM279 rfl rfl rfl ?_
    refine z_istore_n (pc' := 132) (l' := [some (zr 12 0 209), some (zi (0 : Int))]) hM279 rfl rfl rfl rfl ?_
    exact c279_132 hG hm
def m279_45 : Nat → Int → zS → Option (Int × zS)
  | 0, _, _ => none
  | n + 1, x1, s => oC (m182 s) fun z1 s2 => if x1 < z1 then oC (m187 x1 s2) fun z5 s6 => oC (m278 z5 s6) fun z8 s9 => oZ (x1 + (1 : Int)) fun z11 => m279_45 n z11 s9 else m279_70 zFu (0 : Int) s2
set_option maxRecDepth 20000 in
theorem c279_45 {G : aHp} {d : Nat} (hG : zG G) : ∀ {n : Nat} {x1 : Int} {s : zS} {r_ : Int} {s_ : zS}, m279_45 n x1 s = some (r_, s_) → Zp G (d + 2) 279 45 [some (zr 12 0 209), some (zi x1)] [] s (zRet (some (zi r_)) s_) := by
  intro n
  induction n with
  | zero => intro x1 s r_ s_ hm; cases hm
  | succ n ih =>
  intro x1 s r_ s_ hm
  replace hm : (oC (m182 s) fun z1 s2 => if x1 < z1 then oC (m187 x1 s2) fun z5 s6 => oC (m278 z5 s6) fun z8 s9 => oZ (x1 + (1 : Int)) fun z11 => m279_45 n z11 s9 else m279_70 zFu (0 : Int) s2) = some (r_, s_) := hm
  refine z_iload_n (pc' := 46) hM279 rfl rfl rfl ?_
  refine z_aload_n (pc' := 47) hM279 rfl rfl rfl ?_
  obtain ⟨z1, s2, h3, hm⟩ := o_c hm
  refine z_cv (d := d + 1) (pc' := 50) hM279 rfl hM182 rfl rfl rfl rfl rfl rfl (c182 (d := d) hG h3) rfl ?_
  refine z_cmpge (pc' := 53) (t := 68) hM279 rfl rfl (fun h4 => ?_) (fun h4 => ?_)
  · replace hm := o_t hm h4
    refine z_aload_n (pc' := 54) hM279 rfl rfl rfl ?_
    refine z_aload_n (pc' := 55) hM279 rfl rfl rfl ?_
    refine z_iload_n (pc' := 56) hM279 rfl rfl rfl ?_
    obtain ⟨z5, s6, h7, hm⟩ := o_c hm
    refine z_cv (d := d + 1) (pc' := 59) hM279 rfl hM187 rfl rfl rfl rfl rfl rfl (c187 (d := d) hG h7) rfl ?_
    obtain ⟨z8, s9, h10, hm⟩ := o_c hm
    refine z_cvV (d := d + 1) (pc' := 62) hM279 rfl hM278 rfl rfl rfl rfl rfl rfl (c278 (d := d) hG h10) rfl ?_
    obtain ⟨z11, ez11, h12, hm⟩ := o_z hm
    refine z_iinc (pc' := 65) (l' := [some (zr 12 0 209), some (zi z11)]) hM279 rfl rfl rfl ez11 h12 rfl rfl ?_
    refine z_goto (t := 45) hM279 rfl ?_
    exact ih hm
  · replace hm := o_f hm h4
    refine z_iconst (pc' := 69) hM279 rfl rfl rfl ?_
    refine z_istore_n (pc' := 70) (l' := [some (zr 12 0 209), some (zi (0 : Int))]) hM279 rfl rfl rfl rfl ?_
    exact c279_70 hG hm
def m279  (s : zS) : Option (Int × zS) := oV (sI s 209 110 (0 : Int)) fun s1 => oX (0 : Int) 37 (oV (s1.1 254 (0 : Int)) fun z2 => oN (256 : Int) (oZ (Int.tdiv z2 (256 : Int)) fun z4 => oC (m278 z4 s1) fun z6 s7 => oX (0 : Int) 37 (oV (s7.1 254 (0 : Int)) fun z9 => oN (256 : Int) (oV (Int.tmod z9 (256 : Int)) fun z11 => oC (m278 z11 s7) fun z12 s13 => oX (1 : Int) 37 (oV (s13.1 254 (1 : Int)) fun z15 => oC (m278 z15 s13) fun z17 s18 => m279_45 zFu (0 : Int) s18)))))
set_option maxRecDepth 20000 in
theorem c279 {G : aHp} {d : Nat} (hG : zG G) {s : zS} {r_ : Int} {s_ : zS} (hm : m279  s = some (r_, s_)) : Zp G (d + 2) 279 0 [some (zr 12 0 209), none] [] s (zRet (some (zi r_)) s_) := by
  replace hm : (oV (sI s 209 110 (0 : Int)) fun s1 => oX (0 : Int) 37 (oV (s1.1 254 (0 : Int)) fun z2 => oN (256 : Int) (oZ (Int.tdiv z2 (256 : Int)) fun z4 => oC (m278 z4 s1) fun z6 s7 => oX (0 : Int) 37 (oV (s7.1 254 (0 : Int)) fun z9 => oN (256 : Int) (oV (Int.tmod z9 (256 : Int)) fun z11 => oC (m278 z11 s7) fun z12 s13 => oX (1 : Int) 37 (oV (s13.1 254 (1 : Int)) fun z15 => oC (m278 z15 s13) fun z17 s18 => m279_45 zFu (0 : Int) s18)))))) = some (r_, s_) := hm
  refine z_aload_n (pc' := 1) hM279 rfl rfl rfl ?_
  refine z_iconst (pc' := 2) hM279 rfl rfl rfl ?_
  obtain ⟨s1, es1, hm⟩ := o_v hm
  refine z_putI (pc' := 5) hM279 rfl rfl rfl es1 ?_
  refine z_aload_n (pc' := 6) hM279 rfl rfl rfl ?_
  refine z_aload_n (pc' := 7) hM279 rfl rfl rfl ?_
  refine z_fldR (pc' := 10) hM279 rfl (zf_12_56 hG) rfl rfl ?_
  refine z_iconst (pc' := 11) hM279 rfl rfl rfl ?_
  obtain ⟨h3, hm⟩ := o_x hm
  obtain ⟨z2, ez2, hm⟩ := o_v hm
  refine z_iald (pc' := 12) (zGN hG) hM279 rfl rfl h3 ez2 ?_
  refine z_sipush (pc' := 15) hM279 rfl rfl rfl ?_
  obtain ⟨nz4, hm⟩ := o_n hm
  obtain ⟨z4, ez4, h5, hm⟩ := o_z hm
  refine z_idiv (pc' := 16) hM279 rfl rfl nz4 ez4 h5 ?_
  obtain ⟨z6, s7, h8, hm⟩ := o_c hm
  refine z_cvV (d := d + 1) (pc' := 19) hM279 rfl hM278 rfl rfl rfl rfl rfl rfl (c278 (d := d) hG h8) rfl ?_
  refine z_aload_n (pc' := 20) hM279 rfl rfl rfl ?_
  refine z_aload_n (pc' := 21) hM279 rfl rfl rfl ?_
  refine z_fldR (pc' := 24) hM279 rfl (zf_12_56 hG) rfl rfl ?_
  refine z_iconst (pc' := 25) hM279 rfl rfl rfl ?_
  obtain ⟨h10, hm⟩ := o_x hm
  obtain ⟨z9, ez9, hm⟩ := o_v hm
  refine z_iald (pc' := 26) (zGN hG) hM279 rfl rfl h10 ez9 ?_
  refine z_sipush (pc' := 29) hM279 rfl rfl rfl ?_
  obtain ⟨nz11, hm⟩ := o_n hm
  obtain ⟨z11, ez11, hm⟩ := o_v hm
  refine z_irem (pc' := 30) hM279 rfl rfl nz11 ez11 ?_
  obtain ⟨z12, s13, h14, hm⟩ := o_c hm
  refine z_cvV (d := d + 1) (pc' := 33) hM279 rfl hM278 rfl rfl rfl rfl rfl rfl (c278 (d := d) hG h14) rfl ?_
  refine z_aload_n (pc' := 34) hM279 rfl rfl rfl ?_
  refine z_aload_n (pc' := 35) hM279 rfl rfl rfl ?_
  refine z_fldR (pc' := 38) hM279 rfl (zf_12_56 hG) rfl rfl ?_
  refine z_iconst (pc' := 39) hM279 rfl rfl rfl ?_
  obtain ⟨h16, hm⟩ := o_x hm
  obtain ⟨z15, ez15, hm⟩ := o_v hm
  refine z_iald (pc' := 40) (zGN hG) hM279 rfl rfl h16 ez15 ?_
  obtain ⟨z17, s18, h19, hm⟩ := o_c hm
  refine z_cvV (d := d + 1) (pc' := 43) hM279 rfl hM278 rfl rfl rfl rfl rfl rfl (c278 (d := d) hG h19) rfl ?_
  refine z_iconst (pc' := 44) hM279 rfl rfl rfl ?_
  refine z_istore_n (pc' := 45) (l' := [some (zr 12 0 209), some (zi (0 : Int))]) hM279 rfl rfl rfl rfl ?_
  exact c279_45 hG hm
def m280 (x1 : Int) (s : zS) : Option (Int × zS) := if x1 < (0 : Int) then some ((-1 : Int), s) else oV (s.1 209 110) fun z2 => if x1 < z2 then oX x1 44 (oV (s.1 288 x1) fun z4 => some (z4, s)) else some ((-1 : Int), s)
theorem c280 {G : aHp} {d : Nat} (hG : zG G) {x1 : Int} {s : zS} {r_ : Int} {s_ : zS} (hm : m280 x1 s = some (r_, s_)) : Zp G (d + 1) 280 0 [some (zr 12 0 209), some (zi x1)] [] s (zRet (some (zi r_)) s_) := by
  replace hm : (if x1 < (0 : Int) then some ((-1 : Int), s) else oV (s.1 209 110) fun z2 => if x1 < z2 then oX x1 44 (oV (s.1 288 x1) fun z4 => some (z4, s)) else some ((-1 : Int), s)) = some (r_, s_) := hm
  refine z_iload_n (pc' := 1) hM280 rfl rfl rfl ?_
  refine z_iflt (pc' := 4) (t := 21) hM280 rfl rfl (fun h1 => ?_) (fun h1 => ?_)
  · replace hm := o_t hm h1
    refine z_iconst (pc' := 22) hM280 rfl rfl rfl ?_
    cases hm
    exact z_retI hM280 rfl rfl ⟨rfl, rfl⟩
  · replace hm := o_f hm h1
    refine z_iload_n (pc' := 5) hM280 rfl rfl rfl ?_
    refine z_aload_n (pc' := 6) hM280 rfl rfl rfl ?_
    obtain ⟨z2, ez2, hm⟩ := o_v hm
    refine z_fldI (pc' := 9) hM280 rfl rfl rfl ez2 ?_
    refine z_cmpge (pc' := 12) (t := 21) hM280 rfl rfl (fun h3 => ?_) (fun h3 => ?_)
    · replace hm := o_t hm h3
      refine z_aload_n (pc' := 13) hM280 rfl rfl rfl ?_
      refine z_fldR (pc' := 16) hM280 rfl (zf_12_109 hG) rfl rfl ?_
      refine z_iload_n (pc' := 17) hM280 rfl rfl rfl ?_
      obtain ⟨h5, hm⟩ := o_x hm
      obtain ⟨z4, ez4, hm⟩ := o_v hm
      refine z_iald (pc' := 18) (zGN hG) hM280 rfl rfl h5 ez4 ?_
      refine z_goto (t := 22) hM280 rfl ?_
      cases hm
      exact z_retI hM280 rfl rfl ⟨rfl, rfl⟩
    · replace hm := o_f hm h3
      refine z_iconst (pc' := 22) hM280 rfl rfl rfl ?_
      cases hm
      exact z_retI hM280 rfl rfl ⟨rfl, rfl⟩
def m281 (x1 : Int) (s : zS) : Option (Int × zS) := oC (m182 s) fun z1 s2 => oZ ((3 : Int) + z1) fun z4 => oC (m183 s2) fun z6 s7 => if x1 < z6 then oZ ((4 : Int) * x1) fun z10 => oZ (z4 + z10) fun z12 => oX z12 1600 (oV (s7.1 210 z12) fun z14 => some (z14, s7)) else oC (m183 s7) fun z16 s17 => oZ ((3 : Int) * z16) fun z19 => oZ (z4 + z19) fun z21 => oZ (z21 + x1) fun z23 => oX z23 1600 (oV (s17.1 210 z23) fun z25 => some (z25, s17))
theorem c281 {G : aHp} {d : Nat} (hG : zG G) {x1 : Int} {s : zS} {r_ : Int} {s_ : zS} (hm : m281 x1 s = some (r_, s_)) : Zp G (d + 2) 281 0 [some (zr 12 0 209), some (zi x1), none] [] s (zRet (some (zi r_)) s_) := by
  replace hm : (oC (m182 s) fun z1 s2 => oZ ((3 : Int) + z1) fun z4 => oC (m183 s2) fun z6 s7 => if x1 < z6 then oZ ((4 : Int) * x1) fun z10 => oZ (z4 + z10) fun z12 => oX z12 1600 (oV (s7.1 210 z12) fun z14 => some (z14, s7)) else oC (m183 s7) fun z16 s17 => oZ ((3 : Int) * z16) fun z19 => oZ (z4 + z19) fun z21 => oZ (z21 + x1) fun z23 => oX z23 1600 (oV (s17.1 210 z23) fun z25 => some (z25, s17))) = some (r_, s_) := hm
  refine z_iconst (pc' := 1) hM281 rfl rfl rfl ?_
  refine z_aload_n (pc' := 2) hM281 rfl rfl rfl ?_
  obtain ⟨z1, s2, h3, hm⟩ := o_c hm
  refine z_cv (d := d + 1) (pc' := 5) hM281 rfl hM182 rfl rfl rfl rfl rfl rfl (c182 (d := d) hG h3) rfl ?_
  obtain ⟨z4, ez4, h5, hm⟩ := o_z hm
  refine z_iadd (pc' := 6) hM281 rfl rfl ez4 h5 ?_
  refine z_istore_n (pc' := 7) (l' := [some (zr 12 0 209), some (zi x1), some (zi z4)]) hM281 rfl rfl rfl rfl ?_
  refine z_iload_n (pc' := 8) hM281 rfl rfl rfl ?_
  refine z_aload_n (pc' := 9) hM281 rfl rfl rfl ?_
  obtain ⟨z6, s7, h8, hm⟩ := o_c hm
  refine z_cv (d := d + 1) (pc' := 12) hM281 rfl hM183 rfl rfl rfl rfl rfl rfl (c183 (d := d) hG h8) rfl ?_
  refine z_cmpge (pc' := 15) (t := 28) hM281 rfl rfl (fun h9 => ?_) (fun h9 => ?_)
  · replace hm := o_t hm h9
    refine z_aload_n (pc' := 16) hM281 rfl rfl rfl ?_
    refine z_fldR (pc' := 19) hM281 rfl (zf_12_0 hG) rfl rfl ?_
    refine z_iload_n (pc' := 20) hM281 rfl rfl rfl ?_
    refine z_iconst (pc' := 21) hM281 rfl rfl rfl ?_
    refine z_iload_n (pc' := 22) hM281 rfl rfl rfl ?_
    obtain ⟨z10, ez10, h11, hm⟩ := o_z hm
    refine z_imul (pc' := 23) hM281 rfl rfl ez10 h11 ?_
    obtain ⟨z12, ez12, h13, hm⟩ := o_z hm
    refine z_iadd (pc' := 24) hM281 rfl rfl ez12 h13 ?_
    obtain ⟨h15, hm⟩ := o_x hm
    obtain ⟨z14, ez14, hm⟩ := o_v hm
    refine z_iald (pc' := 25) (zGN hG) hM281 rfl rfl h15 ez14 ?_
    refine z_goto (t := 43) hM281 rfl ?_
    cases hm
    exact z_retI hM281 rfl rfl ⟨rfl, rfl⟩
  · replace hm := o_f hm h9
    refine z_aload_n (pc' := 29) hM281 rfl rfl rfl ?_
    refine z_fldR (pc' := 32) hM281 rfl (zf_12_0 hG) rfl rfl ?_
    refine z_iload_n (pc' := 33) hM281 rfl rfl rfl ?_
    refine z_iconst (pc' := 34) hM281 rfl rfl rfl ?_
    refine z_aload_n (pc' := 35) hM281 rfl rfl rfl ?_
    obtain ⟨z16, s17, h18, hm⟩ := o_c hm
    refine z_cv (d := d + 1) (pc' := 38) hM281 rfl hM183 rfl rfl rfl rfl rfl rfl (c183 (d := d) hG h18) rfl ?_
    obtain ⟨z19, ez19, h20, hm⟩ := o_z hm
    refine z_imul (pc' := 39) hM281 rfl rfl ez19 h20 ?_
    obtain ⟨z21, ez21, h22, hm⟩ := o_z hm
    refine z_iadd (pc' := 40) hM281 rfl rfl ez21 h22 ?_
    refine z_iload_n (pc' := 41) hM281 rfl rfl rfl ?_
    obtain ⟨z23, ez23, h24, hm⟩ := o_z hm
    refine z_iadd (pc' := 42) hM281 rfl rfl ez23 h24 ?_
    obtain ⟨h26, hm⟩ := o_x hm
    obtain ⟨z25, ez25, hm⟩ := o_v hm
    refine z_iald (pc' := 43) (zGN hG) hM281 rfl rfl h26 ez25 ?_
    cases hm
    exact z_retI hM281 rfl rfl ⟨rfl, rfl⟩
def m282_26 (k2_ : Int → zS → Option (Int × zS)) : Nat → Int → Int → zS → Option (Int × zS)
  | 0, _, _, _ => none
  | n + 1, x1, x2, s => if x2 < x1 then oC (m281 x2 s) fun z2 s3 => oC (m281 x1 s3) fun z5 s6 => if z2 = z5 then some ((0 : Int), s6) else oZ (x2 + (1 : Int)) fun z9 => m282_26 k2_ n x1 z9 s6 else oZ (x1 + (1 : Int)) fun z11 => k2_ z11 s
theorem c282_26 {G : aHp} {d : Nat} {k2_ : Int → zS → Option (Int × zS)} (hG : zG G) (hk2 : ∀ {x1 : Int} {d2 : Option zV} {s : zS} {r_ : Int} {s_ : zS}, k2_ x1 s = some (r_, s_) → Zp G (d + 3) 282 2 [some (zr 12 0 209), some (zi x1), d2] [] s (zRet (some (zi r_)) s_)) : ∀ {n : Nat} {x1 : Int} {x2 : Int} {s : zS} {r_ : Int} {s_ : zS}, m282_26 k2_ n x1 x2 s = some (r_, s_) → Zp G (d + 3) 282 26 [some (zr 12 0 209), some (zi x1), some (zi x2)] [] s (zRet (some (zi r_)) s_) := by
  intro n
  induction n with
  | zero => intro x1 x2 s r_ s_ hm; cases hm
  | succ n ih =>
  intro x1 x2 s r_ s_ hm
  replace hm : (if x2 < x1 then oC (m281 x2 s) fun z2 s3 => oC (m281 x1 s3) fun z5 s6 => if z2 = z5 then some ((0 : Int), s6) else oZ (x2 + (1 : Int)) fun z9 => m282_26 k2_ n x1 z9 s6 else oZ (x1 + (1 : Int)) fun z11 => k2_ z11 s) = some (r_, s_) := hm
  refine z_iload_n (pc' := 27) hM282 rfl rfl rfl ?_
  refine z_iload_n (pc' := 28) hM282 rfl rfl rfl ?_
  refine z_cmpge (pc' := 31) (t := 52) hM282 rfl rfl (fun h1 => ?_) (fun h1 => ?_)
  · replace hm := o_t hm h1
    refine z_aload_n (pc' := 32) hM282 rfl rfl rfl ?_
    refine z_iload_n (pc' := 33) hM282 rfl rfl rfl ?_
    obtain ⟨z2, s3, h4, hm⟩ := o_c hm
    refine z_cv (d := d + 2) (pc' := 36) hM282 rfl hM281 rfl rfl rfl rfl rfl rfl (c281 (d := d) hG h4) rfl ?_
    refine z_aload_n (pc' := 37) hM282 rfl rfl rfl ?_
    refine z_iload_n (pc' := 38) hM282 rfl rfl rfl ?_
    obtain ⟨z5, s6, h7, hm⟩ := o_c hm
    refine z_cv (d := d + 2) (pc' := 41) hM282 rfl hM281 rfl rfl rfl rfl rfl rfl (c281 (d := d) hG h7) rfl ?_
    refine z_cmpne (pc' := 44) (t := 46) hM282 rfl rfl (fun h8 => ?_) (fun h8 => ?_)
    · replace hm := o_t hm h8
      refine z_iconst (pc' := 45) hM282 rfl rfl rfl ?_
      cases hm
      exact z_retZ hM282 rfl rfl (Or.inl rfl) ⟨rfl, rfl⟩
    · replace hm := o_f hm h8
      obtain ⟨z9, ez9, h10, hm⟩ := o_z hm
      refine z_iinc (pc' := 49) (l' := [some (zr 12 0 209), some (zi x1), some (zi z9)]) hM282 rfl rfl rfl ez9 h10 rfl rfl ?_
      refine z_goto (t := 26) hM282 rfl ?_
      exact ih hm
  · replace hm := o_f hm h1
    obtain ⟨z11, ez11, h12, hm⟩ := o_z hm
    refine z_iinc (pc' := 55) (l' := [some (zr 12 0 209), some (zi z11), some (zi x2)]) hM282 rfl rfl rfl ez11 h12 rfl rfl ?_
    refine z_goto (t := 2) hM282 rfl ?_
    exact hk2 hm
def m282_2 : Nat → Int → zS → Option (Int × zS)
  | 0, _, _ => none
  | n + 1, x1, s => oC (m182 s) fun z1 s2 => if x1 < z1 then oC (m281 x1 s2) fun z5 s6 => oC (m185 z5 s6) fun z8 s9 => if z8 = (0 : Int) then some ((0 : Int), s9) else m282_26 (m282_2 n) zFu x1 (0 : Int) s9 else some ((1 : Int), s2)
theorem c282_2 {G : aHp} {d : Nat} (hG : zG G) : ∀ {n : Nat} {x1 : Int} {d2 : Option zV} {s : zS} {r_ : Int} {s_ : zS}, m282_2 n x1 s = some (r_, s_) → Zp G (d + 3) 282 2 [some (zr 12 0 209), some (zi x1), d2] [] s (zRet (some (zi r_)) s_) := by
  intro n
  induction n with
  | zero => intro x1 d2 s r_ s_ hm; cases hm
  | succ n ih =>
  intro x1 d2 s r_ s_ hm
  replace hm : (oC (m182 s) fun z1 s2 => if x1 < z1 then oC (m281 x1 s2) fun z5 s6 => oC (m185 z5 s6) fun z8 s9 => if z8 = (0 : Int) then some ((0 : Int), s9) else m282_26 (m282_2 n) zFu x1 (0 : Int) s9 else some ((1 : Int), s2)) = some (r_, s_) := hm
  refine z_iload_n (pc' := 3) hM282 rfl rfl rfl ?_
  refine z_aload_n (pc' := 4) hM282 rfl rfl rfl ?_
  obtain ⟨z1, s2, h3, hm⟩ := o_c hm
  refine z_cv (d := d + 2) (pc' := 7) hM282 rfl hM182 rfl rfl rfl rfl rfl rfl (c182 (d := d + 1) hG h3) rfl ?_
  refine z_cmpge (pc' := 10) (t := 58) hM282 rfl rfl (fun h4 => ?_) (fun h4 => ?_)
  · replace hm := o_t hm h4
    refine z_aload_n (pc' := 11) hM282 rfl rfl rfl ?_
    refine z_aload_n (pc' := 12) hM282 rfl rfl rfl ?_
    refine z_iload_n (pc' := 13) hM282 rfl rfl rfl ?_
    obtain ⟨z5, s6, h7, hm⟩ := o_c hm
    refine z_cv (d := d + 2) (pc' := 16) hM282 rfl hM281 rfl rfl rfl rfl rfl rfl (c281 (d := d) hG h7) rfl ?_
    obtain ⟨z8, s9, h10, hm⟩ := o_c hm
    refine z_cv (d := d + 2) (pc' := 19) hM282 rfl hM185 rfl rfl rfl rfl rfl rfl (c185 (d := d) hG h10) rfl ?_
    refine z_ifne (pc' := 22) (t := 24) hM282 rfl rfl (fun h11 => ?_) (fun h11 => ?_)
    · replace hm := o_t hm h11
      refine z_iconst (pc' := 23) hM282 rfl rfl rfl ?_
      cases hm
      exact z_retZ hM282 rfl rfl (Or.inl rfl) ⟨rfl, rfl⟩
    · replace hm := o_f hm h11
      refine z_iconst (pc' := 25) hM282 rfl rfl rfl ?_
      refine z_istore_n (pc' := 26) (l' := [some (zr 12 0 209), some (zi x1), some (zi (0 : Int))]) hM282 rfl rfl rfl rfl ?_
      exact c282_26 hG ih hm
  · replace hm := o_f hm h4
    refine z_iconst (pc' := 59) hM282 rfl rfl rfl ?_
    cases hm
    exact z_retZ hM282 rfl rfl (Or.inr rfl) ⟨rfl, rfl⟩
def m282  (s : zS) : Option (Int × zS) := m282_2 zFu (0 : Int) s
theorem c282 {G : aHp} {d : Nat} (hG : zG G) {s : zS} {r_ : Int} {s_ : zS} (hm : m282  s = some (r_, s_)) : Zp G (d + 3) 282 0 [some (zr 12 0 209), none, none] [] s (zRet (some (zi r_)) s_) := by
  replace hm : (m282_2 zFu (0 : Int) s) = some (r_, s_) := hm
  refine z_iconst (pc' := 1) hM282 rfl rfl rfl ?_
  refine z_istore_n (pc' := 2) (l' := [some (zr 12 0 209), some (zi (0 : Int)), none]) hM282 rfl rfl rfl rfl ?_
  exact c282_2 hG hm
def m283_115 : Nat → Int → Int → zS → Option (Int × zS)
  | 0, _, _, _ => none
  | n + 1, x2, x3, s => oC (m183 s) fun z1 s2 => if x3 < z1 then oZ ((4 : Int) * x3) fun z5 => oZ (x2 + z5) fun z7 => oZ (z7 + (2 : Int)) fun z9 => oX z9 1600 (oV (s2.1 210 z9) fun z11 => oZ ((256 : Int) * z11) fun z13 => oZ (z7 + (3 : Int)) fun z15 => oX z15 1600 (oV (s2.1 210 z15) fun z17 => oZ (z13 + z17) fun z19 => oZ (z7 + (1 : Int)) fun z21 => oX z21 1600 (oV (s2.1 210 z21) fun z23 => oC (m181 s2) fun z25 s26 => if z25 < z23 then some ((0 : Int), s26) else oZ (z7 + (1 : Int)) fun z29 => oX z29 1600 (oV (s26.1 210 z29) fun z31 => if z31 = (0 : Int) then if (0 : Int) < z19 then some ((0 : Int), s26) else oZ (x3 + (1 : Int)) fun z35 => m283_115 n x2 z35 s26 else if (999 : Int) < z19 then some ((0 : Int), s26) else oZ (x3 + (1 : Int)) fun z38 => m283_115 n x2 z38 s26)))) else oC (m282 s2) fun z40 s41 => oD z40 (some (z40, s41))
set_option maxRecDepth 20000 in
theorem c283_115 {G : aHp} {d : Nat} (hG : zG G) : ∀ {n : Nat} {x2 : Int} {x3 : Int} {d1 d4 d5 : Option zV} {s : zS} {r_ : Int} {s_ : zS}, m283_115 n x2 x3 s = some (r_, s_) → Zp G (d + 4) 283 115 [some (zr 12 0 209), d1, some (zi x2), some (zi x3), d4, d5] [] s (zRet (some (zi r_)) s_) := by
  intro n
  induction n with
  | zero => intro x2 x3 d1 d4 d5 s r_ s_ hm; cases hm
  | succ n ih =>
  intro x2 x3 d1 d4 d5 s r_ s_ hm
  replace hm : (oC (m183 s) fun z1 s2 => if x3 < z1 then oZ ((4 : Int) * x3) fun z5 => oZ (x2 + z5) fun z7 => oZ (z7 + (2 : Int)) fun z9 => oX z9 1600 (oV (s2.1 210 z9) fun z11 => oZ ((256 : Int) * z11) fun z13 => oZ (z7 + (3 : Int)) fun z15 => oX z15 1600 (oV (s2.1 210 z15) fun z17 => oZ (z13 + z17) fun z19 => oZ (z7 + (1 : Int)) fun z21 => oX z21 1600 (oV (s2.1 210 z21) fun z23 => oC (m181 s2) fun z25 s26 => if z25 < z23 then some ((0 : Int), s26) else oZ (z7 + (1 : Int)) fun z29 => oX z29 1600 (oV (s26.1 210 z29) fun z31 => if z31 = (0 : Int) then if (0 : Int) < z19 then some ((0 : Int), s26) else oZ (x3 + (1 : Int)) fun z35 => m283_115 n x2 z35 s26 else if (999 : Int) < z19 then some ((0 : Int), s26) else oZ (x3 + (1 : Int)) fun z38 => m283_115 n x2 z38 s26)))) else oC (m282 s2) fun z40 s41 => oD z40 (some (z40, s41))) = some (r_, s_) := hm
  refine z_iload_n (pc' := 116) hM283 rfl rfl rfl ?_
  refine z_aload_n (pc' := 117) hM283 rfl rfl rfl ?_
  obtain ⟨z1, s2, h3, hm⟩ := o_c hm
  refine z_cv (d := d + 3) (pc' := 120) hM283 rfl hM183 rfl rfl rfl rfl rfl rfl (c183 (d := d + 2) hG h3) rfl ?_
  refine z_cmpge (pc' := 123) (t := 203) hM283 rfl rfl (fun h4 => ?_) (fun h4 => ?_)
  · replace hm := o_t hm h4
    refine z_iload_n (pc' := 124) hM283 rfl rfl rfl ?_
    refine z_iconst (pc' := 125) hM283 rfl rfl rfl ?_
    refine z_iload_n (pc' := 126) hM283 rfl rfl rfl ?_
    obtain ⟨z5, ez5, h6, hm⟩ := o_z hm
    refine z_imul (pc' := 127) hM283 rfl rfl ez5 h6 ?_
    obtain ⟨z7, ez7, h8, hm⟩ := o_z hm
    refine z_iadd (pc' := 128) hM283 rfl rfl ez7 h8 ?_
    refine z_istore (pc' := 130) (l' := [some (zr 12 0 209), d1, some (zi x2), some (zi x3), some (zi z7), d5]) hM283 rfl rfl rfl rfl ?_
    refine z_sipush (pc' := 133) hM283 rfl rfl rfl ?_
    refine z_aload_n (pc' := 134) hM283 rfl rfl rfl ?_
    refine z_fldR (pc' := 137) hM283 rfl (zf_12_0 hG) rfl rfl ?_
    refine z_iload (pc' := 139) hM283 rfl rfl rfl ?_
    refine z_iconst (pc' := 140) hM283 rfl rfl rfl ?_
    obtain ⟨z9, ez9, h10, hm⟩ := o_z hm
    refine z_iadd (pc' := 141) hM283 rfl rfl ez9 h10 ?_
    obtain ⟨h12, hm⟩ := o_x hm
    obtain ⟨z11, ez11, hm⟩ := o_v hm
    refine z_iald (pc' := 142) (zGN hG) hM283 rfl rfl h12 ez11 ?_
    obtain ⟨z13, ez13, h14, hm⟩ := o_z hm
    refine z_imul (pc' := 143) hM283 rfl rfl ez13 h14 ?_
    refine z_aload_n (pc' := 144) hM283 rfl rfl rfl ?_
    refine z_fldR (pc' := 147) hM283 rfl (zf_12_0 hG) rfl rfl ?_
    refine z_iload (pc' := 149) hM283 rfl rfl rfl ?_
    refine z_iconst (pc' := 150) hM283 rfl rfl rfl ?_
    obtain ⟨z15, ez15, h16, hm⟩ := o_z hm
    refine z_iadd (pc' := 151) hM283 rfl rfl ez15 h16 ?_
    obtain ⟨h18, hm⟩ := o_x hm
    obtain ⟨z17, ez17, hm⟩ := o_v hm
    refine z_iald (pc' := 152) (zGN hG) hM283 rfl rfl h18 ez17 ?_
    obtain ⟨z19, ez19, h20, hm⟩ := o_z hm
    refine z_iadd (pc' := 153) hM283 rfl rfl ez19 h20 ?_
    refine z_istore (pc' := 155) (l' := [some (zr 12 0 209), d1, some (zi x2), some (zi x3), some (zi z7), some (zi z19)]) hM283 rfl rfl rfl rfl ?_
    refine z_aload_n (pc' := 156) hM283 rfl rfl rfl ?_
    refine z_fldR (pc' := 159) hM283 rfl (zf_12_0 hG) rfl rfl ?_
    refine z_iload (pc' := 161) hM283 rfl rfl rfl ?_
    refine z_iconst (pc' := 162) hM283 rfl rfl rfl ?_
    obtain ⟨z21, ez21, h22, hm⟩ := o_z hm
    refine z_iadd (pc' := 163) hM283 rfl rfl ez21 h22 ?_
    obtain ⟨h24, hm⟩ := o_x hm
    obtain ⟨z23, ez23, hm⟩ := o_v hm
    refine z_iald (pc' := 164) (zGN hG) hM283 rfl rfl h24 ez23 ?_
    refine z_aload_n (pc' := 165) hM283 rfl rfl rfl ?_
    obtain ⟨z25, s26, h27, hm⟩ := o_c hm
    refine z_cv (d := d + 3) (pc' := 168) hM283 rfl hM181 rfl rfl rfl rfl rfl rfl (c181 (d := d + 2) hG h27) rfl ?_
    refine z_cmpgt (pc' := 171) (t := 195) hM283 rfl rfl (fun h28 => ?_) (fun h28 => ?_)
    · replace hm := o_t hm h28
      refine z_iconst (pc' := 196) hM283 rfl rfl rfl ?_
      cases hm
      exact z_retZ hM283 rfl rfl (Or.inl rfl) ⟨rfl, rfl⟩
    · replace hm := o_f hm h28
      refine z_iload (pc' := 173) hM283 rfl rfl rfl ?_
      refine z_aload_n (pc' := 174) hM283 rfl rfl rfl ?_
      refine z_fldR (pc' := 177) hM283 rfl (zf_12_0 hG) rfl rfl ?_
      refine z_iload (pc' := 179) hM283 rfl rfl rfl ?_
      refine z_iconst (pc' := 180) hM283 rfl rfl rfl ?_
      obtain ⟨z29, ez29, h30, hm⟩ := o_z hm
      refine z_iadd (pc' := 181) hM283 rfl rfl ez29 h30 ?_
      obtain ⟨h32, hm⟩ := o_x hm
      obtain ⟨z31, ez31, hm⟩ := o_v hm
      refine z_iald (pc' := 182) (zGN hG) hM283 rfl rfl h32 ez31 ?_
      refine z_ifne (pc' := 185) (t := 189) hM283 rfl rfl (fun h33 => ?_) (fun h33 => ?_)
      · replace hm := o_t hm h33
        refine z_iconst (pc' := 186) hM283 rfl rfl rfl ?_
        refine z_goto (t := 192) hM283 rfl ?_
        refine z_cmple (pc' := 195) (t := 197) hM283 rfl rfl (fun h34 => ?_) (fun h34 => ?_)
        · replace hm := o_t hm h34
          refine z_iconst (pc' := 196) hM283 rfl rfl rfl ?_
          cases hm
          exact z_retZ hM283 rfl rfl (Or.inl rfl) ⟨rfl, rfl⟩
        · replace hm := o_f hm h34
          obtain ⟨z35, ez35, h36, hm⟩ := o_z hm
          refine z_iinc (pc' := 200) (l' := [some (zr 12 0 209), d1, some (zi x2), some (zi z35), some (zi z7), some (zi z19)]) hM283 rfl rfl rfl ez35 h36 rfl rfl ?_
          refine z_goto (t := 115) hM283 rfl ?_
          exact ih hm
      · replace hm := o_f hm h33
        refine z_sipush (pc' := 192) hM283 rfl rfl rfl ?_
        refine z_cmple (pc' := 195) (t := 197) hM283 rfl rfl (fun h37 => ?_) (fun h37 => ?_)
        · replace hm := o_t hm h37
          refine z_iconst (pc' := 196) hM283 rfl rfl rfl ?_
          cases hm
          exact z_retZ hM283 rfl rfl (Or.inl rfl) ⟨rfl, rfl⟩
        · replace hm := o_f hm h37
          obtain ⟨z38, ez38, h39, hm⟩ := o_z hm
          refine z_iinc (pc' := 200) (l' := [some (zr 12 0 209), d1, some (zi x2), some (zi z38), some (zi z7), some (zi z19)]) hM283 rfl rfl rfl ez38 h39 rfl rfl ?_
          refine z_goto (t := 115) hM283 rfl ?_
          exact ih hm
  · replace hm := o_f hm h4
    refine z_aload_n (pc' := 204) hM283 rfl rfl rfl ?_
    obtain ⟨z40, s41, h42, hm⟩ := o_c hm
    refine z_cv (d := d + 3) (pc' := 207) hM283 rfl hM282 rfl rfl rfl rfl rfl rfl (c282 (d := d) hG h42) rfl ?_
    obtain ⟨h43, hm⟩ := o_d hm
    cases hm
    exact z_retZ hM283 rfl rfl h43 ⟨rfl, rfl⟩
def m283_84 : Nat → Int → Int → zS → Option (Int × zS)
  | 0, _, _, _ => none
  | n + 1, x2, x3, s => oC (m182 s) fun z1 s2 => if x3 < z1 then oZ ((3 : Int) + x3) fun z5 => oX z5 1600 (oV (s2.1 210 z5) fun z7 => if (9 : Int) < z7 then some ((0 : Int), s2) else oZ (x3 + (1 : Int)) fun z10 => m283_84 n x2 z10 s2) else m283_115 zFu x2 (0 : Int) s2
set_option maxRecDepth 20000 in
theorem c283_84 {G : aHp} {d : Nat} (hG : zG G) : ∀ {n : Nat} {x2 : Int} {x3 : Int} {d1 d4 d5 : Option zV} {s : zS} {r_ : Int} {s_ : zS}, m283_84 n x2 x3 s = some (r_, s_) → Zp G (d + 4) 283 84 [some (zr 12 0 209), d1, some (zi x2), some (zi x3), d4, d5] [] s (zRet (some (zi r_)) s_) := by
  intro n
  induction n with
  | zero => intro x2 x3 d1 d4 d5 s r_ s_ hm; cases hm
  | succ n ih =>
  intro x2 x3 d1 d4 d5 s r_ s_ hm
  replace hm : (oC (m182 s) fun z1 s2 => if x3 < z1 then oZ ((3 : Int) + x3) fun z5 => oX z5 1600 (oV (s2.1 210 z5) fun z7 => if (9 : Int) < z7 then some ((0 : Int), s2) else oZ (x3 + (1 : Int)) fun z10 => m283_84 n x2 z10 s2) else m283_115 zFu x2 (0 : Int) s2) = some (r_, s_) := hm
  refine z_iload_n (pc' := 85) hM283 rfl rfl rfl ?_
  refine z_aload_n (pc' := 86) hM283 rfl rfl rfl ?_
  obtain ⟨z1, s2, h3, hm⟩ := o_c hm
  refine z_cv (d := d + 3) (pc' := 89) hM283 rfl hM182 rfl rfl rfl rfl rfl rfl (c182 (d := d + 2) hG h3) rfl ?_
  refine z_cmpge (pc' := 92) (t := 113) hM283 rfl rfl (fun h4 => ?_) (fun h4 => ?_)
  · replace hm := o_t hm h4
    refine z_aload_n (pc' := 93) hM283 rfl rfl rfl ?_
    refine z_fldR (pc' := 96) hM283 rfl (zf_12_0 hG) rfl rfl ?_
    refine z_iconst (pc' := 97) hM283 rfl rfl rfl ?_
    refine z_iload_n (pc' := 98) hM283 rfl rfl rfl ?_
    obtain ⟨z5, ez5, h6, hm⟩ := o_z hm
    refine z_iadd (pc' := 99) hM283 rfl rfl ez5 h6 ?_
    obtain ⟨h8, hm⟩ := o_x hm
    obtain ⟨z7, ez7, hm⟩ := o_v hm
    refine z_iald (pc' := 100) (zGN hG) hM283 rfl rfl h8 ez7 ?_
    refine z_bipush (pc' := 102) hM283 rfl rfl rfl ?_
    refine z_cmple (pc' := 105) (t := 107) hM283 rfl rfl (fun h9 => ?_) (fun h9 => ?_)
    · replace hm := o_t hm h9
      refine z_iconst (pc' := 106) hM283 rfl rfl rfl ?_
      cases hm
      exact z_retZ hM283 rfl rfl (Or.inl rfl) ⟨rfl, rfl⟩
    · replace hm := o_f hm h9
      obtain ⟨z10, ez10, h11, hm⟩ := o_z hm
      refine z_iinc (pc' := 110) (l' := [some (zr 12 0 209), d1, some (zi x2), some (zi z10), d4, d5]) hM283 rfl rfl rfl ez10 h11 rfl rfl ?_
      refine z_goto (t := 84) hM283 rfl ?_
      exact ih hm
  · replace hm := o_f hm h4
    refine z_iconst (pc' := 114) hM283 rfl rfl rfl ?_
    refine z_istore_n (pc' := 115) (l' := [some (zr 12 0 209), d1, some (zi x2), some (zi (0 : Int)), d4, d5]) hM283 rfl rfl rfl rfl ?_
    exact c283_115 hG hm
def m283 (x1 : Int) (s : zS) : Option (Int × zS) := oC (m182 s) fun z1 s2 => oZ ((3 : Int) + z1) fun z4 => oC (m183 s2) fun z6 s7 => oZ ((3 : Int) * z6) fun z9 => oZ (z4 + z9) fun z11 => oC (m182 s7) fun z13 s14 => oZ (z11 + z13) fun z16 => oZ (z16 + (1 : Int)) fun z18 => if x1 = z18 then oZ (x1 - (1 : Int)) fun z21 => oX z21 1600 (oV (s14.1 210 z21) fun z23 => oZ (x1 - (1 : Int)) fun z25 => oC (m277 1600 210 z25 s14) fun z27 s28 => if z23 = z27 then oX (0 : Int) 1600 (oV (s28.1 210 (0 : Int)) fun z31 => oZ ((256 : Int) * z31) fun z33 => oX (1 : Int) 1600 (oV (s28.1 210 (1 : Int)) fun z35 => oZ (z33 + z35) fun z37 => if (999 : Int) < z37 then some ((0 : Int), s28) else oX (2 : Int) 1600 (oV (s28.1 210 (2 : Int)) fun z40 => if (2 : Int) < z40 then some ((0 : Int), s28) else m283_84 zFu z4 (0 : Int) s28))) else some ((0 : Int), s28)) else some ((0 : Int), s14)
set_option maxRecDepth 20000 in
theorem c283 {G : aHp} {d : Nat} (hG : zG G) {x1 : Int} {s : zS} {r_ : Int} {s_ : zS} (hm : m283 x1 s = some (r_, s_)) : Zp G (d + 4) 283 0 [some (zr 12 0 209), some (zi x1), none, none, none, none] [] s (zRet (some (zi r_)) s_) := by
  replace hm : (oC (m182 s) fun z1 s2 => oZ ((3 : Int) + z1) fun z4 => oC (m183 s2) fun z6 s7 => oZ ((3 : Int) * z6) fun z9 => oZ (z4 + z9) fun z11 => oC (m182 s7) fun z13 s14 => oZ (z11 + z13) fun z16 => oZ (z16 + (1 : Int)) fun z18 => if x1 = z18 then oZ (x1 - (1 : Int)) fun z21 => oX z21 1600 (oV (s14.1 210 z21) fun z23 => oZ (x1 - (1 : Int)) fun z25 => oC (m277 1600 210 z25 s14) fun z27 s28 => if z23 = z27 then oX (0 : Int) 1600 (oV (s28.1 210 (0 : Int)) fun z31 => oZ ((256 : Int) * z31) fun z33 => oX (1 : Int) 1600 (oV (s28.1 210 (1 : Int)) fun z35 => oZ (z33 + z35) fun z37 => if (999 : Int) < z37 then some ((0 : Int), s28) else oX (2 : Int) 1600 (oV (s28.1 210 (2 : Int)) fun z40 => if (2 : Int) < z40 then some ((0 : Int), s28) else m283_84 zFu z4 (0 : Int) s28))) else some ((0 : Int), s28)) else some ((0 : Int), s14)) = some (r_, s_) := hm
  refine z_iconst (pc' := 1) hM283 rfl rfl rfl ?_
  refine z_aload_n (pc' := 2) hM283 rfl rfl rfl ?_
  obtain ⟨z1, s2, h3, hm⟩ := o_c hm
  refine z_cv (d := d + 3) (pc' := 5) hM283 rfl hM182 rfl rfl rfl rfl rfl rfl (c182 (d := d + 2) hG h3) rfl ?_
  obtain ⟨z4, ez4, h5, hm⟩ := o_z hm
  refine z_iadd (pc' := 6) hM283 rfl rfl ez4 h5 ?_
  refine z_istore_n (pc' := 7) (l' := [some (zr 12 0 209), some (zi x1), some (zi z4), none, none, none]) hM283 rfl rfl rfl rfl ?_
  refine z_iload_n (pc' := 8) hM283 rfl rfl rfl ?_
  refine z_iload_n (pc' := 9) hM283 rfl rfl rfl ?_
  refine z_iconst (pc' := 10) hM283 rfl rfl rfl ?_
  refine z_aload_n (pc' := 11) hM283 rfl rfl rfl ?_
  obtain ⟨z6, s7, h8, hm⟩ := o_c hm
  refine z_cv (d := d + 3) (pc' := 14) hM283 rfl hM183 rfl rfl rfl rfl rfl rfl (c183 (d := d + 2) hG h8) rfl ?_
  obtain ⟨z9, ez9, h10, hm⟩ := o_z hm
  refine z_imul (pc' := 15) hM283 rfl rfl ez9 h10 ?_
  obtain ⟨z11, ez11, h12, hm⟩ := o_z hm
  refine z_iadd (pc' := 16) hM283 rfl rfl ez11 h12 ?_
  refine z_aload_n (pc' := 17) hM283 rfl rfl rfl ?_
  obtain ⟨z13, s14, h15, hm⟩ := o_c hm
  refine z_cv (d := d + 3) (pc' := 20) hM283 rfl hM182 rfl rfl rfl rfl rfl rfl (c182 (d := d + 2) hG h15) rfl ?_
  obtain ⟨z16, ez16, h17, hm⟩ := o_z hm
  refine z_iadd (pc' := 21) hM283 rfl rfl ez16 h17 ?_
  refine z_iconst (pc' := 22) hM283 rfl rfl rfl ?_
  obtain ⟨z18, ez18, h19, hm⟩ := o_z hm
  refine z_iadd (pc' := 23) hM283 rfl rfl ez18 h19 ?_
  refine z_cmpne (pc' := 26) (t := 80) hM283 rfl rfl (fun h20 => ?_) (fun h20 => ?_)
  · replace hm := o_t hm h20
    refine z_aload_n (pc' := 27) hM283 rfl rfl rfl ?_
    refine z_fldR (pc' := 30) hM283 rfl (zf_12_0 hG) rfl rfl ?_
    refine z_iload_n (pc' := 31) hM283 rfl rfl rfl ?_
    refine z_iconst (pc' := 32) hM283 rfl rfl rfl ?_
    obtain ⟨z21, ez21, h22, hm⟩ := o_z hm
    refine z_isub (pc' := 33) hM283 rfl rfl ez21 h22 ?_
    obtain ⟨h24, hm⟩ := o_x hm
    obtain ⟨z23, ez23, hm⟩ := o_v hm
    refine z_iald (pc' := 34) (zGN hG) hM283 rfl rfl h24 ez23 ?_
    refine z_aload_n (pc' := 35) hM283 rfl rfl rfl ?_
    refine z_fldR (pc' := 38) hM283 rfl (zf_12_0 hG) rfl rfl ?_
    refine z_iload_n (pc' := 39) hM283 rfl rfl rfl ?_
    refine z_iconst (pc' := 40) hM283 rfl rfl rfl ?_
    obtain ⟨z25, ez25, h26, hm⟩ := o_z hm
    refine z_isub (pc' := 41) hM283 rfl rfl ez25 h26 ?_
    obtain ⟨z27, s28, h29, hm⟩ := o_c hm
    refine z_cs (d := d + 3) (pc' := 44) hM283 rfl hM277 rfl rfl rfl rfl (c277 (d := d + 2) hG h29) rfl ?_
    refine z_cmpne (pc' := 47) (t := 80) hM283 rfl rfl (fun h30 => ?_) (fun h30 => ?_)
    · replace hm := o_t hm h30
      refine z_sipush (pc' := 50) hM283 rfl rfl rfl ?_
      refine z_aload_n (pc' := 51) hM283 rfl rfl rfl ?_
      refine z_fldR (pc' := 54) hM283 rfl (zf_12_0 hG) rfl rfl ?_
      refine z_iconst (pc' := 55) hM283 rfl rfl rfl ?_
      obtain ⟨h32, hm⟩ := o_x hm
      obtain ⟨z31, ez31, hm⟩ := o_v hm
      refine z_iald (pc' := 56) (zGN hG) hM283 rfl rfl h32 ez31 ?_
      obtain ⟨z33, ez33, h34, hm⟩ := o_z hm
      refine z_imul (pc' := 57) hM283 rfl rfl ez33 h34 ?_
      refine z_aload_n (pc' := 58) hM283 rfl rfl rfl ?_
      refine z_fldR (pc' := 61) hM283 rfl (zf_12_0 hG) rfl rfl ?_
      refine z_iconst (pc' := 62) hM283 rfl rfl rfl ?_
      obtain ⟨h36, hm⟩ := o_x hm
      obtain ⟨z35, ez35, hm⟩ := o_v hm
      refine z_iald (pc' := 63) (zGN hG) hM283 rfl rfl h36 ez35 ?_
      obtain ⟨z37, ez37, h38, hm⟩ := o_z hm
      refine z_iadd (pc' := 64) hM283 rfl rfl ez37 h38 ?_
      refine z_sipush (pc' := 67) hM283 rfl rfl rfl ?_
      refine z_cmpgt (pc' := 70) (t := 80) hM283 rfl rfl (fun h39 => ?_) (fun h39 => ?_)
      · replace hm := o_t hm h39
        refine z_iconst (pc' := 81) hM283 rfl rfl rfl ?_
        cases hm
        exact z_retZ hM283 rfl rfl (Or.inl rfl) ⟨rfl, rfl⟩
      · replace hm := o_f hm h39
        refine z_aload_n (pc' := 71) hM283 rfl rfl rfl ?_
        refine z_fldR (pc' := 74) hM283 rfl (zf_12_0 hG) rfl rfl ?_
        refine z_iconst (pc' := 75) hM283 rfl rfl rfl ?_
        obtain ⟨h41, hm⟩ := o_x hm
        obtain ⟨z40, ez40, hm⟩ := o_v hm
        refine z_iald (pc' := 76) (zGN hG) hM283 rfl rfl h41 ez40 ?_
        refine z_iconst (pc' := 77) hM283 rfl rfl rfl ?_
        refine z_cmple (pc' := 80) (t := 82) hM283 rfl rfl (fun h42 => ?_) (fun h42 => ?_)
        · replace hm := o_t hm h42
          refine z_iconst (pc' := 81) hM283 rfl rfl rfl ?_
          cases hm
          exact z_retZ hM283 rfl rfl (Or.inl rfl) ⟨rfl, rfl⟩
        · replace hm := o_f hm h42
          refine z_iconst (pc' := 83) hM283 rfl rfl rfl ?_
          refine z_istore_n (pc' := 84) (l' := [some (zr 12 0 209), some (zi x1), some (zi z4), some (zi (0 : Int)), none, none]) hM283 rfl rfl rfl rfl ?_
          exact c283_84 hG hm
    · replace hm := o_f hm h30
      refine z_iconst (pc' := 81) hM283 rfl rfl rfl ?_
      cases hm
      exact z_retZ hM283 rfl rfl (Or.inl rfl) ⟨rfl, rfl⟩
  · replace hm := o_f hm h20
    refine z_iconst (pc' := 81) hM283 rfl rfl rfl ?_
    cases hm
    exact z_retZ hM283 rfl rfl (Or.inl rfl) ⟨rfl, rfl⟩
