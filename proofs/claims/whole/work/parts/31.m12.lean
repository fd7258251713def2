/-! ===== methods (by gen_mir.py) ===== -/
def m267 (x0 : Int) (s : zS) : Option (Int × zS) := oV (zCmp x0 (1000000 : Int)) fun z1 => if (0 : Int) < z1 then some ((1000000 : Int), s) else oV (zCmp x0 (-1000000 : Int)) fun z3 => if z3 < (0 : Int) then some ((-1000000 : Int), s) else some (x0, s)
theorem c267 {G : aHp} {d : Nat} (hG : zG G) {x0 : Int} {s : zS} {r_ : Int} {s_ : zS} (hm : m267 x0 s = some (r_, s_)) : Zp G (d + 1) 267 0 [some (zj x0), none] [] s (zRet (some (zj r_)) s_) := by
  replace hm : (oV (zCmp x0 (1000000 : Int)) fun z1 => if (0 : Int) < z1 then some ((1000000 : Int), s) else oV (zCmp x0 (-1000000 : Int)) fun z3 => if z3 < (0 : Int) then some ((-1000000 : Int), s) else some (x0, s)) = some (r_, s_) := hm
  refine z_lload_n (pc' := 1) hM267 rfl rfl rfl ?_
  refine z_ldc2 (pc' := 4) hM267 rfl rfl rfl ?_
  obtain ⟨z1, ez1, hm⟩ := o_v hm
  refine z_lcmp (pc' := 5) hM267 rfl rfl ez1 ?_
  refine z_ifle (pc' := 8) (t := 14) hM267 rfl rfl (fun h2 => ?_) (fun h2 => ?_)
  · replace hm := o_t hm h2
    refine z_ldc2 (pc' := 11) hM267 rfl rfl rfl ?_
    refine z_goto (t := 29) hM267 rfl ?_
    cases hm
    exact z_retJ hM267 rfl rfl ⟨rfl, rfl⟩
  · replace hm := o_f hm h2
    refine z_lload_n (pc' := 15) hM267 rfl rfl rfl ?_
    refine z_ldc2 (pc' := 18) hM267 rfl rfl rfl ?_
    obtain ⟨z3, ez3, hm⟩ := o_v hm
    refine z_lcmp (pc' := 19) hM267 rfl rfl ez3 ?_
    refine z_ifge (pc' := 22) (t := 28) hM267 rfl rfl (fun h4 => ?_) (fun h4 => ?_)
    · replace hm := o_t hm h4
      refine z_ldc2 (pc' := 25) hM267 rfl rfl rfl ?_
      refine z_goto (t := 29) hM267 rfl ?_
      cases hm
      exact z_retJ hM267 rfl rfl ⟨rfl, rfl⟩
    · replace hm := o_f hm h4
      refine z_lload_n (pc' := 29) hM267 rfl rfl rfl ?_
      cases hm
      exact z_retJ hM267 rfl rfl ⟨rfl, rfl⟩
def m268_43 (x4 : Int) (y0 : Int) (y1 : Int) (s : zS) : Option (Int × zS) := if y0 = y1 then some (x4, s) else oJ (x4 - (1 : Int)) fun z2 => some (z2, s)
theorem c268_43 {G : aHp} {d : Nat} (hG : zG G) {x4 : Int} {y0 : Int} {y1 : Int} {d0 d1 d2 d3 d5 : Option zV} {s : zS} {r_ : Int} {s_ : zS} (hm : m268_43 x4 y0 y1 s = some (r_, s_)) : Zp G (d + 1) 268 43 [d0, d1, d2, d3, some (zj x4), d5] [zi y1, zi y0] s (zRet (some (zj r_)) s_) := by
  replace hm : (if y0 = y1 then some (x4, s) else oJ (x4 - (1 : Int)) fun z2 => some (z2, s)) = some (r_, s_) := hm
  refine z_cmpeq (pc' := 46) (t := 53) hM268 rfl rfl (fun h1 => ?_) (fun h1 => ?_)
  · replace hm := o_t hm h1
    refine z_lload (pc' := 55) hM268 rfl rfl rfl ?_
    cases hm
    exact z_retJ hM268 rfl rfl ⟨rfl, rfl⟩
  · replace hm := o_f hm h1
    refine z_lload (pc' := 48) hM268 rfl rfl rfl ?_
    refine z_lconst (pc' := 49) (x := (1 : Int)) hM268 rfl rfl rfl rfl ?_
    obtain ⟨z2, ez2, h3, hm⟩ := o_j hm
    refine z_lsub (pc' := 50) hM268 rfl rfl ez2 h3 ?_
    refine z_goto (t := 55) hM268 rfl ?_
    cases hm
    exact z_retJ hM268 rfl rfl ⟨rfl, rfl⟩
def m268_32 (x2 : Int) (x4 : Int) (y0 : Int) (s : zS) : Option (Int × zS) := oV (zCmp x2 (0 : Int)) fun z1 => if z1 < (0 : Int) then m268_43 x4 y0 (1 : Int) s else m268_43 x4 y0 (0 : Int) s
theorem c268_32 {G : aHp} {d : Nat} (hG : zG G) {x2 : Int} {x4 : Int} {y0 : Int} {d0 d1 d3 d5 : Option zV} {s : zS} {r_ : Int} {s_ : zS} (hm : m268_32 x2 x4 y0 s = some (r_, s_)) : Zp G (d + 1) 268 32 [d0, d1, some (zj x2), d3, some (zj x4), d5] [zi y0] s (zRet (some (zj r_)) s_) := by
  replace hm : (oV (zCmp x2 (0 : Int)) fun z1 => if z1 < (0 : Int) then m268_43 x4 y0 (1 : Int) s else m268_43 x4 y0 (0 : Int) s) = some (r_, s_) := hm
  refine z_lload_n (pc' := 33) hM268 rfl rfl rfl ?_
  refine z_lconst (pc' := 34) (x := (0 : Int)) hM268 rfl rfl rfl rfl ?_
  obtain ⟨z1, ez1, hm⟩ := o_v hm
  refine z_lcmp (pc' := 35) hM268 rfl rfl ez1 ?_
  refine z_ifge (pc' := 38) (t := 42) hM268 rfl rfl (fun h2 => ?_) (fun h2 => ?_)
  · replace hm := o_t hm h2
    refine z_iconst (pc' := 39) hM268 rfl rfl rfl ?_
    refine z_goto (t := 43) hM268 rfl ?_
    exact c268_43 hG hm
  · replace hm := o_f hm h2
    refine z_iconst (pc' := 43) hM268 rfl rfl rfl ?_
    exact c268_43 hG hm
def m268 (x0 : Int) (x2 : Int) (s : zS) : Option (Int × zS) := oV (zCmp x2 (0 : Int)) fun z1 => if z1 = (0 : Int) then some ((0 : Int), s) else oN x2 (oJ (Int.tdiv x0 x2) fun z3 => oN x2 (oV (Int.tmod x0 x2) fun z5 => oV (zCmp z5 (0 : Int)) fun z6 => if z6 = (0 : Int) then some (z3, s) else oV (zCmp x0 (0 : Int)) fun z8 => if z8 < (0 : Int) then m268_32 x2 z3 (1 : Int) s else m268_32 x2 z3 (0 : Int) s))
theorem c268 {G : aHp} {d : Nat} (hG : zG G) {x0 : Int} {x2 : Int} {s : zS} {r_ : Int} {s_ : zS} (hm : m268 x0 x2 s = some (r_, s_)) : Zp G (d + 1) 268 0 [some (zj x0), none, some (zj x2), none, none, none] [] s (zRet (some (zj r_)) s_) := by
  replace hm : (oV (zCmp x2 (0 : Int)) fun z1 => if z1 = (0 : Int) then some ((0 : Int), s) else oN x2 (oJ (Int.tdiv x0 x2) fun z3 => oN x2 (oV (Int.tmod x0 x2) fun z5 => oV (zCmp z5 (0 : Int)) fun z6 => if z6 = (0 : Int) then some (z3, s) else oV (zCmp x0 (0 : Int)) fun z8 => if z8 < (0 : Int) then m268_32 x2 z3 (1 : Int) s else m268_32 x2 z3 (0 : Int) s))) = some (r_, s_) := hm
  refine z_lload_n (pc' := 1) hM268 rfl rfl rfl ?_
  refine z_lconst (pc' := 2) (x := (0 : Int)) hM268 rfl rfl rfl rfl ?_
  obtain ⟨z1, ez1, hm⟩ := o_v hm
  refine z_lcmp (pc' := 3) hM268 rfl rfl ez1 ?_
  refine z_ifne (pc' := 6) (t := 8) hM268 rfl rfl (fun h2 => ?_) (fun h2 => ?_)
  · replace hm := o_t hm h2
    refine z_lconst (pc' := 7) (x := (0 : Int)) hM268 rfl rfl rfl rfl ?_
    cases hm
    exact z_retJ hM268 rfl rfl ⟨rfl, rfl⟩
  · replace hm := o_f hm h2
    refine z_lload_n (pc' := 9) hM268 rfl rfl rfl ?_
    refine z_lload_n (pc' := 10) hM268 rfl rfl rfl ?_
    obtain ⟨nz3, hm⟩ := o_n hm
    obtain ⟨z3, ez3, h4, hm⟩ := o_j hm
    refine z_ldiv (pc' := 11) hM268 rfl rfl nz3 ez3 h4 ?_
    refine z_lstore (pc' := 13) (l' := [some (zj x0), none, some (zj x2), none, some (zj z3), none]) hM268 rfl rfl rfl rfl ?_
    refine z_lload_n (pc' := 14) hM268 rfl rfl rfl ?_
    refine z_lload_n (pc' := 15) hM268 rfl rfl rfl ?_
    obtain ⟨nz5, hm⟩ := o_n hm
    obtain ⟨z5, ez5, hm⟩ := o_v hm
    refine z_lrem (pc' := 16) hM268 rfl rfl nz5 ez5 ?_
    refine z_lconst (pc' := 17) (x := (0 : Int)) hM268 rfl rfl rfl rfl ?_
    obtain ⟨z6, ez6, hm⟩ := o_v hm
    refine z_lcmp (pc' := 18) hM268 rfl rfl ez6 ?_
    refine z_ifeq (pc' := 21) (t := 53) hM268 rfl rfl (fun h7 => ?_) (fun h7 => ?_)
    · replace hm := o_t hm h7
      refine z_lload (pc' := 55) hM268 rfl rfl rfl ?_
      cases hm
      exact z_retJ hM268 rfl rfl ⟨rfl, rfl⟩
    · replace hm := o_f hm h7
      refine z_lload_n (pc' := 22) hM268 rfl rfl rfl ?_
      refine z_lconst (pc' := 23) (x := (0 : Int)) hM268 rfl rfl rfl rfl ?_
      obtain ⟨z8, ez8, hm⟩ := o_v hm
      refine z_lcmp (pc' := 24) hM268 rfl rfl ez8 ?_
      refine z_ifge (pc' := 27) (t := 31) hM268 rfl rfl (fun h9 => ?_) (fun h9 => ?_)
      · replace hm := o_t hm h9
        refine z_iconst (pc' := 28) hM268 rfl rfl rfl ?_
        refine z_goto (t := 32) hM268 rfl ?_
        exact c268_32 hG hm
      · replace hm := o_f hm h9
        refine z_iconst (pc' := 32) hM268 rfl rfl rfl ?_
        exact c268_32 hG hm
def m270 (x1 : Int) (s : zS) : Option (Int × zS) := oV (s.1 209 106) fun z1 => oZ (z1 - (1 : Int)) fun z2 => oX z2 1700 (oV (s.2.1 287 z2) fun z4 => oV (s.1 209 106) fun z6 => oZ (z6 - (2 : Int)) fun z7 => oX z7 1700 (oV (s.2.1 287 z7) fun z9 => oV (s.1 209 106) fun z11 => oZ (z11 - (2 : Int)) fun z12 => oV (sI s 209 106 z12) fun s14 => if x1 = (1 : Int) then oJ (z9 + z4) fun z16 => oC (m267 z16 s14) fun z18 s19 => oC (m269 z18 s19) fun z21 s22 => some (0, s22) else if x1 = (2 : Int) then oJ (z9 - z4) fun z25 => oC (m267 z25 s14) fun z27 s28 => oC (m269 z27 s28) fun z30 s31 => some (0, s31) else if x1 = (3 : Int) then oJ (z9 * z4) fun z34 => oC (m267 z34 s14) fun z36 s37 => oC (m269 z36 s37) fun z39 s40 => some (0, s40) else if x1 = (4 : Int) then oC (m268 z9 z4 s14) fun z43 s44 => oC (m269 z43 s44) fun z46 s47 => some (0, s47) else if x1 = (5 : Int) then oV (zCmp z9 z4) fun z50 => if z50 < (0 : Int) then oC (m269 z9 s14) fun z52 s53 => some (0, s53) else oC (m269 z4 s14) fun z55 s56 => some (0, s56) else if x1 = (6 : Int) then oV (zCmp z9 z4) fun z59 => if (0 : Int) < z59 then oC (m269 z9 s14) fun z61 s62 => some (0, s62) else oC (m269 z4 s14) fun z64 s65 => some (0, s65) else if x1 = (7 : Int) then oV (zCmp z9 z4) fun z68 => if z68 < (0 : Int) then oC (m269 (1 : Int) s14) fun z70 s71 => some (0, s71) else oC (m269 (0 : Int) s14) fun z73 s74 => some (0, s74) else if x1 = (8 : Int) then oV (zCmp z9 z4) fun z77 => if (0 : Int) < z77 then oC (m269 (1 : Int) s14) fun z79 s80 => some (0, s80) else oC (m269 (0 : Int) s14) fun z82 s83 => some (0, s83) else if x1 = (9 : Int) then oV (zCmp z9 z4) fun z86 => if z86 = (0 : Int) then oC (m269 (1 : Int) s14) fun z88 s89 => some (0, s89) else oC (m269 (0 : Int) s14) fun z91 s92 => some (0, s92) else if x1 = (10 : Int) then oJ (z9 * z4) fun z95 => oC (m269 z95 s14) fun z97 s98 => some (0, s98) else oJ (z9 + z4) fun z100 => oV (zCmp z100 (0 : Int)) fun z102 => if (0 : Int) < z102 then oC (m269 (1 : Int) s14) fun z104 s105 => some (0, s105) else oC (m269 (0 : Int) s14) fun z107 s108 => some (0, s108)))
set_option maxRecDepth 20000 in
theorem c270 {G : aHp} {d : Nat} (hG : zG G) {x1 : Int} {s : zS} {r_ : Int} {s_ : zS} (hm : m270 x1 s = some (r_, s_)) : Zp G (d + 2) 270 0 [some (zr 12 0 209), some (zi x1), none, none, none, none] [] s (zRet none s_) := by
  replace hm : (oV (s.1 209 106) fun z1 => oZ (z1 - (1 : Int)) fun z2 => oX z2 1700 (oV (s.2.1 287 z2) fun z4 => oV (s.1 209 106) fun z6 => oZ (z6 - (2 : Int)) fun z7 => oX z7 1700 (oV (s.2.1 287 z7) fun z9 => oV (s.1 209 106) fun z11 => oZ (z11 - (2 : Int)) fun z12 => oV (sI s 209 106 z12) fun s14 => if x1 = (1 : Int) then oJ (z9 + z4) fun z16 => oC (m267 z16 s14) fun z18 s19 => oC (m269 z18 s19) fun z21 s22 => some (0, s22) else if x1 = (2 : Int) then oJ (z9 - z4) fun z25 => oC (m267 z25 s14) fun z27 s28 => oC (m269 z27 s28) fun z30 s31 => some (0, s31) else if x1 = (3 : Int) then oJ (z9 * z4) fun z34 => oC (m267 z34 s14) fun z36 s37 => oC (m269 z36 s37) fun z39 s40 => some (0, s40) else if x1 = (4 : Int) then oC (m268 z9 z4 s14) fun z43 s44 => oC (m269 z43 s44) fun z46 s47 => some (0, s47) else if x1 = (5 : Int) then oV (zCmp z9 z4) fun z50 => if z50 < (0 : Int) then oC (m269 z9 s14) fun z52 s53 => some (0, s53) else oC (m269 z4 s14) fun z55 s56 => some (0, s56) else if x1 = (6 : Int) then oV (zCmp z9 z4) fun z59 => if (0 : Int) < z59 then oC (m269 z9 s14) fun z61 s62 => some (0, s62) else oC (m269 z4 s14) fun z64 s65 => some (0, s65) else if x1 = (7 : Int) then oV (zCmp z9 z4) fun z68 => if z68 < (0 : Int) then oC (m269 (1 : Int) s14) fun z70 s71 => some (0, s71) else oC (m269 (0 : Int) s14) fun z73 s74 => some (0, s74) else if x1 = (8 : Int) then oV (zCmp z9 z4) fun z77 => if (0 : Int) < z77 then oC (m269 (1 : Int) s14) fun z79 s80 => some (0, s80) else oC (m269 (0 : Int) s14) fun z82 s83 => some (0, s83) else if x1 = (9 : Int) then oV (zCmp z9 z4) fun z86 => if z86 = (0 : Int) then oC (m269 (1 : Int) s14) fun z88 s89 => some (0, s89) else oC (m269 (0 : Int) s14) fun z91 s92 => some (0, s92) else if x1 = (10 : Int) then oJ (z9 * z4) fun z95 => oC (m269 z95 s14) fun z97 s98 => some (0, s98) else oJ (z9 + z4) fun z100 => oV (zCmp z100 (0 : Int)) fun z102 => if (0 : Int) < z102 then oC (m269 (1 : Int) s14) fun z104 s105 => some (0, s105) else oC (m269 (0 : Int) s14) fun z107 s108 => some (0, s108)))) = some (r_, s_) := hm
  refine z_aload_n (pc' := 1) hM270 rfl rfl rfl ?_
  refine z_fldR (pc' := 4) hM270 rfl (zf_12_105 hG) rfl rfl ?_
  refine z_aload_n (pc' := 5) hM270 rfl rfl rfl ?_
  obtain ⟨z1, ez1, hm⟩ := o_v hm
  refine z_fldI (pc' := 8) hM270 rfl rfl rfl ez1 ?_
  refine z_iconst (pc' := 9) hM270 rfl rfl rfl ?_
  obtain ⟨z2, ez2, h3, hm⟩ := o_z hm
  refine z_isub (pc' := 10) hM270 rfl rfl ez2 h3 ?_
  obtain ⟨h5, hm⟩ := o_x hm
  obtain ⟨z4, ez4, hm⟩ := o_v hm
  refine z_lald (pc' := 11) hM270 rfl rfl h5 ez4 ?_
  refine z_lstore_n (pc' := 12) (l' := [some (zr 12 0 209), some (zi x1), some (zj z4), none, none, none]) hM270 rfl rfl rfl rfl ?_
  refine z_aload_n (pc' := 13) hM270 rfl rfl rfl ?_
  refine z_fldR (pc' := 16) hM270 rfl (zf_12_105 hG) rfl rfl ?_
  refine z_aload_n (pc' := 17) hM270 rfl rfl rfl ?_
  obtain ⟨z6, ez6, hm⟩ := o_v hm
  refine z_fldI (pc' := 20) hM270 rfl rfl rfl ez6 ?_
  refine z_iconst (pc' := 21) hM270 rfl rfl rfl ?_
  obtain ⟨z7, ez7, h8, hm⟩ := o_z hm
  refine z_isub (pc' := 22) hM270 rfl rfl ez7 h8 ?_
  obtain ⟨h10, hm⟩ := o_x hm
  obtain ⟨z9, ez9, hm⟩ := o_v hm
  refine z_lald (pc' := 23) hM270 rfl rfl h10 ez9 ?_
  refine z_lstore (pc' := 25) (l' := [some (zr 12 0 209), some (zi x1), some (zj z4), none, some (zj z9), none]) hM270 rfl rfl rfl rfl ?_
  refine z_aload_n (pc' := 26) hM270 rfl rfl rfl ?_
  refine z_dupA (pc' := 27) hM270 rfl rfl ?_
  obtain ⟨z11, ez11, hm⟩ := o_v hm
  refine z_fldI (pc' := 30) hM270 rfl rfl rfl ez11 ?_
  refine z_iconst (pc' := 31) hM270 rfl rfl rfl ?_
  obtain ⟨z12, ez12, h13, hm⟩ := o_z hm
  refine z_isub (pc' := 32) hM270 rfl rfl ez12 h13 ?_
  obtain ⟨s14, es14, hm⟩ := o_v hm
  refine z_putI (pc' := 35) hM270 rfl rfl rfl es14 ?_
  refine z_iload_n (pc' := 36) hM270 rfl rfl rfl ?_
  refine (Decidable.em (x1 = (1 : Int))).elim (fun h15 => ?_) (fun h15 => ?_)
  · replace hm := o_t hm h15
    refine z_swT (t := 92) (c := (1 : Int)) hM270 rfl h15 (by decide) rfl rfl ?_
    refine z_aload_n (pc' := 93) hM270 rfl rfl rfl ?_
    refine z_lload (pc' := 95) hM270 rfl rfl rfl ?_
    refine z_lload_n (pc' := 96) hM270 rfl rfl rfl ?_
    obtain ⟨z16, ez16, h17, hm⟩ := o_j hm
    refine z_ladd (pc' := 97) hM270 rfl rfl ez16 h17 ?_
    obtain ⟨z18, s19, h20, hm⟩ := o_c hm
    refine z_cs (d := d + 1) (pc' := 100) hM270 rfl hM267 rfl rfl rfl rfl (c267 (d := d) hG h20) rfl ?_
    obtain ⟨z21, s22, h23, hm⟩ := o_c hm
    refine z_cvV (d := d + 1) (pc' := 103) hM270 rfl hM269 rfl rfl rfl rfl rfl rfl (c269 (d := d) hG h23) rfl ?_
    refine z_goto (t := 273) hM270 rfl ?_
    cases hm
    exact z_retV hM270 rfl rfl ⟨rfl, rfl⟩
  replace hm := o_f hm h15
  refine (Decidable.em (x1 = (2 : Int))).elim (fun h24 => ?_) (fun h24 => ?_)
  · replace hm := o_t hm h24
    refine z_swT (t := 106) (c := (2 : Int)) hM270 rfl h24 (by decide) rfl rfl ?_
    refine z_aload_n (pc' := 107) hM270 rfl rfl rfl ?_
    refine z_lload (pc' := 109) hM270 rfl rfl rfl ?_
    refine z_lload_n (pc' := 110) hM270 rfl rfl rfl ?_
    obtain ⟨z25, ez25, h26, hm⟩ := o_j hm
    refine z_lsub (pc' := 111) hM270 rfl rfl ez25 h26 ?_
    obtain ⟨z27, s28, h29, hm⟩ := o_c hm
    refine z_cs (d := d + 1) (pc' := 114) hM270 rfl hM267 rfl rfl rfl rfl (c267 (d := d) hG h29) rfl ?_
    obtain ⟨z30, s31, h32, hm⟩ := o_c hm
    refine z_cvV (d := d + 1) (pc' := 117) hM270 rfl hM269 rfl rfl rfl rfl rfl rfl (c269 (d := d) hG h32) rfl ?_
    refine z_goto (t := 273) hM270 rfl ?_
    cases hm
    exact z_retV hM270 rfl rfl ⟨rfl, rfl⟩
  replace hm := o_f hm h24
  refine (Decidable.em (x1 = (3 : Int))).elim (fun h33 => ?_) (fun h33 => ?_)
  · replace hm := o_t hm h33
    refine z_swT (t := 120) (c := (3 : Int)) hM270 rfl h33 (by decide) rfl rfl ?_
    refine z_aload_n (pc' := 121) hM270 rfl rfl rfl ?_
    refine z_lload (pc' := 123) hM270 rfl rfl rfl ?_
    refine z_lload_n (pc' := 124) hM270 rfl rfl rfl ?_
    obtain ⟨z34, ez34, h35, hm⟩ := o_j hm
    refine z_lmul (pc' := 125) hM270 rfl rfl ez34 h35 ?_
    obtain ⟨z36, s37, h38, hm⟩ := o_c hm
    refine z_cs (d := d + 1) (pc' := 128) hM270 rfl hM267 rfl rfl rfl rfl (c267 (d := d) hG h38) rfl ?_
    obtain ⟨z39, s40, h41, hm⟩ := o_c hm
    refine z_cvV (d := d + 1) (pc' := 131) hM270 rfl hM269 rfl rfl rfl rfl rfl rfl (c269 (d := d) hG h41) rfl ?_
    refine z_goto (t := 273) hM270 rfl ?_
    cases hm
    exact z_retV hM270 rfl rfl ⟨rfl, rfl⟩
  replace hm := o_f hm h33
  refine (Decidable.em (x1 = (4 : Int))).elim (fun h42 => ?_) (fun h42 => ?_)
  · replace hm := o_t hm h42
    refine z_swT (t := 134) (c := (4 : Int)) hM270 rfl h42 (by decide) rfl rfl ?_
    refine z_aload_n (pc' := 135) hM270 rfl rfl rfl ?_
    refine z_lload (pc' := 137) hM270 rfl rfl rfl ?_
    refine z_lload_n (pc' := 138) hM270 rfl rfl rfl ?_
    obtain ⟨z43, s44, h45, hm⟩ := o_c hm
    refine z_cs (d := d + 1) (pc' := 141) hM270 rfl hM268 rfl rfl rfl rfl (c268 (d := d) hG h45) rfl ?_
    obtain ⟨z46, s47, h48, hm⟩ := o_c hm
    refine z_cvV (d := d + 1) (pc' := 144) hM270 rfl hM269 rfl rfl rfl rfl rfl rfl (c269 (d := d) hG h48) rfl ?_
    refine z_goto (t := 273) hM270 rfl ?_
    cases hm
    exact z_retV hM270 rfl rfl ⟨rfl, rfl⟩
  replace hm := o_f hm h42
  refine (Decidable.em (x1 = (5 : Int))).elim (fun h49 => ?_) (fun h49 => ?_)
  · replace hm := o_t hm h49
    refine z_swT (t := 147) (c := (5 : Int)) hM270 rfl h49 (by decide) rfl rfl ?_
    refine z_aload_n (pc' := 148) hM270 rfl rfl rfl ?_
    refine z_lload (pc' := 150) hM270 rfl rfl rfl ?_
    refine z_lload_n (pc' := 151) hM270 rfl rfl rfl ?_
    obtain ⟨z50, ez50, hm⟩ := o_v hm
    refine z_lcmp (pc' := 152) hM270 rfl rfl ez50 ?_
    refine z_ifge (pc' := 155) (t := 160) hM270 rfl rfl (fun h51 => ?_) (fun h51 => ?_)
    · replace hm := o_t hm h51
      refine z_lload (pc' := 157) hM270 rfl rfl rfl ?_
      refine z_goto (t := 161) hM270 rfl ?_
      obtain ⟨z52, s53, h54, hm⟩ := o_c hm
      refine z_cvV (d := d + 1) (pc' := 164) hM270 rfl hM269 rfl rfl rfl rfl rfl rfl (c269 (d := d) hG h54) rfl ?_
      refine z_goto (t := 273) hM270 rfl ?_
      cases hm
      exact z_retV hM270 rfl rfl ⟨rfl, rfl⟩
    · replace hm := o_f hm h51
      refine z_lload_n (pc' := 161) hM270 rfl rfl rfl ?_
      obtain ⟨z55, s56, h57, hm⟩ := o_c hm
      refine z_cvV (d := d + 1) (pc' := 164) hM270 rfl hM269 rfl rfl rfl rfl rfl rfl (c269 (d := d) hG h57) rfl ?_
      refine z_goto (t := 273) hM270 rfl ?_
      cases hm
      exact z_retV hM270 rfl rfl ⟨rfl, rfl⟩
  replace hm := o_f hm h49
  refine (Decidable.em (x1 = (6 : Int))).elim (fun h58 => ?_) (fun h58 => ?_)
  · replace hm := o_t hm h58
    refine z_swT (t := 167) (c := (6 : Int)) hM270 rfl h58 (by decide) rfl rfl ?_
    refine z_aload_n (pc' := 168) hM270 rfl rfl rfl ?_
    refine z_lload (pc' := 170) hM270 rfl rfl rfl ?_
    refine z_lload_n (pc' := 171) hM270 rfl rfl rfl ?_
    obtain ⟨z59, ez59, hm⟩ := o_v hm
    refine z_lcmp (pc' := 172) hM270 rfl rfl ez59 ?_
    refine z_ifle (pc' := 175) (t := 180) hM270 rfl rfl (fun h60 => ?_) (fun h60 => ?_)
    · replace hm := o_t hm h60
      refine z_lload (pc' := 177) hM270 rfl rfl rfl ?_
      refine z_goto (t := 181) hM270 rfl ?_
      obtain ⟨z61, s62, h63, hm⟩ := o_c hm
      refine z_cvV (d := d + 1) (pc' := 184) hM270 rfl hM269 rfl rfl rfl rfl rfl rfl (c269 (d := d) hG h63) rfl ?_
      refine z_goto (t := 273) hM270 rfl ?_
      cases hm
      exact z_retV hM270 rfl rfl ⟨rfl, rfl⟩
    · replace hm := o_f hm h60
      refine z_lload_n (pc' := 181) hM270 rfl rfl rfl ?_
      obtain ⟨z64, s65, h66, hm⟩ := o_c hm
      refine z_cvV (d := d + 1) (pc' := 184) hM270 rfl hM269 rfl rfl rfl rfl rfl rfl (c269 (d := d) hG h66) rfl ?_
      refine z_goto (t := 273) hM270 rfl ?_
      cases hm
      exact z_retV hM270 rfl rfl ⟨rfl, rfl⟩
  replace hm := o_f hm h58
  refine (Decidable.em (x1 = (7 : Int))).elim (fun h67 => ?_) (fun h67 => ?_)
  · replace hm := o_t hm h67
    refine z_swT (t := 187) (c := (7 : Int)) hM270 rfl h67 (by decide) rfl rfl ?_
    refine z_aload_n (pc' := 188) hM270 rfl rfl rfl ?_
    refine z_lload (pc' := 190) hM270 rfl rfl rfl ?_
    refine z_lload_n (pc' := 191) hM270 rfl rfl rfl ?_
    obtain ⟨z68, ez68, hm⟩ := o_v hm
    refine z_lcmp (pc' := 192) hM270 rfl rfl ez68 ?_
    refine z_ifge (pc' := 195) (t := 199) hM270 rfl rfl (fun h69 => ?_) (fun h69 => ?_)
    · replace hm := o_t hm h69
      refine z_lconst (pc' := 196) (x := (1 : Int)) hM270 rfl rfl rfl rfl ?_
      refine z_goto (t := 200) hM270 rfl ?_
      obtain ⟨z70, s71, h72, hm⟩ := o_c hm
      refine z_cvV (d := d + 1) (pc' := 203) hM270 rfl hM269 rfl rfl rfl rfl rfl rfl (c269 (d := d) hG h72) rfl ?_
      refine z_goto (t := 273) hM270 rfl ?_
      cases hm
      exact z_retV hM270 rfl rfl ⟨rfl, rfl⟩
    · replace hm := o_f hm h69
      refine z_lconst (pc' := 200) (x := (0 : Int)) hM270 rfl rfl rfl rfl ?_
      obtain ⟨z73, s74, h75, hm⟩ := o_c hm
      refine z_cvV (d := d + 1) (pc' := 203) hM270 rfl hM269 rfl rfl rfl rfl rfl rfl (c269 (d := d) hG h75) rfl ?_
      refine z_goto (t := 273) hM270 rfl ?_
      cases hm
      exact z_retV hM270 rfl rfl ⟨rfl, rfl⟩
  replace hm := o_f hm h67
  refine (Decidable.em (x1 = (8 : Int))).elim (fun h76 => ?_) (fun h76 => ?_)
  · replace hm := o_t hm h76
    refine z_swT (t := 206) (c := (8 : Int)) hM270 rfl h76 (by decide) rfl rfl ?_
    refine z_aload_n (pc' := 207) hM270 rfl rfl rfl ?_
    refine z_lload (pc' := 209) hM270 rfl rfl rfl ?_
    refine z_lload_n (pc' := 210) hM270 rfl rfl rfl ?_
    obtain ⟨z77, ez77, hm⟩ := o_v hm
    refine z_lcmp (pc' := 211) hM270 rfl rfl ez77 ?_
    refine z_ifle (pc' := 214) (t := 218) hM270 rfl rfl (fun h78 => ?_) (fun h78 => ?_)
    · replace hm := o_t hm h78
      refine z_lconst (pc' := 215) (x := (1 : Int)) hM270 rfl rfl rfl rfl ?_
      refine z_goto (t := 219) hM270 rfl ?_
      obtain ⟨z79, s80, h81, hm⟩ := o_c hm
      refine z_cvV (d := d + 1) (pc' := 222) hM270 rfl hM269 rfl rfl rfl rfl rfl rfl (c269 (d := d) hG h81) rfl ?_
      refine z_goto (t := 273) hM270 rfl ?_
      cases hm
      exact z_retV hM270 rfl rfl ⟨rfl, rfl⟩
    · replace hm := o_f hm h78
      refine z_lconst (pc' := 219) (x := (0 : Int)) hM270 rfl rfl rfl rfl ?_
      obtain ⟨z82, s83, h84, hm⟩ := o_c hm
      refine z_cvV (d := d + 1) (pc' := 222) hM270 rfl hM269 rfl rfl rfl rfl rfl rfl (c269 (d := d) hG h84) rfl ?_
      refine z_goto (t := 273) hM270 rfl ?_
      cases hm
      exact z_retV hM270 rfl rfl ⟨rfl, rfl⟩
  replace hm := o_f hm h76
  refine (Decidable.em (x1 = (9 : Int))).elim (fun h85 => ?_) (fun h85 => ?_)
  · replace hm := o_t hm h85
    refine z_swT (t := 225) (c := (9 : Int)) hM270 rfl h85 (by decide) rfl rfl ?_
    refine z_aload_n (pc' := 226) hM270 rfl rfl rfl ?_
    refine z_lload (pc' := 228) hM270 rfl rfl rfl ?_
    refine z_lload_n (pc' := 229) hM270 rfl rfl rfl ?_
    obtain ⟨z86, ez86, hm⟩ := o_v hm
    refine z_lcmp (pc' := 230) hM270 rfl rfl ez86 ?_
    refine z_ifne (pc' := 233) (t := 237) hM270 rfl rfl (fun h87 => ?_) (fun h87 => ?_)
    · replace hm := o_t hm h87
      refine z_lconst (pc' := 234) (x := (1 : Int)) hM270 rfl rfl rfl rfl ?_
      refine z_goto (t := 238) hM270 rfl ?_
      obtain ⟨z88, s89, h90, hm⟩ := o_c hm
      refine z_cvV (d := d + 1) (pc' := 241) hM270 rfl hM269 rfl rfl rfl rfl rfl rfl (c269 (d := d) hG h90) rfl ?_
      refine z_goto (t := 273) hM270 rfl ?_
      cases hm
      exact z_retV hM270 rfl rfl ⟨rfl, rfl⟩
    · replace hm := o_f hm h87
      refine z_lconst (pc' := 238) (x := (0 : Int)) hM270 rfl rfl rfl rfl ?_
      obtain ⟨z91, s92, h93, hm⟩ := o_c hm
      refine z_cvV (d := d + 1) (pc' := 241) hM270 rfl hM269 rfl rfl rfl rfl rfl rfl (c269 (d := d) hG h93) rfl ?_
      refine z_goto (t := 273) hM270 rfl ?_
      cases hm
      exact z_retV hM270 rfl rfl ⟨rfl, rfl⟩
  replace hm := o_f hm h85
  refine (Decidable.em (x1 = (10 : Int))).elim (fun h94 => ?_) (fun h94 => ?_)
  · replace hm := o_t hm h94
    refine z_swT (t := 244) (c := (10 : Int)) hM270 rfl h94 (by decide) rfl rfl ?_
    refine z_aload_n (pc' := 245) hM270 rfl rfl rfl ?_
    refine z_lload (pc' := 247) hM270 rfl rfl rfl ?_
    refine z_lload_n (pc' := 248) hM270 rfl rfl rfl ?_
    obtain ⟨z95, ez95, h96, hm⟩ := o_j hm
    refine z_lmul (pc' := 249) hM270 rfl rfl ez95 h96 ?_
    obtain ⟨z97, s98, h99, hm⟩ := o_c hm
    refine z_cvV (d := d + 1) (pc' := 252) hM270 rfl hM269 rfl rfl rfl rfl rfl rfl (c269 (d := d) hG h99) rfl ?_
    refine z_goto (t := 273) hM270 rfl ?_
    cases hm
    exact z_retV hM270 rfl rfl ⟨rfl, rfl⟩
  replace hm := o_f hm h94
  refine z_swF (t := 255) hM270 rfl (by omega) rfl ?_
  refine z_aload_n (pc' := 256) hM270 rfl rfl rfl ?_
  refine z_lload (pc' := 258) hM270 rfl rfl rfl ?_
  refine z_lload_n (pc' := 259) hM270 rfl rfl rfl ?_
  obtain ⟨z100, ez100, h101, hm⟩ := o_j hm
  refine z_ladd (pc' := 260) hM270 rfl rfl ez100 h101 ?_
  refine z_lconst (pc' := 261) (x := (0 : Int)) hM270 rfl rfl rfl rfl ?_
  obtain ⟨z102, ez102, hm⟩ := o_v hm
  refine z_lcmp (pc' := 262) hM270 rfl rfl ez102 ?_
  refine z_ifle (pc' := 265) (t := 269) hM270 rfl rfl (fun h103 => ?_) (fun h103 => ?_)
  · replace hm := o_t hm h103
    refine z_lconst (pc' := 266) (x := (1 : Int)) hM270 rfl rfl rfl rfl ?_
    refine z_goto (t := 270) hM270 rfl ?_
    obtain ⟨z104, s105, h106, hm⟩ := o_c hm
    refine z_cvV (d := d + 1) (pc' := 273) hM270 rfl hM269 rfl rfl rfl rfl rfl rfl (c269 (d := d) hG h106) rfl ?_
    cases hm
    exact z_retV hM270 rfl rfl ⟨rfl, rfl⟩
  · replace hm := o_f hm h103
    refine z_lconst (pc' := 270) (x := (0 : Int)) hM270 rfl rfl rfl rfl ?_
    obtain ⟨z107, s108, h109, hm⟩ := o_c hm
    refine z_cvV (d := d + 1) (pc' := 273) hM270 rfl hM269 rfl rfl rfl rfl rfl rfl (c269 (d := d) hG h109) rfl ?_
    cases hm
    exact z_retV hM270 rfl rfl ⟨rfl, rfl⟩
def m197_34 : Nat → Int → Int → zS → Option (Int × zS)
  | 0, _, _, _ => none
  | n + 1, x1, x4, s => oZ ((2 : Int) + x1) fun z1 => oX z1 4 (oV (s.1 250 z1) fun z3 => if x4 < z3 then oZ ((1600 : Int) + x4) fun z6 => oX z6 3200 (oV (s.1 251 z6) fun z8 => if z8 < (1000 : Int) then if z8 < (40 : Int) then oC (m270 z8 s) fun z12 s13 => oZ (x4 + (1 : Int)) fun z15 => m197_34 n x1 z15 s13 else oZ (z8 - (40 : Int)) fun z17 => oC (m271 z17 (0 : Int) s) fun z19 s20 => oC (m269 z19 s20) fun z22 s23 => oZ (x4 + (1 : Int)) fun z25 => m197_34 n x1 z25 s23 else oZ (z8 - (1000 : Int)) fun z27 => oC (m269 z27 s) fun z29 s30 => oZ (x4 + (1 : Int)) fun z32 => m197_34 n x1 z32 s30) else oX (0 : Int) 1700 (oV (s.2.1 287 (0 : Int)) fun z34 => some (z34, s)))
theorem c197_34 {G : aHp} {d : Nat} (hG : zG G) : ∀ {n : Nat} {x1 : Int} {x4 : Int} {d2 d3 d5 : Option zV} {s : zS} {r_ : Int} {s_ : zS}, m197_34 n x1 x4 s = some (r_, s_) → Zp G (d + 4) 197 34 [some (zr 12 0 209), some (zi x1), d2, d3, some (zi x4), d5] [] s (zRet (some (zj r_)) s_) := by
  intro n
  induction n with
  | zero => intro x1 x4 d2 d3 d5 s r_ s_ hm; cases hm
  | succ n ih =>
  intro x1 x4 d2 d3 d5 s r_ s_ hm
  replace hm : (oZ ((2 : Int) + x1) fun z1 => oX z1 4 (oV (s.1 250 z1) fun z3 => if x4 < z3 then oZ ((1600 : Int) + x4) fun z6 => oX z6 3200 (oV (s.1 251 z6) fun z8 => if z8 < (1000 : Int) then if z8 < (40 : Int) then oC (m270 z8 s) fun z12 s13 => oZ (x4 + (1 : Int)) fun z15 => m197_34 n x1 z15 s13 else oZ (z8 - (40 : Int)) fun z17 => oC (m271 z17 (0 : Int) s) fun z19 s20 => oC (m269 z19 s20) fun z22 s23 => oZ (x4 + (1 : Int)) fun z25 => m197_34 n x1 z25 s23 else oZ (z8 - (1000 : Int)) fun z27 => oC (m269 z27 s) fun z29 s30 => oZ (x4 + (1 : Int)) fun z32 => m197_34 n x1 z32 s30) else oX (0 : Int) 1700 (oV (s.2.1 287 (0 : Int)) fun z34 => some (z34, s)))) = some (r_, s_) := hm
  refine z_iload (pc' := 36) hM197 rfl rfl rfl ?_
  refine z_aload_n (pc' := 37) hM197 rfl rfl rfl ?_
  refine z_fldR (pc' := 40) hM197 rfl (zf_12_49 hG) rfl rfl ?_
  refine z_iconst (pc' := 41) hM197 rfl rfl rfl ?_
  refine z_iload_n (pc' := 42) hM197 rfl rfl rfl ?_
  obtain ⟨z1, ez1, h2, hm⟩ := o_z hm
  refine z_iadd (pc' := 43) hM197 rfl rfl ez1 h2 ?_
  obtain ⟨h4, hm⟩ := o_x hm
  obtain ⟨z3, ez3, hm⟩ := o_v hm
  refine z_iald (pc' := 44) (zGN hG) hM197 rfl rfl h4 ez3 ?_
  refine z_cmpge (pc' := 47) (t := 118) hM197 rfl rfl (fun h5 => ?_) (fun h5 => ?_)
  · replace hm := o_t hm h5
    refine z_aload_n (pc' := 48) hM197 rfl rfl rfl ?_
    refine z_fldR (pc' := 51) hM197 rfl (zf_12_50 hG) rfl rfl ?_
    refine z_sipush (pc' := 54) hM197 rfl rfl rfl ?_
    refine z_iload (pc' := 56) hM197 rfl rfl rfl ?_
    obtain ⟨z6, ez6, h7, hm⟩ := o_z hm
    refine z_iadd (pc' := 57) hM197 rfl rfl ez6 h7 ?_
    obtain ⟨h9, hm⟩ := o_x hm
    obtain ⟨z8, ez8, hm⟩ := o_v hm
    refine z_iald (pc' := 58) (zGN hG) hM197 rfl rfl h9 ez8 ?_
    refine z_istore (pc' := 60) (l' := [some (zr 12 0 209), some (zi x1), d2, d3, some (zi x4), some (zi z8)]) hM197 rfl rfl rfl rfl ?_
    refine z_iload (pc' := 62) hM197 rfl rfl rfl ?_
    refine z_sipush (pc' := 65) hM197 rfl rfl rfl ?_
    refine z_cmplt (pc' := 68) (t := 82) hM197 rfl rfl (fun h10 => ?_) (fun h10 => ?_)
    · replace hm := o_t hm h10
      refine z_iload (pc' := 84) hM197 rfl rfl rfl ?_
      refine z_bipush (pc' := 86) hM197 rfl rfl rfl ?_
      refine z_cmplt (pc' := 89) (t := 106) hM197 rfl rfl (fun h11 => ?_) (fun h11 => ?_)
      · replace hm := o_t hm h11
        refine z_aload_n (pc' := 107) hM197 rfl rfl rfl ?_
        refine z_iload (pc' := 109) hM197 rfl rfl rfl ?_
        obtain ⟨z12, s13, h14, hm⟩ := o_c hm
        refine z_cvV (d := d + 3) (pc' := 112) hM197 rfl hM270 rfl rfl rfl rfl rfl rfl (c270 (d := d + 1) hG h14) rfl ?_
        obtain ⟨z15, ez15, h16, hm⟩ := o_z hm
        refine z_iinc (pc' := 115) (l' := [some (zr 12 0 209), some (zi x1), d2, zKd d3, some (zi z15), some (zi z8)]) hM197 rfl rfl rfl ez15 h16 rfl rfl ?_
        refine z_goto (t := 34) hM197 rfl ?_
        exact ih hm
      · replace hm := o_f hm h11
        refine z_aload_n (pc' := 90) hM197 rfl rfl rfl ?_
        refine z_aload_n (pc' := 91) hM197 rfl rfl rfl ?_
        refine z_iload (pc' := 93) hM197 rfl rfl rfl ?_
        refine z_bipush (pc' := 95) hM197 rfl rfl rfl ?_
        obtain ⟨z17, ez17, h18, hm⟩ := o_z hm
        refine z_isub (pc' := 96) hM197 rfl rfl ez17 h18 ?_
        refine z_iconst (pc' := 97) hM197 rfl rfl rfl ?_
        obtain ⟨z19, s20, h21, hm⟩ := o_c hm
        refine z_cv (d := d + 3) (pc' := 100) hM197 rfl hM271 rfl rfl rfl rfl rfl rfl (c271 (d := d) hG h21) rfl ?_
        obtain ⟨z22, s23, h24, hm⟩ := o_c hm
        refine z_cvV (d := d + 3) (pc' := 103) hM197 rfl hM269 rfl rfl rfl rfl rfl rfl (c269 (d := d + 2) hG h24) rfl ?_
        refine z_goto (t := 112) hM197 rfl ?_
        obtain ⟨z25, ez25, h26, hm⟩ := o_z hm
        refine z_iinc (pc' := 115) (l' := [some (zr 12 0 209), some (zi x1), d2, zKd d3, some (zi z25), some (zi z8)]) hM197 rfl rfl rfl ez25 h26 rfl rfl ?_
        refine z_goto (t := 34) hM197 rfl ?_
        exact ih hm
    · replace hm := o_f hm h10
      refine z_aload_n (pc' := 69) hM197 rfl rfl rfl ?_
      refine z_iload (pc' := 71) hM197 rfl rfl rfl ?_
      refine z_sipush (pc' := 74) hM197 rfl rfl rfl ?_
      obtain ⟨z27, ez27, h28, hm⟩ := o_z hm
      refine z_isub (pc' := 75) hM197 rfl rfl ez27 h28 ?_
      refine z_i2l (pc' := 76) hM197 rfl rfl ?_
      obtain ⟨z29, s30, h31, hm⟩ := o_c hm
      refine z_cvV (d := d + 3) (pc' := 79) hM197 rfl hM269 rfl rfl rfl rfl rfl rfl (c269 (d := d + 2) hG h31) rfl ?_
      refine z_goto (t := 112) hM197 rfl ?_
      obtain ⟨z32, ez32, h33, hm⟩ := o_z hm
      refine z_iinc (pc' := 115) (l' := [some (zr 12 0 209), some (zi x1), d2, zKd d3, some (zi z32), some (zi z8)]) hM197 rfl rfl rfl ez32 h33 rfl rfl ?_
      refine z_goto (t := 34) hM197 rfl ?_
      exact ih hm
  · replace hm := o_f hm h5
    refine z_aload_n (pc' := 119) hM197 rfl rfl rfl ?_
    refine z_fldR (pc' := 122) hM197 rfl (zf_12_105 hG) rfl rfl ?_
    refine z_iconst (pc' := 123) hM197 rfl rfl rfl ?_
    obtain ⟨h35, hm⟩ := o_x hm
    obtain ⟨z34, ez34, hm⟩ := o_v hm
    refine z_lald (pc' := 124) hM197 rfl rfl h35 ez34 ?_
    cases hm
    exact z_retJ hM197 rfl rfl ⟨rfl, rfl⟩
def m197 (x1 : Int) (x2 : Int) (s : zS) : Option (Int × zS) := oZ ((2 : Int) + x1) fun z1 => oX z1 4 (oV (s.1 249 z1) fun z3 => if z3 = (-1 : Int) then some (x2, s) else oV (sI s 209 53 (1 : Int)) fun s6 => oV (sI s6 209 106 (0 : Int)) fun s7 => oZ ((2 : Int) + x1) fun z8 => oX z8 4 (oV (s7.1 249 z8) fun z10 => m197_34 zFu x1 z10 s7))
theorem c197 {G : aHp} {d : Nat} (hG : zG G) {x1 : Int} {x2 : Int} {s : zS} {r_ : Int} {s_ : zS} (hm : m197 x1 x2 s = some (r_, s_)) : Zp G (d + 4) 197 0 [some (zr 12 0 209), some (zi x1), some (zj x2), none, none, none] [] s (zRet (some (zj r_)) s_) := by
  replace hm : (oZ ((2 : Int) + x1) fun z1 => oX z1 4 (oV (s.1 249 z1) fun z3 => if z3 = (-1 : Int) then some (x2, s) else oV (sI s 209 53 (1 : Int)) fun s6 => oV (sI s6 209 106 (0 : Int)) fun s7 => oZ ((2 : Int) + x1) fun z8 => oX z8 4 (oV (s7.1 249 z8) fun z10 => m197_34 zFu x1 z10 s7))) = some (r_, s_) := hm
  refine z_aload_n (pc' := 1) hM197 rfl rfl rfl ?_
  refine z_fldR (pc' := 4) hM197 rfl (zf_12_48 hG) rfl rfl ?_
  refine z_iconst (pc' := 5) hM197 rfl rfl rfl ?_
  refine z_iload_n (pc' := 6) hM197 rfl rfl rfl ?_
  obtain ⟨z1, ez1, h2, hm⟩ := o_z hm
  refine z_iadd (pc' := 7) hM197 rfl rfl ez1 h2 ?_
  obtain ⟨h4, hm⟩ := o_x hm
  obtain ⟨z3, ez3, hm⟩ := o_v hm
  refine z_iald (pc' := 8) (zGN hG) hM197 rfl rfl h4 ez3 ?_
  refine z_iconst (pc' := 9) hM197 rfl rfl rfl ?_
  refine z_cmpne (pc' := 12) (t := 14) hM197 rfl rfl (fun h5 => ?_) (fun h5 => ?_)
  · replace hm := o_t hm h5
    refine z_lload_n (pc' := 13) hM197 rfl rfl rfl ?_
    cases hm
    exact z_retJ hM197 rfl rfl ⟨rfl, rfl⟩
  · replace hm := o_f hm h5
    refine z_aload_n (pc' := 15) hM197 rfl rfl rfl ?_
    refine z_iconst (pc' := 16) hM197 rfl rfl rfl ?_
    obtain ⟨s6, es6, hm⟩ := o_v hm
    refine z_putZ (pc' := 19) hM197 rfl (Or.inr rfl) rfl rfl es6 ?_
    refine z_aload_n (pc' := 20) hM197 rfl rfl rfl ?_
    refine z_iconst (pc' := 21) hM197 rfl rfl rfl ?_
    obtain ⟨s7, es7, hm⟩ := o_v hm
    refine z_putI (pc' := 24) hM197 rfl rfl rfl es7 ?_
    refine z_aload_n (pc' := 25) hM197 rfl rfl rfl ?_
    refine z_fldR (pc' := 28) hM197 rfl (zf_12_48 hG) rfl rfl ?_
    refine z_iconst (pc' := 29) hM197 rfl rfl rfl ?_
    refine z_iload_n (pc' := 30) hM197 rfl rfl rfl ?_
    obtain ⟨z8, ez8, h9, hm⟩ := o_z hm
    refine z_iadd (pc' := 31) hM197 rfl rfl ez8 h9 ?_
    obtain ⟨h11, hm⟩ := o_x hm
    obtain ⟨z10, ez10, hm⟩ := o_v hm
    refine z_iald (pc' := 32) (zGN hG) hM197 rfl rfl h11 ez10 ?_
    refine z_istore (pc' := 34) (l' := [some (zr 12 0 209), some (zi x1), some (zj x2), none, some (zi z10), none]) hM197 rfl rfl rfl rfl ?_
    exact c197_34 hG hm
def m198_167 (x4 : Int) (x10 : Int) (y0 : Int) (s : zS) : Option (Int × zS) := if x10 = (-1 : Int) then some (y0, s) else if y0 = x10 then if x4 = (9 : Int) then oV (sI s 209 62 (9 : Int)) fun s4 => some (y0, s4) else oZ (x4 + (1 : Int)) fun z5 => oV (sI s 209 62 z5) fun s7 => some (y0, s7) else if x4 = (0 : Int) then oV (sI s 209 62 (0 : Int)) fun s9 => some (y0, s9) else oZ (x4 - (1 : Int)) fun z10 => oV (sI s 209 62 z10) fun s12 => some (y0, s12)
set_option maxRecDepth 20000 in
theorem c198_167 {G : aHp} {d : Nat} (hG : zG G) {x4 : Int} {x10 : Int} {y0 : Int} {d1 d2 d3 d5 d6 d7 d8 d9 d11 d12 : Option zV} {s : zS} {r_ : Int} {s_ : zS} (hm : m198_167 x4 x10 y0 s = some (r_, s_)) : Zp G (d + 5) 198 167 [some (zr 12 0 209), d1, d2, d3, some (zi x4), d5, d6, d7, d8, d9, some (zi x10), d11, d12] [zi y0] s (zRet (some (zi r_)) s_) := by
  replace hm : (if x10 = (-1 : Int) then some (y0, s) else if y0 = x10 then if x4 = (9 : Int) then oV (sI s 209 62 (9 : Int)) fun s4 => some (y0, s4) else oZ (x4 + (1 : Int)) fun z5 => oV (sI s 209 62 z5) fun s7 => some (y0, s7) else if x4 = (0 : Int) then oV (sI s 209 62 (0 : Int)) fun s9 => some (y0, s9) else oZ (x4 - (1 : Int)) fun z10 => oV (sI s 209 62 z10) fun s12 => some (y0, s12)) = some (r_, s_) := hm
  refine z_istore (pc' := 169) (l' := [some (zr 12 0 209), d1, d2, d3, some (zi x4), d5, d6, d7, d8, d9, some (zi x10), zKd d11, some (zi y0)]) hM198 rfl rfl rfl rfl ?_
  refine z_iload (pc' := 171) hM198 rfl rfl rfl ?_
  refine z_iconst (pc' := 172) hM198 rfl rfl rfl ?_
  refine z_cmpeq (pc' := 175) (t := 222) hM198 rfl rfl (fun h1 => ?_) (fun h1 => ?_)
  · replace hm := o_t hm h1
    refine z_iload (pc' := 224) hM198 rfl rfl rfl ?_
    cases hm
    exact z_retI hM198 rfl rfl ⟨rfl, rfl⟩
  · replace hm := o_f hm h1
    refine z_iload (pc' := 177) hM198 rfl rfl rfl ?_
    refine z_iload (pc' := 179) hM198 rfl rfl rfl ?_
    refine z_cmpne (pc' := 182) (t := 205) hM198 rfl rfl (fun h2 => ?_) (fun h2 => ?_)
    · replace hm := o_t hm h2
      refine z_aload_n (pc' := 183) hM198 rfl rfl rfl ?_
      refine z_iload (pc' := 185) hM198 rfl rfl rfl ?_
      refine z_bipush (pc' := 187) hM198 rfl rfl rfl ?_
      refine z_cmpne (pc' := 190) (t := 195) hM198 rfl rfl (fun h3 => ?_) (fun h3 => ?_)
      · replace hm := o_t hm h3
        refine z_bipush (pc' := 192) hM198 rfl rfl rfl ?_
        refine z_goto (t := 199) hM198 rfl ?_
        obtain ⟨s4, es4, hm⟩ := o_v hm
        refine z_putI (pc' := 202) hM198 rfl rfl rfl es4 ?_
        refine z_goto (t := 222) hM198 rfl ?_
        refine z_iload (pc' := 224) hM198 rfl rfl rfl ?_
        cases hm
        exact z_retI hM198 rfl rfl ⟨rfl, rfl⟩
      · replace hm := o_f hm h3
        refine z_iload (pc' := 197) hM198 rfl rfl rfl ?_
        refine z_iconst (pc' := 198) hM198 rfl rfl rfl ?_
        obtain ⟨z5, ez5, h6, hm⟩ := o_z hm
        refine z_iadd (pc' := 199) hM198 rfl rfl ez5 h6 ?_
        obtain ⟨s7, es7, hm⟩ := o_v hm
        refine z_putI (pc' := 202) hM198 rfl rfl rfl es7 ?_
        refine z_goto (t := 222) hM198 rfl ?_
        refine z_iload (pc' := 224) hM198 rfl rfl rfl ?_
        cases hm
        exact z_retI hM198 rfl rfl ⟨rfl, rfl⟩
    · replace hm := o_f hm h2
      refine z_aload_n (pc' := 206) hM198 rfl rfl rfl ?_
      refine z_iload (pc' := 208) hM198 rfl rfl rfl ?_
      refine z_ifne (pc' := 211) (t := 215) hM198 rfl rfl (fun h8 => ?_) (fun h8 => ?_)
      · replace hm := o_t hm h8
        refine z_iconst (pc' := 212) hM198 rfl rfl rfl ?_
        refine z_goto (t := 219) hM198 rfl ?_
        obtain ⟨s9, es9, hm⟩ := o_v hm
        refine z_putI (pc' := 222) hM198 rfl rfl rfl es9 ?_
        refine z_iload (pc' := 224) hM198 rfl rfl rfl ?_
        cases hm
        exact z_retI hM198 rfl rfl ⟨rfl, rfl⟩
      · replace hm := o_f hm h8
        refine z_iload (pc' := 217) hM198 rfl rfl rfl ?_
        refine z_iconst (pc' := 218) hM198 rfl rfl rfl ?_
        obtain ⟨z10, ez10, h11, hm⟩ := o_z hm
        refine z_isub (pc' := 219) hM198 rfl rfl ez10 h11 ?_
        obtain ⟨s12, es12, hm⟩ := o_v hm
        refine z_putI (pc' := 222) hM198 rfl rfl rfl es12 ?_
        refine z_iload (pc' := 224) hM198 rfl rfl rfl ?_
        cases hm
        exact z_retI hM198 rfl rfl ⟨rfl, rfl⟩
def m198_153 (x4 : Int) (x8 : Int) (x10 : Int) (y0 : Int) (s : zS) : Option (Int × zS) := if y0 = (0 : Int) then m198_167 x4 x10 x8 s else m198_167 x4 x10 x10 s
set_option maxRecDepth 20000 in
theorem c198_153 {G : aHp} {d : Nat} (hG : zG G) {x4 : Int} {x8 : Int} {x10 : Int} {y0 : Int} {d1 d2 d3 d5 d6 d7 d9 d11 d12 : Option zV} {s : zS} {r_ : Int} {s_ : zS} (hm : m198_153 x4 x8 x10 y0 s = some (r_, s_)) : Zp G (d + 5) 198 153 [some (zr 12 0 209), d1, d2, d3, some (zi x4), d5, d6, d7, some (zi x8), d9, some (zi x10), d11, d12] [zi y0] s (zRet (some (zi r_)) s_) := by
  replace hm : (if y0 = (0 : Int) then m198_167 x4 x10 x8 s else m198_167 x4 x10 x10 s) = some (r_, s_) := hm
  refine z_istore (pc' := 155) (l' := [some (zr 12 0 209), d1, d2, d3, some (zi x4), d5, d6, d7, some (zi x8), d9, some (zi x10), some (zi y0), d12]) hM198 rfl rfl rfl rfl ?_
  refine z_iload (pc' := 157) hM198 rfl rfl rfl ?_
  refine z_ifeq (pc' := 160) (t := 165) hM198 rfl rfl (fun h1 => ?_) (fun h1 => ?_)
  · replace hm := o_t hm h1
    refine z_iload (pc' := 167) hM198 rfl rfl rfl ?_
    exact c198_167 hG hm
  · replace hm := o_f hm h1
    refine z_iload (pc' := 162) hM198 rfl rfl rfl ?_
    refine z_goto (t := 167) hM198 rfl ?_
    exact c198_167 hG hm
def m198_88 (x1 : Int) (x2 : Int) (x4 : Int) (x5 : Int) (x6 : Int) (x8 : Int) (x10 : Int) (s : zS) : Option (Int × zS) := oV (sI s 209 58 x4) fun s1 => oC (m194 x1 x2 s1) fun z2 s3 => oV (sI s3 209 59 z2) fun s5 => oV (sI s5 209 60 x5) fun s6 => oV (sI s6 209 61 x6) fun s7 => if x10 = (-1 : Int) then m198_153 x4 x8 x10 (0 : Int) s7 else if x8 = (-1 : Int) then m198_153 x4 x8 x10 (1 : Int) s7 else oC (m197 (0 : Int) x4 s7) fun z10 s11 => oC (m197 (1 : Int) x6 s11) fun z13 s14 => oV (zCmp z10 z13) fun z16 => if (0 : Int) < z16 then m198_153 x4 x8 x10 (1 : Int) s14 else m198_153 x4 x8 x10 (0 : Int) s14
set_option maxRecDepth 20000 in
theorem c198_88 {G : aHp} {d : Nat} (hG : zG G) {x1 : Int} {x2 : Int} {x4 : Int} {x5 : Int} {x6 : Int} {x8 : Int} {x10 : Int} {d3 d7 d9 d11 d12 : Option zV} {s : zS} {r_ : Int} {s_ : zS} (hm : m198_88 x1 x2 x4 x5 x6 x8 x10 s = some (r_, s_)) : Zp G (d + 5) 198 88 [some (zr 12 0 209), some (zi x1), some (zi x2), d3, some (zi x4), some (zi x5), some (zi x6), d7, some (zi x8), d9, some (zi x10), d11, d12] [] s (zRet (some (zi r_)) s_) := by
  replace hm : (oV (sI s 209 58 x4) fun s1 => oC (m194 x1 x2 s1) fun z2 s3 => oV (sI s3 209 59 z2) fun s5 => oV (sI s5 209 60 x5) fun s6 => oV (sI s6 209 61 x6) fun s7 => if x10 = (-1 : Int) then m198_153 x4 x8 x10 (0 : Int) s7 else if x8 = (-1 : Int) then m198_153 x4 x8 x10 (1 : Int) s7 else oC (m197 (0 : Int) x4 s7) fun z10 s11 => oC (m197 (1 : Int) x6 s11) fun z13 s14 => oV (zCmp z10 z13) fun z16 => if (0 : Int) < z16 then m198_153 x4 x8 x10 (1 : Int) s14 else m198_153 x4 x8 x10 (0 : Int) s14) = some (r_, s_) := hm
  refine z_aload_n (pc' := 89) hM198 rfl rfl rfl ?_
  refine z_iload (pc' := 91) hM198 rfl rfl rfl ?_
  obtain ⟨s1, es1, hm⟩ := o_v hm
  refine z_putI (pc' := 94) hM198 rfl rfl rfl es1 ?_
  refine z_aload_n (pc' := 95) hM198 rfl rfl rfl ?_
  refine z_aload_n (pc' := 96) hM198 rfl rfl rfl ?_
  refine z_iload_n (pc' := 97) hM198 rfl rfl rfl ?_
  refine z_iload_n (pc' := 98) hM198 rfl rfl rfl ?_
  obtain ⟨z2, s3, h4, hm⟩ := o_c hm
  refine z_cv (d := d + 4) (pc' := 101) hM198 rfl hM194 rfl rfl rfl rfl rfl rfl (c194 (d := d + 3) hG h4) rfl ?_
  obtain ⟨s5, es5, hm⟩ := o_v hm
  refine z_putI (pc' := 104) hM198 rfl rfl rfl es5 ?_
  refine z_aload_n (pc' := 105) hM198 rfl rfl rfl ?_
  refine z_iload (pc' := 107) hM198 rfl rfl rfl ?_
  obtain ⟨s6, es6, hm⟩ := o_v hm
  refine z_putI (pc' := 110) hM198 rfl rfl rfl es6 ?_
  refine z_aload_n (pc' := 111) hM198 rfl rfl rfl ?_
  refine z_iload (pc' := 113) hM198 rfl rfl rfl ?_
  obtain ⟨s7, es7, hm⟩ := o_v hm
  refine z_putI (pc' := 116) hM198 rfl rfl rfl es7 ?_
  refine z_iload (pc' := 118) hM198 rfl rfl rfl ?_
  refine z_iconst (pc' := 119) hM198 rfl rfl rfl ?_
  refine z_cmpeq (pc' := 122) (t := 152) hM198 rfl rfl (fun h8 => ?_) (fun h8 => ?_)
  · replace hm := o_t hm h8
    refine z_iconst (pc' := 153) hM198 rfl rfl rfl ?_
    exact c198_153 hG hm
  · replace hm := o_f hm h8
    refine z_iload (pc' := 124) hM198 rfl rfl rfl ?_
    refine z_iconst (pc' := 125) hM198 rfl rfl rfl ?_
    refine z_cmpeq (pc' := 128) (t := 148) hM198 rfl rfl (fun h9 => ?_) (fun h9 => ?_)
    · replace hm := o_t hm h9
      refine z_iconst (pc' := 149) hM198 rfl rfl rfl ?_
      refine z_goto (t := 153) hM198 rfl ?_
      exact c198_153 hG hm
    · replace hm := o_f hm h9
      refine z_aload_n (pc' := 129) hM198 rfl rfl rfl ?_
      refine z_iconst (pc' := 130) hM198 rfl rfl rfl ?_
      refine z_iload (pc' := 132) hM198 rfl rfl rfl ?_
      refine z_i2l (pc' := 133) hM198 rfl rfl ?_
      obtain ⟨z10, s11, h12, hm⟩ := o_c hm
      refine z_cv (d := d + 4) (pc' := 136) hM198 rfl hM197 rfl rfl rfl rfl rfl rfl (c197 (d := d) hG h12) rfl ?_
      refine z_aload_n (pc' := 137) hM198 rfl rfl rfl ?_
      refine z_iconst (pc' := 138) hM198 rfl rfl rfl ?_
      refine z_iload (pc' := 140) hM198 rfl rfl rfl ?_
      refine z_i2l (pc' := 141) hM198 rfl rfl ?_
      obtain ⟨z13, s14, h15, hm⟩ := o_c hm
      refine z_cv (d := d + 4) (pc' := 144) hM198 rfl hM197 rfl rfl rfl rfl rfl rfl (c197 (d := d) hG h15) rfl ?_
      obtain ⟨z16, ez16, hm⟩ := o_v hm
      refine z_lcmp (pc' := 145) hM198 rfl rfl ez16 ?_
      refine z_ifle (pc' := 148) (t := 152) hM198 rfl rfl (fun h17 => ?_) (fun h17 => ?_)
      · replace hm := o_t hm h17
        refine z_iconst (pc' := 149) hM198 rfl rfl rfl ?_
        refine z_goto (t := 153) hM198 rfl ?_
        exact c198_153 hG hm
      · replace hm := o_f hm h17
        refine z_iconst (pc' := 153) hM198 rfl rfl rfl ?_
        exact c198_153 hG hm
def m198_66 (x1 : Int) (x2 : Int) (x3 : Int) (x4 : Int) (x5 : Int) (x6 : Int) (x8 : Int) (y0 : Int) (s : zS) : Option (Int × zS) := oV (sI s 209 62 x4) fun s1 => if x8 = (-1 : Int) then if y0 = (-1 : Int) then some (x3, s1) else m198_88 x1 x2 x4 x5 x6 x8 y0 s1 else m198_88 x1 x2 x4 x5 x6 x8 y0 s1
set_option maxRecDepth 20000 in
theorem c198_66 {G : aHp} {d : Nat} (hG : zG G) {x1 : Int} {x2 : Int} {x3 : Int} {x4 : Int} {x5 : Int} {x6 : Int} {x8 : Int} {y0 : Int} {d7 d9 d10 d11 d12 : Option zV} {s : zS} {r_ : Int} {s_ : zS} (hm : m198_66 x1 x2 x3 x4 x5 x6 x8 y0 s = some (r_, s_)) : Zp G (d + 5) 198 66 [some (zr 12 0 209), some (zi x1), some (zi x2), some (zi x3), some (zi x4), some (zi x5), some (zi x6), d7, some (zi x8), d9, d10, d11, d12] [zi y0] s (zRet (some (zi r_)) s_) := by
  replace hm : (oV (sI s 209 62 x4) fun s1 => if x8 = (-1 : Int) then if y0 = (-1 : Int) then some (x3, s1) else m198_88 x1 x2 x4 x5 x6 x8 y0 s1 else m198_88 x1 x2 x4 x5 x6 x8 y0 s1) = some (r_, s_) := hm
  refine z_istore (pc' := 68) (l' := [some (zr 12 0 209), some (zi x1), some (zi x2), some (zi x3), some (zi x4), some (zi x5), some (zi x6), d7, some (zi x8), zKd d9, some (zi y0), d11, d12]) hM198 rfl rfl rfl rfl ?_
  refine z_aload_n (pc' := 69) hM198 rfl rfl rfl ?_
  refine z_iload (pc' := 71) hM198 rfl rfl rfl ?_
  obtain ⟨s1, es1, hm⟩ := o_v hm
  refine z_putI (pc' := 74) hM198 rfl rfl rfl es1 ?_
  refine z_iload (pc' := 76) hM198 rfl rfl rfl ?_
  refine z_iconst (pc' := 77) hM198 rfl rfl rfl ?_
  refine z_cmpne (pc' := 80) (t := 88) hM198 rfl rfl (fun h2 => ?_) (fun h2 => ?_)
  · replace hm := o_t hm h2
    refine z_iload (pc' := 82) hM198 rfl rfl rfl ?_
    refine z_iconst (pc' := 83) hM198 rfl rfl rfl ?_
    refine z_cmpne (pc' := 86) (t := 88) hM198 rfl rfl (fun h3 => ?_) (fun h3 => ?_)
    · replace hm := o_t hm h3
      refine z_iload_n (pc' := 87) hM198 rfl rfl rfl ?_
      cases hm
      exact z_retI hM198 rfl rfl ⟨rfl, rfl⟩
    · replace hm := o_f hm h3
      exact c198_88 hG hm
  · replace hm := o_f hm h2
    exact c198_88 hG hm
def m198_29 (x1 : Int) (x2 : Int) (x3 : Int) (x4 : Int) (x5 : Int) (x6 : Int) (y0 : Int) (s : zS) : Option (Int × zS) := oZ ((3 : Int) * x2) fun z1 => oZ ((25 : Int) + z1) fun z3 => oX z3 48 (oV (s.1 245 z3) fun z5 => if x3 = z5 then m198_66 x1 x2 x3 x4 x5 x6 y0 (-1 : Int) s else oZ ((7 : Int) * x3) fun z8 => oZ (z8 + z5) fun z10 => oX z10 49 (oV (s.1 253 z10) fun z12 => m198_66 x1 x2 x3 x4 x5 x6 y0 z12 s))
set_option maxRecDepth 20000 in
theorem c198_29 {G : aHp} {d : Nat} (hG : zG G) {x1 : Int} {x2 : Int} {x3 : Int} {x4 : Int} {x5 : Int} {x6 : Int} {y0 : Int} {d7 d8 d9 d10 d11 d12 : Option zV} {s : zS} {r_ : Int} {s_ : zS} (hm : m198_29 x1 x2 x3 x4 x5 x6 y0 s = some (r_, s_)) : Zp G (d + 5) 198 29 [some (zr 12 0 209), some (zi x1), some (zi x2), some (zi x3), some (zi x4), some (zi x5), some (zi x6), d7, d8, d9, d10, d11, d12] [zi y0] s (zRet (some (zi r_)) s_) := by
  replace hm : (oZ ((3 : Int) * x2) fun z1 => oZ ((25 : Int) + z1) fun z3 => oX z3 48 (oV (s.1 245 z3) fun z5 => if x3 = z5 then m198_66 x1 x2 x3 x4 x5 x6 y0 (-1 : Int) s else oZ ((7 : Int) * x3) fun z8 => oZ (z8 + z5) fun z10 => oX z10 49 (oV (s.1 253 z10) fun z12 => m198_66 x1 x2 x3 x4 x5 x6 y0 z12 s))) = some (r_, s_) := hm
  refine z_istore (pc' := 31) (l' := [some (zr 12 0 209), some (zi x1), some (zi x2), some (zi x3), some (zi x4), some (zi x5), some (zi x6), zKd d7, some (zi y0), d9, d10, d11, d12]) hM198 rfl rfl rfl rfl ?_
  refine z_aload_n (pc' := 32) hM198 rfl rfl rfl ?_
  refine z_fldR (pc' := 35) hM198 rfl (zf_12_44 hG) rfl rfl ?_
  refine z_bipush (pc' := 37) hM198 rfl rfl rfl ?_
  refine z_iconst (pc' := 38) hM198 rfl rfl rfl ?_
  refine z_iload_n (pc' := 39) hM198 rfl rfl rfl ?_
  obtain ⟨z1, ez1, h2, hm⟩ := o_z hm
  refine z_imul (pc' := 40) hM198 rfl rfl ez1 h2 ?_
  obtain ⟨z3, ez3, h4, hm⟩ := o_z hm
  refine z_iadd (pc' := 41) hM198 rfl rfl ez3 h4 ?_
  obtain ⟨h6, hm⟩ := o_x hm
  obtain ⟨z5, ez5, hm⟩ := o_v hm
  refine z_iald (pc' := 42) (zGN hG) hM198 rfl rfl h6 ez5 ?_
  refine z_istore (pc' := 44) (l' := [some (zr 12 0 209), some (zi x1), some (zi x2), some (zi x3), some (zi x4), some (zi x5), some (zi x6), zKd d7, some (zi y0), some (zi z5), d10, d11, d12]) hM198 rfl rfl rfl rfl ?_
  refine z_iload_n (pc' := 45) hM198 rfl rfl rfl ?_
  refine z_iload (pc' := 47) hM198 rfl rfl rfl ?_
  refine z_cmpne (pc' := 50) (t := 54) hM198 rfl rfl (fun h7 => ?_) (fun h7 => ?_)
  · replace hm := o_t hm h7
    refine z_iconst (pc' := 51) hM198 rfl rfl rfl ?_
    refine z_goto (t := 66) hM198 rfl ?_
    exact c198_66 hG hm
  · replace hm := o_f hm h7
    refine z_aload_n (pc' := 55) hM198 rfl rfl rfl ?_
    refine z_fldR (pc' := 58) hM198 rfl (zf_12_55 hG) rfl rfl ?_
    refine z_bipush (pc' := 60) hM198 rfl rfl rfl ?_
    refine z_iload_n (pc' := 61) hM198 rfl rfl rfl ?_
    obtain ⟨z8, ez8, h9, hm⟩ := o_z hm
    refine z_imul (pc' := 62) hM198 rfl rfl ez8 h9 ?_
    refine z_iload (pc' := 64) hM198 rfl rfl rfl ?_
    obtain ⟨z10, ez10, h11, hm⟩ := o_z hm
    refine z_iadd (pc' := 65) hM198 rfl rfl ez10 h11 ?_
    obtain ⟨h13, hm⟩ := o_x hm
    obtain ⟨z12, ez12, hm⟩ := o_v hm
    refine z_iald (pc' := 66) (zGN hG) hM198 rfl rfl h13 ez12 ?_
    exact c198_66 hG hm
def m198 (x1 : Int) (x2 : Int) (x3 : Int) (x4 : Int) (x5 : Int) (x6 : Int) (s : zS) : Option (Int × zS) := oC (m191 x1 s) fun z1 s2 => if x3 = z1 then m198_29 x1 x2 x3 x4 x5 x6 (-1 : Int) s2 else oZ ((7 : Int) * x3) fun z5 => oZ (z5 + z1) fun z7 => oX z7 49 (oV (s2.1 253 z7) fun z9 => m198_29 x1 x2 x3 x4 x5 x6 z9 s2)
set_option maxRecDepth 20000 in
theorem c198 {G : aHp} {d : Nat} (hG : zG G) {x1 : Int} {x2 : Int} {x3 : Int} {x4 : Int} {x5 : Int} {x6 : Int} {s : zS} {r_ : Int} {s_ : zS} (hm : m198 x1 x2 x3 x4 x5 x6 s = some (r_, s_)) : Zp G (d + 5) 198 0 [some (zr 12 0 209), some (zi x1), some (zi x2), some (zi x3), some (zi x4), some (zi x5), some (zi x6), none, none, none, none, none, none] [] s (zRet (some (zi r_)) s_) := by
  replace hm : (oC (m191 x1 s) fun z1 s2 => if x3 = z1 then m198_29 x1 x2 x3 x4 x5 x6 (-1 : Int) s2 else oZ ((7 : Int) * x3) fun z5 => oZ (z5 + z1) fun z7 => oX z7 49 (oV (s2.1 253 z7) fun z9 => m198_29 x1 x2 x3 x4 x5 x6 z9 s2)) = some (r_, s_) := hm
  refine z_aload_n (pc' := 1) hM198 rfl rfl rfl ?_
  refine z_iload_n (pc' := 2) hM198 rfl rfl rfl ?_
  obtain ⟨z1, s2, h3, hm⟩ := o_c hm
  refine z_cv (d := d + 4) (pc' := 5) hM198 rfl hM191 rfl rfl rfl rfl rfl rfl (c191 (d := d + 3) hG h3) rfl ?_
  refine z_istore (pc' := 7) (l' := [some (zr 12 0 209), some (zi x1), some (zi x2), some (zi x3), some (zi x4), some (zi x5), some (zi x6), some (zi z1), none, none, none, none, none]) hM198 rfl rfl rfl rfl ?_
  refine z_iload_n (pc' := 8) hM198 rfl rfl rfl ?_
  refine z_iload (pc' := 10) hM198 rfl rfl rfl ?_
  refine z_cmpne (pc' := 13) (t := 17) hM198 rfl rfl (fun h4 => ?_) (fun h4 => ?_)
  · replace hm := o_t hm h4
    refine z_iconst (pc' := 14) hM198 rfl rfl rfl ?_
    refine z_goto (t := 29) hM198 rfl ?_
    exact c198_29 hG hm
  · replace hm := o_f hm h4
    refine z_aload_n (pc' := 18) hM198 rfl rfl rfl ?_
    refine z_fldR (pc' := 21) hM198 rfl (zf_12_55 hG) rfl rfl ?_
    refine z_bipush (pc' := 23) hM198 rfl rfl rfl ?_
    refine z_iload_n (pc' := 24) hM198 rfl rfl rfl ?_
    obtain ⟨z5, ez5, h6, hm⟩ := o_z hm
    refine z_imul (pc' := 25) hM198 rfl rfl ez5 h6 ?_
    refine z_iload (pc' := 27) hM198 rfl rfl rfl ?_
    obtain ⟨z7, ez7, h8, hm⟩ := o_z hm
    refine z_iadd (pc' := 28) hM198 rfl rfl ez7 h8 ?_
    obtain ⟨h10, hm⟩ := o_x hm
    obtain ⟨z9, ez9, hm⟩ := o_v hm
    refine z_iald (pc' := 29) (zGN hG) hM198 rfl rfl h10 ez9 ?_
    exact c198_29 hG hm
def m199_9 : Nat → Int → Int → Int → Int → zS → Option (Int × zS)
  | 0, _, _, _, _, _ => none
  | n + 1, x1, x2, x3, x4, s => if x4 < x2 then oC (m193 x1 s) fun z2 s3 => if z2 = (0 : Int) then oC (m189 x1 s3) fun z6 s7 => oC (m187 x3 s7) fun z9 s10 => oC (m190 x1 s10) fun z12 s13 => oZ ((3 : Int) * x1) fun z15 => oZ ((19 : Int) + z15) fun z17 => oX z17 36 (oV (s13.1 246 z17) fun z19 => oC (m198 x1 x3 z6 z9 z12 z19 s13) fun z21 s22 => oZ ((3 : Int) * x1) fun z24 => oZ ((10 : Int) + z24) fun z26 => oZ (z26 + (1 : Int)) fun z28 => oZ (z21 + (1 : Int)) fun z30 => oX z28 37 (oV (sI s22 254 z28 z30) fun s32 => oZ ((2 : Int) + x3) fun z34 => oV (s32.1 209 62) fun z36 => oX z34 37 (oV (sI s32 254 z34 z36) fun s37 => oC (m190 x1 s37) fun z39 s40 => if z39 < (999 : Int) then oZ ((3 : Int) * x1) fun z43 => oZ ((10 : Int) + z43) fun z45 => oZ (z45 + (2 : Int)) fun z47 => oX z47 37 (oV (s40.1 254 z47) fun z49 => oZ (z49 + (1 : Int)) fun z51 => oX z47 37 (oV (sI s40 254 z47 z51) fun s53 => oZ (x4 + (1 : Int)) fun z55 => m199_9 n x1 x2 x3 z55 s53)) else oZ (x4 + (1 : Int)) fun z57 => m199_9 n x1 x2 x3 z57 s40))) else some (0, s3) else some (0, s)
theorem c199_9 {G : aHp} {d : Nat} (hG : zG G) : ∀ {n : Nat} {x1 : Int} {x2 : Int} {x3 : Int} {x4 : Int} {d5 : Option zV} {s : zS} {r_ : Int} {s_ : zS}, m199_9 n x1 x2 x3 x4 s = some (r_, s_) → Zp G (d + 6) 199 9 [some (zr 12 0 209), some (zi x1), some (zi x2), some (zi x3), some (zi x4), d5] [] s (zRet none s_) := by
  intro n
  induction n with
  | zero => intro x1 x2 x3 x4 d5 s r_ s_ hm; cases hm
  | succ n ih =>
  intro x1 x2 x3 x4 d5 s r_ s_ hm
  replace hm : (if x4 < x2 then oC (m193 x1 s) fun z2 s3 => if z2 = (0 : Int) then oC (m189 x1 s3) fun z6 s7 => oC (m187 x3 s7) fun z9 s10 => oC (m190 x1 s10) fun z12 s13 => oZ ((3 : Int) * x1) fun z15 => oZ ((19 : Int) + z15) fun z17 => oX z17 36 (oV (s13.1 246 z17) fun z19 => oC (m198 x1 x3 z6 z9 z12 z19 s13) fun z21 s22 => oZ ((3 : Int) * x1) fun z24 => oZ ((10 : Int) + z24) fun z26 => oZ (z26 + (1 : Int)) fun z28 => oZ (z21 + (1 : Int)) fun z30 => oX z28 37 (oV (sI s22 254 z28 z30) fun s32 => oZ ((2 : Int) + x3) fun z34 => oV (s32.1 209 62) fun z36 => oX z34 37 (oV (sI s32 254 z34 z36) fun s37 => oC (m190 x1 s37) fun z39 s40 => if z39 < (999 : Int) then oZ ((3 : Int) * x1) fun z43 => oZ ((10 : Int) + z43) fun z45 => oZ (z45 + (2 : Int)) fun z47 => oX z47 37 (oV (s40.1 254 z47) fun z49 => oZ (z49 + (1 : Int)) fun z51 => oX z47 37 (oV (sI s40 254 z47 z51) fun s53 => oZ (x4 + (1 : Int)) fun z55 => m199_9 n x1 x2 x3 z55 s53)) else oZ (x4 + (1 : Int)) fun z57 => m199_9 n x1 x2 x3 z57 s40))) else some (0, s3) else some (0, s)) = some (r_, s_) := hm
  refine z_iload (pc' := 11) hM199 rfl rfl rfl ?_
  refine z_iload_n (pc' := 12) hM199 rfl rfl rfl ?_
  refine z_cmpge (pc' := 15) (t := 120) hM199 rfl rfl (fun h1 => ?_) (fun h1 => ?_)
  · replace hm := o_t hm h1
    refine z_aload_n (pc' := 16) hM199 rfl rfl rfl ?_
    refine z_iload_n (pc' := 17) hM199 rfl rfl rfl ?_
    obtain ⟨z2, s3, h4, hm⟩ := o_c hm
    refine z_cv (d := d + 5) (pc' := 20) hM199 rfl hM193 rfl rfl rfl rfl rfl rfl (c193 (d := d + 3) hG h4) rfl ?_
    refine z_ifne (pc' := 23) (t := 120) hM199 rfl rfl (fun h5 => ?_) (fun h5 => ?_)
    · replace hm := o_t hm h5
      refine z_aload_n (pc' := 24) hM199 rfl rfl rfl ?_
      refine z_iload_n (pc' := 25) hM199 rfl rfl rfl ?_
      refine z_iload_n (pc' := 26) hM199 rfl rfl rfl ?_
      refine z_aload_n (pc' := 27) hM199 rfl rfl rfl ?_
      refine z_iload_n (pc' := 28) hM199 rfl rfl rfl ?_
      obtain ⟨z6, s7, h8, hm⟩ := o_c hm
      refine z_cv (d := d + 5) (pc' := 31) hM199 rfl hM189 rfl rfl rfl rfl rfl rfl (c189 (d := d + 4) hG h8) rfl ?_
      refine z_aload_n (pc' := 32) hM199 rfl rfl rfl ?_
      refine z_iload_n (pc' := 33) hM199 rfl rfl rfl ?_
      obtain ⟨z9, s10, h11, hm⟩ := o_c hm
      refine z_cv (d := d + 5) (pc' := 36) hM199 rfl hM187 rfl rfl rfl rfl rfl rfl (c187 (d := d + 4) hG h11) rfl ?_
      refine z_aload_n (pc' := 37) hM199 rfl rfl rfl ?_
      refine z_iload_n (pc' := 38) hM199 rfl rfl rfl ?_
      obtain ⟨z12, s13, h14, hm⟩ := o_c hm
      refine z_cv (d := d + 5) (pc' := 41) hM199 rfl hM190 rfl rfl rfl rfl rfl rfl (c190 (d := d + 4) hG h14) rfl ?_
      refine z_aload_n (pc' := 42) hM199 rfl rfl rfl ?_
      refine z_fldR (pc' := 45) hM199 rfl (zf_12_45 hG) rfl rfl ?_
      refine z_bipush (pc' := 47) hM199 rfl rfl rfl ?_
      refine z_iconst (pc' := 48) hM199 rfl rfl rfl ?_
      refine z_iload_n (pc' := 49) hM199 rfl rfl rfl ?_
      obtain ⟨z15, ez15, h16, hm⟩ := o_z hm
      refine z_imul (pc' := 50) hM199 rfl rfl ez15 h16 ?_
      obtain ⟨z17, ez17, h18, hm⟩ := o_z hm
      refine z_iadd (pc' := 51) hM199 rfl rfl ez17 h18 ?_
      obtain ⟨h20, hm⟩ := o_x hm
      obtain ⟨z19, ez19, hm⟩ := o_v hm
      refine z_iald (pc' := 52) (zGN hG) hM199 rfl rfl h20 ez19 ?_
      obtain ⟨z21, s22, h23, hm⟩ := o_c hm
      refine z_cv (d := d + 5) (pc' := 55) hM199 rfl hM198 rfl rfl rfl rfl rfl rfl (c198 (d := d) hG h23) rfl ?_
      refine z_istore (pc' := 57) (l' := [some (zr 12 0 209), some (zi x1), some (zi x2), some (zi x3), some (zi x4), some (zi z21)]) hM199 rfl rfl rfl rfl ?_
      refine z_aload_n (pc' := 58) hM199 rfl rfl rfl ?_
      refine z_fldR (pc' := 61) hM199 rfl (zf_12_56 hG) rfl rfl ?_
      refine z_bipush (pc' := 63) hM199 rfl rfl rfl ?_
      refine z_iconst (pc' := 64) hM199 rfl rfl rfl ?_
      refine z_iload_n (pc' := 65) hM199 rfl rfl rfl ?_
      obtain ⟨z24, ez24, h25, hm⟩ := o_z hm
      refine z_imul (pc' := 66) hM199 rfl rfl ez24 h25 ?_
      obtain ⟨z26, ez26, h27, hm⟩ := o_z hm
      refine z_iadd (pc' := 67) hM199 rfl rfl ez26 h27 ?_
      refine z_iconst (pc' := 68) hM199 rfl rfl rfl ?_
      obtain ⟨z28, ez28, h29, hm⟩ := o_z hm
      refine z_iadd (pc' := 69) hM199 rfl rfl ez28 h29 ?_
      refine z_iload (pc' := 71) hM199 rfl rfl rfl ?_
      refine z_iconst (pc' := 72) hM199 rfl rfl rfl ?_
      obtain ⟨z30, ez30, h31, hm⟩ := o_z hm
      refine z_iadd (pc' := 73) hM199 rfl rfl ez30 h31 ?_
      obtain ⟨h33, hm⟩ := o_x hm
      obtain ⟨s32, es32, hm⟩ := o_v hm
      refine z_iast (pc' := 74) hM199 rfl rfl h33 es32 ?_
      refine z_aload_n (pc' := 75) hM199 rfl rfl rfl ?_
      refine z_fldR (pc' := 78) hM199 rfl (zf_12_56 hG) rfl rfl ?_
      refine z_iconst (pc' := 79) hM199 rfl rfl rfl ?_
      refine z_iload_n (pc' := 80) hM199 rfl rfl rfl ?_
      obtain ⟨z34, ez34, h35, hm⟩ := o_z hm
      refine z_iadd (pc' := 81) hM199 rfl rfl ez34 h35 ?_
      refine z_aload_n (pc' := 82) hM199 rfl rfl rfl ?_
      obtain ⟨z36, ez36, hm⟩ := o_v hm
      refine z_fldI (pc' := 85) hM199 rfl rfl rfl ez36 ?_
      obtain ⟨h38, hm⟩ := o_x hm
      obtain ⟨s37, es37, hm⟩ := o_v hm
      refine z_iast (pc' := 86) hM199 rfl rfl h38 es37 ?_
      refine z_aload_n (pc' := 87) hM199 rfl rfl rfl ?_
      refine z_iload_n (pc' := 88) hM199 rfl rfl rfl ?_
      obtain ⟨z39, s40, h41, hm⟩ := o_c hm
      refine z_cv (d := d + 5) (pc' := 91) hM199 rfl hM190 rfl rfl rfl rfl rfl rfl (c190 (d := d + 4) hG h41) rfl ?_
      refine z_sipush (pc' := 94) hM199 rfl rfl rfl ?_
      refine z_cmpge (pc' := 97) (t := 114) hM199 rfl rfl (fun h42 => ?_) (fun h42 => ?_)
      · replace hm := o_t hm h42
        refine z_aload_n (pc' := 98) hM199 rfl rfl rfl ?_
        refine z_fldR (pc' := 101) hM199 rfl (zf_12_56 hG) rfl rfl ?_
        refine z_bipush (pc' := 103) hM199 rfl rfl rfl ?_
        refine z_iconst (pc' := 104) hM199 rfl rfl rfl ?_
        refine z_iload_n (pc' := 105) hM199 rfl rfl rfl ?_
        obtain ⟨z43, ez43, h44, hm⟩ := o_z hm
        refine z_imul (pc' := 106) hM199 rfl rfl ez43 h44 ?_
        obtain ⟨z45, ez45, h46, hm⟩ := o_z hm
        refine z_iadd (pc' := 107) hM199 rfl rfl ez45 h46 ?_
        refine z_iconst (pc' := 108) hM199 rfl rfl rfl ?_
        obtain ⟨z47, ez47, h48, hm⟩ := o_z hm
        refine z_iadd (pc' := 109) hM199 rfl rfl ez47 h48 ?_
        refine z_dup2A (pc' := 110) hM199 rfl rfl ?_
        obtain ⟨h50, hm⟩ := o_x hm
        obtain ⟨z49, ez49, hm⟩ := o_v hm
        refine z_iald (pc' := 111) (zGN hG) hM199 rfl rfl h50 ez49 ?_
        refine z_iconst (pc' := 112) hM199 rfl rfl rfl ?_
        obtain ⟨z51, ez51, h52, hm⟩ := o_z hm
        refine z_iadd (pc' := 113) hM199 rfl rfl ez51 h52 ?_
        obtain ⟨h54, hm⟩ := o_x hm
        obtain ⟨s53, es53, hm⟩ := o_v hm
        refine z_iast (pc' := 114) hM199 rfl rfl h54 es53 ?_
        obtain ⟨z55, ez55, h56, hm⟩ := o_z hm
        refine z_iinc (pc' := 117) (l' := [some (zr 12 0 209), some (zi x1), some (zi x2), some (zi x3), some (zi z55), some (zi z21)]) hM199 rfl rfl rfl ez55 h56 rfl rfl ?_
        refine z_goto (t := 9) hM199 rfl ?_
        exact ih hm
      · replace hm := o_f hm h42
        obtain ⟨z57, ez57, h58, hm⟩ := o_z hm
        refine z_iinc (pc' := 117) (l' := [some (zr 12 0 209), some (zi x1), some (zi x2), some (zi x3), some (zi z57), some (zi z21)]) hM199 rfl rfl rfl ez57 h58 rfl rfl ?_
        refine z_goto (t := 9) hM199 rfl ?_
        exact ih hm
    · replace hm := o_f hm h5
      cases hm
      exact z_retV hM199 rfl rfl ⟨rfl, rfl⟩
  · replace hm := o_f hm h1
    cases hm
    exact z_retV hM199 rfl rfl ⟨rfl, rfl⟩
def m199 (x1 : Int) (x2 : Int) (s : zS) : Option (Int × zS) := oC (m188 x1 s) fun z1 s2 => m199_9 zFu x1 x2 z1 (0 : Int) s2
theorem c199 {G : aHp} {d : Nat} (hG : zG G) {x1 : Int} {x2 : Int} {s : zS} {r_ : Int} {s_ : zS} (hm : m199 x1 x2 s = some (r_, s_)) : Zp G (d + 6) 199 0 [some (zr 12 0 209), some (zi x1), some (zi x2), none, none, none] [] s (zRet none s_) := by
  replace hm : (oC (m188 x1 s) fun z1 s2 => m199_9 zFu x1 x2 z1 (0 : Int) s2) = some (r_, s_) := hm
  refine z_aload_n (pc' := 1) hM199 rfl rfl rfl ?_
  refine z_iload_n (pc' := 2) hM199 rfl rfl rfl ?_
  obtain ⟨z1, s2, h3, hm⟩ := o_c hm
  refine z_cv (d := d + 5) (pc' := 5) hM199 rfl hM188 rfl rfl rfl rfl rfl rfl (c188 (d := d + 4) hG h3) rfl ?_
  refine z_istore_n (pc' := 6) (l' := [some (zr 12 0 209), some (zi x1), some (zi x2), some (zi z1), none, none]) hM199 rfl rfl rfl rfl ?_
  refine z_iconst (pc' := 7) hM199 rfl rfl rfl ?_
  refine z_istore (pc' := 9) (l' := [some (zr 12 0 209), some (zi x1), some (zi x2), some (zi z1), some (zi (0 : Int)), none]) hM199 rfl rfl rfl rfl ?_
  exact c199_9 hG hm
def m200_4 : Nat → Int → Int → zS → Option (Int × zS)
  | 0, _, _, _ => none
  | n + 1, x1, x2, s => oC (m183 s) fun z1 s2 => if x2 < z1 then oC (m193 x2 s2) fun z5 s6 => if z5 = (0 : Int) then oZ (x2 + (1 : Int)) fun z9 => m200_4 n x1 z9 s6 else oZ (x1 + (1 : Int)) fun z11 => oZ (x2 + (1 : Int)) fun z13 => m200_4 n z11 z13 s6 else some (x1, s2)
theorem c200_4 {G : aHp} {d : Nat} (hG : zG G) : ∀ {n : Nat} {x1 : Int} {x2 : Int} {s : zS} {r_ : Int} {s_ : zS}, m200_4 n x1 x2 s = some (r_, s_) → Zp G (d + 3) 200 4 [some (zr 12 0 209), some (zi x1), some (zi x2)] [] s (zRet (some (zi r_)) s_) := by
  intro n
  induction n with
  | zero => intro x1 x2 s r_ s_ hm; cases hm
  | succ n ih =>
  intro x1 x2 s r_ s_ hm
  replace hm : (oC (m183 s) fun z1 s2 => if x2 < z1 then oC (m193 x2 s2) fun z5 s6 => if z5 = (0 : Int) then oZ (x2 + (1 : Int)) fun z9 => m200_4 n x1 z9 s6 else oZ (x1 + (1 : Int)) fun z11 => oZ (x2 + (1 : Int)) fun z13 => m200_4 n z11 z13 s6 else some (x1, s2)) = some (r_, s_) := hm
  refine z_iload_n (pc' := 5) hM200 rfl rfl rfl ?_
  refine z_aload_n (pc' := 6) hM200 rfl rfl rfl ?_
  obtain ⟨z1, s2, h3, hm⟩ := o_c hm
  refine z_cv (d := d + 2) (pc' := 9) hM200 rfl hM183 rfl rfl rfl rfl rfl rfl (c183 (d := d + 1) hG h3) rfl ?_
  refine z_cmpge (pc' := 12) (t := 29) hM200 rfl rfl (fun h4 => ?_) (fun h4 => ?_)
  · replace hm := o_t hm h4
    refine z_aload_n (pc' := 13) hM200 rfl rfl rfl ?_
    refine z_iload_n (pc' := 14) hM200 rfl rfl rfl ?_
    obtain ⟨z5, s6, h7, hm⟩ := o_c hm
    refine z_cv (d := d + 2) (pc' := 17) hM200 rfl hM193 rfl rfl rfl rfl rfl rfl (c193 (d := d) hG h7) rfl ?_
    refine z_ifeq (pc' := 20) (t := 23) hM200 rfl rfl (fun h8 => ?_) (fun h8 => ?_)
    · replace hm := o_t hm h8
      obtain ⟨z9, ez9, h10, hm⟩ := o_z hm
      refine z_iinc (pc' := 26) (l' := [some (zr 12 0 209), some (zi x1), some (zi z9)]) hM200 rfl rfl rfl ez9 h10 rfl rfl ?_
      refine z_goto (t := 4) hM200 rfl ?_
      exact ih hm
    · replace hm := o_f hm h8
      obtain ⟨z11, ez11, h12, hm⟩ := o_z hm
      refine z_iinc (pc' := 23) (l' := [some (zr 12 0 209), some (zi z11), some (zi x2)]) hM200 rfl rfl rfl ez11 h12 rfl rfl ?_
      obtain ⟨z13, ez13, h14, hm⟩ := o_z hm
      refine z_iinc (pc' := 26) (l' := [some (zr 12 0 209), some (zi z11), some (zi z13)]) hM200 rfl rfl rfl ez13 h14 rfl rfl ?_
      refine z_goto (t := 4) hM200 rfl ?_
      exact ih hm
  · replace hm := o_f hm h4
    refine z_iload_n (pc' := 30) hM200 rfl rfl rfl ?_
    cases hm
    exact z_retI hM200 rfl rfl ⟨rfl, rfl⟩
def m200  (s : zS) : Option (Int × zS) := m200_4 zFu (0 : Int) (0 : Int) s
theorem c200 {G : aHp} {d : Nat} (hG : zG G) {s : zS} {r_ : Int} {s_ : zS} (hm : m200  s = some (r_, s_)) : Zp G (d + 3) 200 0 [some (zr 12 0 209), none, none] [] s (zRet (some (zi r_)) s_) := by
  replace hm : (m200_4 zFu (0 : Int) (0 : Int) s) = some (r_, s_) := hm
  refine z_iconst (pc' := 1) hM200 rfl rfl rfl ?_
  refine z_istore_n (pc' := 2) (l' := [some (zr 12 0 209), some (zi (0 : Int)), none]) hM200 rfl rfl rfl rfl ?_
  refine z_iconst (pc' := 3) hM200 rfl rfl rfl ?_
  refine z_istore_n (pc' := 4) (l' := [some (zr 12 0 209), some (zi (0 : Int)), some (zi (0 : Int))]) hM200 rfl rfl rfl rfl ?_
  exact c200_4 hG hm
def m201_2 : Nat → Int → Int → zS → Option (Int × zS)
  | 0, _, _, _ => none
  | n + 1, x1, x2, s => oC (m183 s) fun z1 s2 => if x2 < z1 then oC (m189 x2 s2) fun z5 s6 => if z5 = (-1 : Int) then oZ (x2 + (1 : Int)) fun z9 => m201_2 n x1 z9 s6 else oV (zShr x1 x2) fun z11 => oV (zAnd z11 (1 : Int)) fun z12 => if z12 = (0 : Int) then oX (4 : Int) 6 (oV (s6.1 248 (4 : Int)) fun z14 => oC (m199 x2 z14 s6) fun z16 s17 => oZ (x2 + (1 : Int)) fun z19 => m201_2 n x1 z19 s17) else oZ (x2 + (1 : Int)) fun z21 => m201_2 n x1 z21 s6 else oX (0 : Int) 37 (oV (s2.1 254 (0 : Int)) fun z23 => oZ (z23 + (1 : Int)) fun z25 => oX (0 : Int) 37 (oV (sI s2 254 (0 : Int) z25) fun s27 => some (0, s27)))
theorem c201_2 {G : aHp} {d : Nat} (hG : zG G) : ∀ {n : Nat} {x1 : Int} {x2 : Int} {s : zS} {r_ : Int} {s_ : zS}, m201_2 n x1 x2 s = some (r_, s_) → Zp G (d + 7) 201 2 [some (zr 12 0 209), some (zi x1), some (zi x2)] [] s (zRet none s_) := by
  intro n
  induction n with
  | zero => intro x1 x2 s r_ s_ hm; cases hm
  | succ n ih =>
  intro x1 x2 s r_ s_ hm
  replace hm : (oC (m183 s) fun z1 s2 => if x2 < z1 then oC (m189 x2 s2) fun z5 s6 => if z5 = (-1 : Int) then oZ (x2 + (1 : Int)) fun z9 => m201_2 n x1 z9 s6 else oV (zShr x1 x2) fun z11 => oV (zAnd z11 (1 : Int)) fun z12 => if z12 = (0 : Int) then oX (4 : Int) 6 (oV (s6.1 248 (4 : Int)) fun z14 => oC (m199 x2 z14 s6) fun z16 s17 => oZ (x2 + (1 : Int)) fun z19 => m201_2 n x1 z19 s17) else oZ (x2 + (1 : Int)) fun z21 => m201_2 n x1 z21 s6 else oX (0 : Int) 37 (oV (s2.1 254 (0 : Int)) fun z23 => oZ (z23 + (1 : Int)) fun z25 => oX (0 : Int) 37 (oV (sI s2 254 (0 : Int) z25) fun s27 => some (0, s27)))) = some (r_, s_) := hm
  refine z_iload_n (pc' := 3) hM201 rfl rfl rfl ?_
  refine z_aload_n (pc' := 4) hM201 rfl rfl rfl ?_
  obtain ⟨z1, s2, h3, hm⟩ := o_c hm
  refine z_cv (d := d + 6) (pc' := 7) hM201 rfl hM183 rfl rfl rfl rfl rfl rfl (c183 (d := d + 5) hG h3) rfl ?_
  refine z_cmpge (pc' := 10) (t := 44) hM201 rfl rfl (fun h4 => ?_) (fun h4 => ?_)
  · replace hm := o_t hm h4
    refine z_aload_n (pc' := 11) hM201 rfl rfl rfl ?_
    refine z_iload_n (pc' := 12) hM201 rfl rfl rfl ?_
    obtain ⟨z5, s6, h7, hm⟩ := o_c hm
    refine z_cv (d := d + 6) (pc' := 15) hM201 rfl hM189 rfl rfl rfl rfl rfl rfl (c189 (d := d + 5) hG h7) rfl ?_
    refine z_iconst (pc' := 16) hM201 rfl rfl rfl ?_
    refine z_cmpeq (pc' := 19) (t := 38) hM201 rfl rfl (fun h8 => ?_) (fun h8 => ?_)
    · replace hm := o_t hm h8
      obtain ⟨z9, ez9, h10, hm⟩ := o_z hm
      refine z_iinc (pc' := 41) (l' := [some (zr 12 0 209), some (zi x1), some (zi z9)]) hM201 rfl rfl rfl ez9 h10 rfl rfl ?_
      refine z_goto (t := 2) hM201 rfl ?_
      exact ih hm
    · replace hm := o_f hm h8
      refine z_iload_n (pc' := 20) hM201 rfl rfl rfl ?_
      refine z_iload_n (pc' := 21) hM201 rfl rfl rfl ?_
      obtain ⟨z11, ez11, hm⟩ := o_v hm
      refine z_ishr (pc' := 22) hM201 rfl rfl ez11 ?_
      refine z_iconst (pc' := 23) hM201 rfl rfl rfl ?_
      obtain ⟨z12, ez12, hm⟩ := o_v hm
      refine z_iand (pc' := 24) hM201 rfl rfl ez12 ?_
      refine z_ifne (pc' := 27) (t := 38) hM201 rfl rfl (fun h13 => ?_) (fun h13 => ?_)
      · replace hm := o_t hm h13
        refine z_aload_n (pc' := 28) hM201 rfl rfl rfl ?_
        refine z_iload_n (pc' := 29) hM201 rfl rfl rfl ?_
        refine z_aload_n (pc' := 30) hM201 rfl rfl rfl ?_
        refine z_fldR (pc' := 33) hM201 rfl (zf_12_47 hG) rfl rfl ?_
        refine z_iconst (pc' := 34) hM201 rfl rfl rfl ?_
        obtain ⟨h15, hm⟩ := o_x hm
        obtain ⟨z14, ez14, hm⟩ := o_v hm
        refine z_iald (pc' := 35) (zGN hG) hM201 rfl rfl h15 ez14 ?_
        obtain ⟨z16, s17, h18, hm⟩ := o_c hm
        refine z_cvV (d := d + 6) (pc' := 38) hM201 rfl hM199 rfl rfl rfl rfl rfl rfl (c199 (d := d) hG h18) rfl ?_
        obtain ⟨z19, ez19, h20, hm⟩ := o_z hm
        refine z_iinc (pc' := 41) (l' := [some (zr 12 0 209), some (zi x1), some (zi z19)]) hM201 rfl rfl rfl ez19 h20 rfl rfl ?_
        refine z_goto (t := 2) hM201 rfl ?_
        exact ih hm
      · replace hm := o_f hm h13
        obtain ⟨z21, ez21, h22, hm⟩ := o_z hm
        refine z_iinc (pc' := 41) (l' := [some (zr 12 0 209), some (zi x1), some (zi z21)]) hM201 rfl rfl rfl ez21 h22 rfl rfl ?_
        refine z_goto (t := 2) hM201 rfl ?_
        exact ih hm
  · replace hm := o_f hm h4
    refine z_aload_n (pc' := 45) hM201 rfl rfl rfl ?_
    refine z_fldR (pc' := 48) hM201 rfl (zf_12_56 hG) rfl rfl ?_
    refine z_iconst (pc' := 49) hM201 rfl rfl rfl ?_
    refine z_dup2A (pc' := 50) hM201 rfl rfl ?_
    obtain ⟨h24, hm⟩ := o_x hm
    obtain ⟨z23, ez23, hm⟩ := o_v hm
    refine z_iald (pc' := 51) (zGN hG) hM201 rfl rfl h24 ez23 ?_
    refine z_iconst (pc' := 52) hM201 rfl rfl rfl ?_
    obtain ⟨z25, ez25, h26, hm⟩ := o_z hm
    refine z_iadd (pc' := 53) hM201 rfl rfl ez25 h26 ?_
    obtain ⟨h28, hm⟩ := o_x hm
    obtain ⟨s27, es27, hm⟩ := o_v hm
    refine z_iast (pc' := 54) hM201 rfl rfl h28 es27 ?_
    cases hm
    exact z_retV hM201 rfl rfl ⟨rfl, rfl⟩
def m201 (x1 : Int) (s : zS) : Option (Int × zS) := m201_2 zFu x1 (0 : Int) s
theorem c201 {G : aHp} {d : Nat} (hG : zG G) {x1 : Int} {s : zS} {r_ : Int} {s_ : zS} (hm : m201 x1 s = some (r_, s_)) : Zp G (d + 7) 201 0 [some (zr 12 0 209), some (zi x1), none] [] s (zRet none s_) := by
  replace hm : (m201_2 zFu x1 (0 : Int) s) = some (r_, s_) := hm
  refine z_iconst (pc' := 1) hM201 rfl rfl rfl ?_
  refine z_istore_n (pc' := 2) (l' := [some (zr 12 0 209), some (zi x1), some (zi (0 : Int))]) hM201 rfl rfl rfl rfl ?_
  exact c201_2 hG hm
def m202_7 : Nat → Int → Int → Int → zS → Option (Int × zS)
  | 0, _, _, _, _ => none
  | n + 1, x1, x2, x3, s => if x3 < x1 then oC (m201 (0 : Int) s) fun z2 s3 => oZ (x3 + (1 : Int)) fun z5 => m202_7 n x1 x2 z5 s3 else oC (m200 s) fun z7 s8 => oZ (z7 - x2) fun z10 => some (z10, s8)
theorem c202_7 {G : aHp} {d : Nat} (hG : zG G) : ∀ {n : Nat} {x1 : Int} {x2 : Int} {x3 : Int} {s : zS} {r_ : Int} {s_ : zS}, m202_7 n x1 x2 x3 s = some (r_, s_) → Zp G (d + 8) 202 7 [some (zr 12 0 209), some (zi x1), some (zi x2), some (zi x3)] [] s (zRet (some (zi r_)) s_) := by
  intro n
  induction n with
  | zero => intro x1 x2 x3 s r_ s_ hm; cases hm
  | succ n ih =>
  intro x1 x2 x3 s r_ s_ hm
  replace hm : (if x3 < x1 then oC (m201 (0 : Int) s) fun z2 s3 => oZ (x3 + (1 : Int)) fun z5 => m202_7 n x1 x2 z5 s3 else oC (m200 s) fun z7 s8 => oZ (z7 - x2) fun z10 => some (z10, s8)) = some (r_, s_) := hm
  refine z_iload_n (pc' := 8) hM202 rfl rfl rfl ?_
  refine z_iload_n (pc' := 9) hM202 rfl rfl rfl ?_
  refine z_cmpge (pc' := 12) (t := 23) hM202 rfl rfl (fun h1 => ?_) (fun h1 => ?_)
  · replace hm := o_t hm h1
    refine z_aload_n (pc' := 13) hM202 rfl rfl rfl ?_
    refine z_iconst (pc' := 14) hM202 rfl rfl rfl ?_
    obtain ⟨z2, s3, h4, hm⟩ := o_c hm
    refine z_cvV (d := d + 7) (pc' := 17) hM202 rfl hM201 rfl rfl rfl rfl rfl rfl (c201 (d := d) hG h4) rfl ?_
    obtain ⟨z5, ez5, h6, hm⟩ := o_z hm
    refine z_iinc (pc' := 20) (l' := [some (zr 12 0 209), some (zi x1), some (zi x2), some (zi z5)]) hM202 rfl rfl rfl ez5 h6 rfl rfl ?_
    refine z_goto (t := 7) hM202 rfl ?_
    exact ih hm
  · replace hm := o_f hm h1
    refine z_aload_n (pc' := 24) hM202 rfl rfl rfl ?_
    obtain ⟨z7, s8, h9, hm⟩ := o_c hm
    refine z_cv (d := d + 7) (pc' := 27) hM202 rfl hM200 rfl rfl rfl rfl rfl rfl (c200 (d := d + 4) hG h9) rfl ?_
    refine z_iload_n (pc' := 28) hM202 rfl rfl rfl ?_
    obtain ⟨z10, ez10, h11, hm⟩ := o_z hm
    refine z_isub (pc' := 29) hM202 rfl rfl ez10 h11 ?_
    cases hm
    exact z_retI hM202 rfl rfl ⟨rfl, rfl⟩
def m202 (x1 : Int) (s : zS) : Option (Int × zS) := oC (m200 s) fun z1 s2 => m202_7 zFu x1 z1 (0 : Int) s2
theorem c202 {G : aHp} {d : Nat} (hG : zG G) {x1 : Int} {s : zS} {r_ : Int} {s_ : zS} (hm : m202 x1 s = some (r_, s_)) : Zp G (d + 8) 202 0 [some (zr 12 0 209), some (zi x1), none, none] [] s (zRet (some (zi r_)) s_) := by
  replace hm : (oC (m200 s) fun z1 s2 => m202_7 zFu x1 z1 (0 : Int) s2) = some (r_, s_) := hm
  refine z_aload_n (pc' := 1) hM202 rfl rfl rfl ?_
  obtain ⟨z1, s2, h3, hm⟩ := o_c hm
  refine z_cv (d := d + 7) (pc' := 4) hM202 rfl hM200 rfl rfl rfl rfl rfl rfl (c200 (d := d + 4) hG h3) rfl ?_
  refine z_istore_n (pc' := 5) (l' := [some (zr 12 0 209), some (zi x1), some (zi z1), none]) hM202 rfl rfl rfl rfl ?_
  refine z_iconst (pc' := 6) hM202 rfl rfl rfl ?_
  refine z_istore_n (pc' := 7) (l' := [some (zr 12 0 209), some (zi x1), some (zi z1), some (zi (0 : Int))]) hM202 rfl rfl rfl rfl ?_
  exact c202_7 hG hm
def m203_2 : Nat → Int → zS → Option (Int × zS)
  | 0, _, _ => none
  | n + 1, x1, s => if x1 < (37 : Int) then oX x1 37 (oV (s.1 254 x1) fun z2 => oX x1 37 (oV (sI s 255 x1 z2) fun s4 => oZ (x1 + (1 : Int)) fun z6 => m203_2 n z6 s4)) else some (0, s)
theorem c203_2 {G : aHp} {d : Nat} (hG : zG G) : ∀ {n : Nat} {x1 : Int} {s : zS} {r_ : Int} {s_ : zS}, m203_2 n x1 s = some (r_, s_) → Zp G (d + 1) 203 2 [some (zr 12 0 209), some (zi x1)] [] s (zRet none s_) := by
  intro n
  induction n with
  | zero => intro x1 s r_ s_ hm; cases hm
  | succ n ih =>
  intro x1 s r_ s_ hm
  replace hm : (if x1 < (37 : Int) then oX x1 37 (oV (s.1 254 x1) fun z2 => oX x1 37 (oV (sI s 255 x1 z2) fun s4 => oZ (x1 + (1 : Int)) fun z6 => m203_2 n z6 s4)) else some (0, s)) = some (r_, s_) := hm
  refine z_iload_n (pc' := 3) hM203 rfl rfl rfl ?_
  refine z_bipush (pc' := 5) hM203 rfl rfl rfl ?_
  refine z_cmpge (pc' := 8) (t := 26) hM203 rfl rfl (fun h1 => ?_) (fun h1 => ?_)
  · replace hm := o_t hm h1
    refine z_aload_n (pc' := 9) hM203 rfl rfl rfl ?_
    refine z_fldR (pc' := 12) hM203 rfl (zf_12_57 hG) rfl rfl ?_
    refine z_iload_n (pc' := 13) hM203 rfl rfl rfl ?_
    refine z_aload_n (pc' := 14) hM203 rfl rfl rfl ?_
    refine z_fldR (pc' := 17) hM203 rfl (zf_12_56 hG) rfl rfl ?_
    refine z_iload_n (pc' := 18) hM203 rfl rfl rfl ?_
    obtain ⟨h3, hm⟩ := o_x hm
    obtain ⟨z2, ez2, hm⟩ := o_v hm
    refine z_iald (pc' := 19) (zGN hG) hM203 rfl rfl h3 ez2 ?_
    obtain ⟨h5, hm⟩ := o_x hm
    obtain ⟨s4, es4, hm⟩ := o_v hm
    refine z_iast (pc' := 20) hM203 rfl rfl h5 es4 ?_
    obtain ⟨z6, ez6, h7, hm⟩ := o_z hm
    refine z_iinc (pc' := 23) (l' := [some (zr 12 0 209), some (zi z6)]) hM203 rfl rfl rfl ez6 h7 rfl rfl ?_
    refine z_goto (t := 2) hM203 rfl ?_
    exact ih hm
  · replace hm := o_f hm h1
    cases hm
    exact z_retV hM203 rfl rfl ⟨rfl, rfl⟩
def m203  (s : zS) : Option (Int × zS) := m203_2 zFu (0 : Int) s
theorem c203 {G : aHp} {d : Nat} (hG : zG G) {s : zS} {r_ : Int} {s_ : zS} (hm : m203  s = some (r_, s_)) : Zp G (d + 1) 203 0 [some (zr 12 0 209), none] [] s (zRet none s_) := by
  replace hm : (m203_2 zFu (0 : Int) s) = some (r_, s_) := hm
  refine z_iconst (pc' := 1) hM203 rfl rfl rfl ?_
  refine z_istore_n (pc' := 2) (l' := [some (zr 12 0 209), some (zi (0 : Int))]) hM203 rfl rfl rfl rfl ?_
  exact c203_2 hG hm
def m204_2 : Nat → Int → zS → Option (Int × zS)
  | 0, _, _ => none
  | n + 1, x1, s => if x1 < (37 : Int) then oX x1 37 (oV (s.1 255 x1) fun z2 => oX x1 37 (oV (sI s 254 x1 z2) fun s4 => oZ (x1 + (1 : Int)) fun z6 => m204_2 n z6 s4)) else some (0, s)
theorem c204_2 {G : aHp} {d : Nat} (hG : zG G) : ∀ {n : Nat} {x1 : Int} {s : zS} {r_ : Int} {s_ : zS}, m204_2 n x1 s = some (r_, s_) → Zp G (d + 1) 204 2 [some (zr 12 0 209), some (zi x1)] [] s (zRet none s_) := by
  intro n
  induction n with
  | zero => intro x1 s r_ s_ hm; cases hm
  | succ n ih =>
  intro x1 s r_ s_ hm
  replace hm : (if x1 < (37 : Int) then oX x1 37 (oV (s.1 255 x1) fun z2 => oX x1 37 (oV (sI s 254 x1 z2) fun s4 => oZ (x1 + (1 : Int)) fun z6 => m204_2 n z6 s4)) else some (0, s)) = some (r_, s_) := hm
  refine z_iload_n (pc' := 3) hM204 rfl rfl rfl ?_
  refine z_bipush (pc' := 5) hM204 rfl rfl rfl ?_
  refine z_cmpge (pc' := 8) (t := 26) hM204 rfl rfl (fun h1 => ?_) (fun h1 => ?_)
  · replace hm := o_t hm h1
    refine z_aload_n (pc' := 9) hM204 rfl rfl rfl ?_
    refine z_fldR (pc' := 12) hM204 rfl (zf_12_56 hG) rfl rfl ?_
    refine z_iload_n (pc' := 13) hM204 rfl rfl rfl ?_
    refine z_aload_n (pc' := 14) hM204 rfl rfl rfl ?_
    refine z_fldR (pc' := 17) hM204 rfl (zf_12_57 hG) rfl rfl ?_
    refine z_iload_n (pc' := 18) hM204 rfl rfl rfl ?_
    obtain ⟨h3, hm⟩ := o_x hm
    obtain ⟨z2, ez2, hm⟩ := o_v hm
    refine z_iald (pc' := 19) (zGN hG) hM204 rfl rfl h3 ez2 ?_
    obtain ⟨h5, hm⟩ := o_x hm
    obtain ⟨s4, es4, hm⟩ := o_v hm
    refine z_iast (pc' := 20) hM204 rfl rfl h5 es4 ?_
    obtain ⟨z6, ez6, h7, hm⟩ := o_z hm
    refine z_iinc (pc' := 23) (l' := [some (zr 12 0 209), some (zi z6)]) hM204 rfl rfl rfl ez6 h7 rfl rfl ?_
    refine z_goto (t := 2) hM204 rfl ?_
    exact ih hm
  · replace hm := o_f hm h1
    cases hm
    exact z_retV hM204 rfl rfl ⟨rfl, rfl⟩
def m204  (s : zS) : Option (Int × zS) := m204_2 zFu (0 : Int) s
theorem c204 {G : aHp} {d : Nat} (hG : zG G) {s : zS} {r_ : Int} {s_ : zS} (hm : m204  s = some (r_, s_)) : Zp G (d + 1) 204 0 [some (zr 12 0 209), none] [] s (zRet none s_) := by
  replace hm : (m204_2 zFu (0 : Int) s) = some (r_, s_) := hm
  refine z_iconst (pc' := 1) hM204 rfl rfl rfl ?_
  refine z_istore_n (pc' := 2) (l' := [some (zr 12 0 209), some (zi (0 : Int))]) hM204 rfl rfl rfl rfl ?_
  exact c204_2 hG hm
def m205 (x1 : Int) (x2 : Int) (x3 : Int) (s : zS) : Option (Int × zS) := oC (m150 x1 x2 x3 s) fun z1 s2 => if z1 = (0 : Int) then some ((0 : Int), s2) else oX (0 : Int) 37 (oV (s2.1 254 (0 : Int)) fun z5 => oZ (z5 + x1) fun z7 => if (999 : Int) < z7 then some ((0 : Int), s2) else some ((1 : Int), s2))
theorem c205 {G : aHp} {d : Nat} (hG : zG G) {x1 : Int} {x2 : Int} {x3 : Int} {s : zS} {r_ : Int} {s_ : zS} (hm : m205 x1 x2 x3 s = some (r_, s_)) : Zp G (d + 2) 205 0 [some (zr 12 0 209), some (zi x1), some (zi x2), some (zi x3)] [] s (zRet (some (zi r_)) s_) := by
  replace hm : (oC (m150 x1 x2 x3 s) fun z1 s2 => if z1 = (0 : Int) then some ((0 : Int), s2) else oX (0 : Int) 37 (oV (s2.1 254 (0 : Int)) fun z5 => oZ (z5 + x1) fun z7 => if (999 : Int) < z7 then some ((0 : Int), s2) else some ((1 : Int), s2))) = some (r_, s_) := hm
  refine z_iload_n (pc' := 1) hM205 rfl rfl rfl ?_
  refine z_i2l (pc' := 2) hM205 rfl rfl ?_
  refine z_iload_n (pc' := 3) hM205 rfl rfl rfl ?_
  refine z_i2l (pc' := 4) hM205 rfl rfl ?_
  refine z_iload_n (pc' := 5) hM205 rfl rfl rfl ?_
  refine z_i2l (pc' := 6) hM205 rfl rfl ?_
  obtain ⟨z1, s2, h3, hm⟩ := o_c hm
  refine z_cs (d := d + 1) (pc' := 9) hM205 rfl hM150 rfl rfl rfl rfl (c150 (d := d) hG h3) rfl ?_
  refine z_ifeq (pc' := 12) (t := 30) hM205 rfl rfl (fun h4 => ?_) (fun h4 => ?_)
  · replace hm := o_t hm h4
    refine z_iconst (pc' := 31) hM205 rfl rfl rfl ?_
    cases hm
    exact z_retZ hM205 rfl rfl (Or.inl rfl) ⟨rfl, rfl⟩
  · replace hm := o_f hm h4
    refine z_aload_n (pc' := 13) hM205 rfl rfl rfl ?_
    refine z_fldR (pc' := 16) hM205 rfl (zf_12_56 hG) rfl rfl ?_
    refine z_iconst (pc' := 17) hM205 rfl rfl rfl ?_
    obtain ⟨h6, hm⟩ := o_x hm
    obtain ⟨z5, ez5, hm⟩ := o_v hm
    refine z_iald (pc' := 18) (zGN hG) hM205 rfl rfl h6 ez5 ?_
    refine z_iload_n (pc' := 19) hM205 rfl rfl rfl ?_
    obtain ⟨z7, ez7, h8, hm⟩ := o_z hm
    refine z_iadd (pc' := 20) hM205 rfl rfl ez7 h8 ?_
    refine z_sipush (pc' := 23) hM205 rfl rfl rfl ?_
    refine z_cmpgt (pc' := 26) (t := 30) hM205 rfl rfl (fun h9 => ?_) (fun h9 => ?_)
    · replace hm := o_t hm h9
      refine z_iconst (pc' := 31) hM205 rfl rfl rfl ?_
      cases hm
      exact z_retZ hM205 rfl rfl (Or.inl rfl) ⟨rfl, rfl⟩
    · replace hm := o_f hm h9
      refine z_iconst (pc' := 27) hM205 rfl rfl rfl ?_
      refine z_goto (t := 31) hM205 rfl ?_
      cases hm
      exact z_retZ hM205 rfl rfl (Or.inr rfl) ⟨rfl, rfl⟩
def m206_4 : Nat → Int → Int → zS → Option (Int × zS)
  | 0, _, _, _ => none
  | n + 1, x1, x2, s => oC (m183 s) fun z1 s2 => if x2 < z1 then oC (m189 x2 s2) fun z5 s6 => if z5 = (-1 : Int) then oZ (x2 + (1 : Int)) fun z9 => m206_4 n x1 z9 s6 else oZ (x1 + (1 : Int)) fun z11 => oZ (x2 + (1 : Int)) fun z13 => m206_4 n z11 z13 s6 else some (x1, s2)
theorem c206_4 {G : aHp} {d : Nat} (hG : zG G) : ∀ {n : Nat} {x1 : Int} {x2 : Int} {s : zS} {r_ : Int} {s_ : zS}, m206_4 n x1 x2 s = some (r_, s_) → Zp G (d + 2) 206 4 [some (zr 12 0 209), some (zi x1), some (zi x2)] [] s (zRet (some (zi r_)) s_) := by
  intro n
  induction n with
  | zero => intro x1 x2 s r_ s_ hm; cases hm
  | succ n ih =>
  intro x1 x2 s r_ s_ hm
  replace hm : (oC (m183 s) fun z1 s2 => if x2 < z1 then oC (m189 x2 s2) fun z5 s6 => if z5 = (-1 : Int) then oZ (x2 + (1 : Int)) fun z9 => m206_4 n x1 z9 s6 else oZ (x1 + (1 : Int)) fun z11 => oZ (x2 + (1 : Int)) fun z13 => m206_4 n z11 z13 s6 else some (x1, s2)) = some (r_, s_) := hm
  refine z_iload_n (pc' := 5) hM206 rfl rfl rfl ?_
  refine z_aload_n (pc' := 6) hM206 rfl rfl rfl ?_
  obtain ⟨z1, s2, h3, hm⟩ := o_c hm
  refine z_cv (d := d + 1) (pc' := 9) hM206 rfl hM183 rfl rfl rfl rfl rfl rfl (c183 (d := d) hG h3) rfl ?_
  refine z_cmpge (pc' := 12) (t := 30) hM206 rfl rfl (fun h4 => ?_) (fun h4 => ?_)
  · replace hm := o_t hm h4
    refine z_aload_n (pc' := 13) hM206 rfl rfl rfl ?_
    refine z_iload_n (pc' := 14) hM206 rfl rfl rfl ?_
    obtain ⟨z5, s6, h7, hm⟩ := o_c hm
    refine z_cv (d := d + 1) (pc' := 17) hM206 rfl hM189 rfl rfl rfl rfl rfl rfl (c189 (d := d) hG h7) rfl ?_
    refine z_iconst (pc' := 18) hM206 rfl rfl rfl ?_
    refine z_cmpeq (pc' := 21) (t := 24) hM206 rfl rfl (fun h8 => ?_) (fun h8 => ?_)
    · replace hm := o_t hm h8
      obtain ⟨z9, ez9, h10, hm⟩ := o_z hm
      refine z_iinc (pc' := 27) (l' := [some (zr 12 0 209), some (zi x1), some (zi z9)]) hM206 rfl rfl rfl ez9 h10 rfl rfl ?_
      refine z_goto (t := 4) hM206 rfl ?_
      exact ih hm
    · replace hm := o_f hm h8
      obtain ⟨z11, ez11, h12, hm⟩ := o_z hm
      refine z_iinc (pc' := 24) (l' := [some (zr 12 0 209), some (zi z11), some (zi x2)]) hM206 rfl rfl rfl ez11 h12 rfl rfl ?_
      obtain ⟨z13, ez13, h14, hm⟩ := o_z hm
      refine z_iinc (pc' := 27) (l' := [some (zr 12 0 209), some (zi z11), some (zi z13)]) hM206 rfl rfl rfl ez13 h14 rfl rfl ?_
      refine z_goto (t := 4) hM206 rfl ?_
      exact ih hm
  · replace hm := o_f hm h4
    refine z_iload_n (pc' := 31) hM206 rfl rfl rfl ?_
    cases hm
    exact z_retI hM206 rfl rfl ⟨rfl, rfl⟩
def m206  (s : zS) : Option (Int × zS) := m206_4 zFu (0 : Int) (0 : Int) s
theorem c206 {G : aHp} {d : Nat} (hG : zG G) {s : zS} {r_ : Int} {s_ : zS} (hm : m206  s = some (r_, s_)) : Zp G (d + 2) 206 0 [some (zr 12 0 209), none, none] [] s (zRet (some (zi r_)) s_) := by
  replace hm : (m206_4 zFu (0 : Int) (0 : Int) s) = some (r_, s_) := hm
  refine z_iconst (pc' := 1) hM206 rfl rfl rfl ?_
  refine z_istore_n (pc' := 2) (l' := [some (zr 12 0 209), some (zi (0 : Int)), none]) hM206 rfl rfl rfl rfl ?_
  refine z_iconst (pc' := 3) hM206 rfl rfl rfl ?_
  refine z_istore_n (pc' := 4) (l' := [some (zr 12 0 209), some (zi (0 : Int)), some (zi (0 : Int))]) hM206 rfl rfl rfl rfl ?_
  exact c206_4 hG hm
def m207 (x1 : Int) (s : zS) : Option (Int × zS) := if x1 = (0 : Int) then oC (m181 s) fun z2 s3 => some (z2, s3) else if x1 = (1 : Int) then oX (7 : Int) 8 (oV (s.1 242 (7 : Int)) fun z6 => some (z6, s)) else if x1 = (2 : Int) then oC (m182 s) fun z9 s10 => some (z9, s10) else if x1 = (3 : Int) then oC (m183 s) fun z13 s14 => some (z13, s14) else if x1 = (4 : Int) then oZ (x1 - (4 : Int)) fun z17 => oX z17 37 (oV (s.1 254 z17) fun z19 => some (z19, s)) else if x1 = (5 : Int) then oZ (x1 - (4 : Int)) fun z22 => oX z22 37 (oV (s.1 254 z22) fun z24 => some (z24, s)) else if x1 = (6 : Int) then oX (28 : Int) 37 (oV (s.1 254 (28 : Int)) fun z27 => some (z27, s)) else if x1 = (7 : Int) then oC (m206 s) fun z30 s31 => some (z30, s31) else if x1 = (8 : Int) then oC (m200 s) fun z34 s35 => some (z34, s35) else if x1 = (9 : Int) then oV (s.1 209 67) fun z38 => some (z38, s) else if x1 = (10 : Int) then oV (s.1 209 74) fun z40 => some (z40, s) else some ((-1 : Int), s)
theorem c207 {G : aHp} {d : Nat} (hG : zG G) {x1 : Int} {s : zS} {r_ : Int} {s_ : zS} (hm : m207 x1 s = some (r_, s_)) : Zp G (d + 4) 207 0 [some (zr 12 0 209), some (zi x1)] [] s (zRet (some (zi r_)) s_) := by
  replace hm : (if x1 = (0 : Int) then oC (m181 s) fun z2 s3 => some (z2, s3) else if x1 = (1 : Int) then oX (7 : Int) 8 (oV (s.1 242 (7 : Int)) fun z6 => some (z6, s)) else if x1 = (2 : Int) then oC (m182 s) fun z9 s10 => some (z9, s10) else if x1 = (3 : Int) then oC (m183 s) fun z13 s14 => some (z13, s14) else if x1 = (4 : Int) then oZ (x1 - (4 : Int)) fun z17 => oX z17 37 (oV (s.1 254 z17) fun z19 => some (z19, s)) else if x1 = (5 : Int) then oZ (x1 - (4 : Int)) fun z22 => oX z22 37 (oV (s.1 254 z22) fun z24 => some (z24, s)) else if x1 = (6 : Int) then oX (28 : Int) 37 (oV (s.1 254 (28 : Int)) fun z27 => some (z27, s)) else if x1 = (7 : Int) then oC (m206 s) fun z30 s31 => some (z30, s31) else if x1 = (8 : Int) then oC (m200 s) fun z34 s35 => some (z34, s35) else if x1 = (9 : Int) then oV (s.1 209 67) fun z38 => some (z38, s) else if x1 = (10 : Int) then oV (s.1 209 74) fun z40 => some (z40, s) else some ((-1 : Int), s)) = some (r_, s_) := hm
  refine z_iload_n (pc' := 1) hM207 rfl rfl rfl ?_
  refine (Decidable.em (x1 = (0 : Int))).elim (fun h1 => ?_) (fun h1 => ?_)
  · replace hm := o_t hm h1
    refine z_swT (t := 60) (c := (0 : Int)) hM207 rfl h1 (by decide) rfl rfl ?_
    refine z_aload_n (pc' := 61) hM207 rfl rfl rfl ?_
    obtain ⟨z2, s3, h4, hm⟩ := o_c hm
    refine z_cv (d := d + 3) (pc' := 64) hM207 rfl hM181 rfl rfl rfl rfl rfl rfl (c181 (d := d + 2) hG h4) rfl ?_
    cases hm
    exact z_retI hM207 rfl rfl ⟨rfl, rfl⟩
  replace hm := o_f hm h1
  refine (Decidable.em (x1 = (1 : Int))).elim (fun h5 => ?_) (fun h5 => ?_)
  · replace hm := o_t hm h5
    refine z_swT (t := 65) (c := (1 : Int)) hM207 rfl h5 (by decide) rfl rfl ?_
    refine z_aload_n (pc' := 66) hM207 rfl rfl rfl ?_
    refine z_fldR (pc' := 69) hM207 rfl (zf_12_41 hG) rfl rfl ?_
    refine z_bipush (pc' := 71) hM207 rfl rfl rfl ?_
    obtain ⟨h7, hm⟩ := o_x hm
    obtain ⟨z6, ez6, hm⟩ := o_v hm
    refine z_iald (pc' := 72) (zGN hG) hM207 rfl rfl h7 ez6 ?_
    cases hm
    exact z_retI hM207 rfl rfl ⟨rfl, rfl⟩
  replace hm := o_f hm h5
  refine (Decidable.em (x1 = (2 : Int))).elim (fun h8 => ?_) (fun h8 => ?_)
  · replace hm := o_t hm h8
    refine z_swT (t := 73) (c := (2 : Int)) hM207 rfl h8 (by decide) rfl rfl ?_
    refine z_aload_n (pc' := 74) hM207 rfl rfl rfl ?_
    obtain ⟨z9, s10, h11, hm⟩ := o_c hm
    refine z_cv (d := d + 3) (pc' := 77) hM207 rfl hM182 rfl rfl rfl rfl rfl rfl (c182 (d := d + 2) hG h11) rfl ?_
    cases hm
    exact z_retI hM207 rfl rfl ⟨rfl, rfl⟩
  replace hm := o_f hm h8
  refine (Decidable.em (x1 = (3 : Int))).elim (fun h12 => ?_) (fun h12 => ?_)
  · replace hm := o_t hm h12
    refine z_swT (t := 78) (c := (3 : Int)) hM207 rfl h12 (by decide) rfl rfl ?_
    refine z_aload_n (pc' := 79) hM207 rfl rfl rfl ?_
    obtain ⟨z13, s14, h15, hm⟩ := o_c hm
    refine z_cv (d := d + 3) (pc' := 82) hM207 rfl hM183 rfl rfl rfl rfl rfl rfl (c183 (d := d + 2) hG h15) rfl ?_
    cases hm
    exact z_retI hM207 rfl rfl ⟨rfl, rfl⟩
  replace hm := o_f hm h12
  refine (Decidable.em (x1 = (4 : Int))).elim (fun h16 => ?_) (fun h16 => ?_)
  · replace hm := o_t hm h16
    refine z_swT (t := 83) (c := (4 : Int)) hM207 rfl h16 (by decide) rfl rfl ?_
    refine z_aload_n (pc' := 84) hM207 rfl rfl rfl ?_
    refine z_fldR (pc' := 87) hM207 rfl (zf_12_56 hG) rfl rfl ?_
    refine z_iload_n (pc' := 88) hM207 rfl rfl rfl ?_
    refine z_iconst (pc' := 89) hM207 rfl rfl rfl ?_
    obtain ⟨z17, ez17, h18, hm⟩ := o_z hm
    refine z_isub (pc' := 90) hM207 rfl rfl ez17 h18 ?_
    obtain ⟨h20, hm⟩ := o_x hm
    obtain ⟨z19, ez19, hm⟩ := o_v hm
    refine z_iald (pc' := 91) (zGN hG) hM207 rfl rfl h20 ez19 ?_
    cases hm
    exact z_retI hM207 rfl rfl ⟨rfl, rfl⟩
  replace hm := o_f hm h16
  refine (Decidable.em (x1 = (5 : Int))).elim (fun h21 => ?_) (fun h21 => ?_)
  · replace hm := o_t hm h21
    refine z_swT (t := 83) (c := (5 : Int)) hM207 rfl h21 (by decide) rfl rfl ?_
    refine z_aload_n (pc' := 84) hM207 rfl rfl rfl ?_
    refine z_fldR (pc' := 87) hM207 rfl (zf_12_56 hG) rfl rfl ?_
    refine z_iload_n (pc' := 88) hM207 rfl rfl rfl ?_
    refine z_iconst (pc' := 89) hM207 rfl rfl rfl ?_
    obtain ⟨z22, ez22, h23, hm⟩ := o_z hm
    refine z_isub (pc' := 90) hM207 rfl rfl ez22 h23 ?_
    obtain ⟨h25, hm⟩ := o_x hm
    obtain ⟨z24, ez24, hm⟩ := o_v hm
    refine z_iald (pc' := 91) (zGN hG) hM207 rfl rfl h25 ez24 ?_
    cases hm
    exact z_retI hM207 rfl rfl ⟨rfl, rfl⟩
  replace hm := o_f hm h21
  refine (Decidable.em (x1 = (6 : Int))).elim (fun h26 => ?_) (fun h26 => ?_)
  · replace hm := o_t hm h26
    refine z_swT (t := 92) (c := (6 : Int)) hM207 rfl h26 (by decide) rfl rfl ?_
    refine z_aload_n (pc' := 93) hM207 rfl rfl rfl ?_
    refine z_fldR (pc' := 96) hM207 rfl (zf_12_56 hG) rfl rfl ?_
    refine z_bipush (pc' := 98) hM207 rfl rfl rfl ?_
    obtain ⟨h28, hm⟩ := o_x hm
    obtain ⟨z27, ez27, hm⟩ := o_v hm
    refine z_iald (pc' := 99) (zGN hG) hM207 rfl rfl h28 ez27 ?_
    cases hm
    exact z_retI hM207 rfl rfl ⟨rfl, rfl⟩
  replace hm := o_f hm h26
  refine (Decidable.em (x1 = (7 : Int))).elim (fun h29 => ?_) (fun h29 => ?_)
  · replace hm := o_t hm h29
    refine z_swT (t := 100) (c := (7 : Int)) hM207 rfl h29 (by decide) rfl rfl ?_
    refine z_aload_n (pc' := 101) hM207 rfl rfl rfl ?_
    obtain ⟨z30, s31, h32, hm⟩ := o_c hm
    refine z_cv (d := d + 3) (pc' := 104) hM207 rfl hM206 rfl rfl rfl rfl rfl rfl (c206 (d := d + 1) hG h32) rfl ?_
    cases hm
    exact z_retI hM207 rfl rfl ⟨rfl, rfl⟩
  replace hm := o_f hm h29
  refine (Decidable.em (x1 = (8 : Int))).elim (fun h33 => ?_) (fun h33 => ?_)
  · replace hm := o_t hm h33
    refine z_swT (t := 105) (c := (8 : Int)) hM207 rfl h33 (by decide) rfl rfl ?_
    refine z_aload_n (pc' := 106) hM207 rfl rfl rfl ?_
    obtain ⟨z34, s35, h36, hm⟩ := o_c hm
    refine z_cv (d := d + 3) (pc' := 109) hM207 rfl hM200 rfl rfl rfl rfl rfl rfl (c200 (d := d) hG h36) rfl ?_
    cases hm
    exact z_retI hM207 rfl rfl ⟨rfl, rfl⟩
  replace hm := o_f hm h33
  refine (Decidable.em (x1 = (9 : Int))).elim (fun h37 => ?_) (fun h37 => ?_)
  · replace hm := o_t hm h37
    refine z_swT (t := 110) (c := (9 : Int)) hM207 rfl h37 (by decide) rfl rfl ?_
    refine z_aload_n (pc' := 111) hM207 rfl rfl rfl ?_
    obtain ⟨z38, ez38, hm⟩ := o_v hm
    refine z_fldI (pc' := 114) hM207 rfl rfl rfl ez38 ?_
    cases hm
    exact z_retI hM207 rfl rfl ⟨rfl, rfl⟩
  replace hm := o_f hm h37
  refine (Decidable.em (x1 = (10 : Int))).elim (fun h39 => ?_) (fun h39 => ?_)
  · replace hm := o_t hm h39
    refine z_swT (t := 115) (c := (10 : Int)) hM207 rfl h39 (by decide) rfl rfl ?_
    refine z_aload_n (pc' := 116) hM207 rfl rfl rfl ?_
    obtain ⟨z40, ez40, hm⟩ := o_v hm
    refine z_fldI (pc' := 119) hM207 rfl rfl rfl ez40 ?_
    cases hm
    exact z_retI hM207 rfl rfl ⟨rfl, rfl⟩
  replace hm := o_f hm h39
  refine z_swF (t := 120) hM207 rfl (by omega) rfl ?_
  refine z_iconst (pc' := 121) hM207 rfl rfl rfl ?_
  cases hm
  exact z_retI hM207 rfl rfl ⟨rfl, rfl⟩
