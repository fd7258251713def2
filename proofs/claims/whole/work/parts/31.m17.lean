/-! ===== methods (by gen_mir.py) ===== -/
def m284_216 : Nat → Int → zS → Option (Int × zS)
  | 0, _, _ => none
  | n + 1, x3, s => oC (m182 s) fun z1 s2 => if x3 < z1 then oC (m281 x3 s2) fun z5 s6 => oC (m195 z5 s6) fun z8 s9 => oZ (x3 + (1 : Int)) fun z11 => m284_216 n z11 s9 else oV (sI s2 209 74 (0 : Int)) fun s13 => some ((1 : Int), s13)
set_option maxRecDepth 20000 in
theorem c284_216 {G : aHp} {d : Nat} (hG : zG G) : ∀ {n : Nat} {x3 : Int} {d1 d2 d4 : Option zV} {s : zS} {r_ : Int} {s_ : zS}, m284_216 n x3 s = some (r_, s_) → Zp G (d + 5) 284 216 [some (zr 12 0 209), d1, d2, some (zi x3), d4] [] s (zRet (some (zi r_)) s_) := by
  intro n
  induction n with
  | zero => intro x3 d1 d2 d4 s r_ s_ hm; cases hm
  | succ n ih =>
  intro x3 d1 d2 d4 s r_ s_ hm
  replace hm : (oC (m182 s) fun z1 s2 => if x3 < z1 then oC (m281 x3 s2) fun z5 s6 => oC (m195 z5 s6) fun z8 s9 => oZ (x3 + (1 : Int)) fun z11 => m284_216 n z11 s9 else oV (sI s2 209 74 (0 : Int)) fun s13 => some ((1 : Int), s13)) = some (r_, s_) := hm
  refine z_iload_n (pc' := 217) hM284 rfl rfl rfl ?_
  refine z_aload_n (pc' := 218) hM284 rfl rfl rfl ?_
  obtain ⟨z1, s2, h3, hm⟩ := o_c hm
  refine z_cv (d := d + 4) (pc' := 221) hM284 rfl hM182 rfl rfl rfl rfl rfl rfl (c182 (d := d + 3) hG h3) rfl ?_
  refine z_cmpge (pc' := 224) (t := 239) hM284 rfl rfl (fun h4 => ?_) (fun h4 => ?_)
  · replace hm := o_t hm h4
    refine z_aload_n (pc' := 225) hM284 rfl rfl rfl ?_
    refine z_aload_n (pc' := 226) hM284 rfl rfl rfl ?_
    refine z_iload_n (pc' := 227) hM284 rfl rfl rfl ?_
    obtain ⟨z5, s6, h7, hm⟩ := o_c hm
    refine z_cv (d := d + 4) (pc' := 230) hM284 rfl hM281 rfl rfl rfl rfl rfl rfl (c281 (d := d + 2) hG h7) rfl ?_
    obtain ⟨z8, s9, h10, hm⟩ := o_c hm
    refine z_cvV (d := d + 4) (pc' := 233) hM284 rfl hM195 rfl rfl rfl rfl rfl rfl (c195 (d := d + 3) hG h10) rfl ?_
    obtain ⟨z11, ez11, h12, hm⟩ := o_z hm
    refine z_iinc (pc' := 236) (l' := [some (zr 12 0 209), d1, zKd d2, some (zi z11), d4]) hM284 rfl rfl rfl ez11 h12 rfl rfl ?_
    refine z_goto (t := 216) hM284 rfl ?_
    exact ih hm
  · replace hm := o_f hm h4
    refine z_aload_n (pc' := 240) hM284 rfl rfl rfl ?_
    refine z_iconst (pc' := 241) hM284 rfl rfl rfl ?_
    obtain ⟨s13, es13, hm⟩ := o_v hm
    refine z_putI (pc' := 244) hM284 rfl rfl rfl es13 ?_
    refine z_iconst (pc' := 245) hM284 rfl rfl rfl ?_
    cases hm
    exact z_retZ hM284 rfl rfl (Or.inr rfl) ⟨rfl, rfl⟩
def m284_106 : Nat → Int → Int → zS → Option (Int × zS)
  | 0, _, _, _ => none
  | n + 1, x2, x3, s => oC (m183 s) fun z1 s2 => if x3 < z1 then oZ ((4 : Int) * x3) fun z5 => oZ (x2 + z5) fun z7 => oZ ((3 : Int) * x3) fun z9 => oZ ((10 : Int) + z9) fun z11 => oX z7 1600 (oV (s2.1 210 z7) fun z13 => oX z11 37 (oV (sI s2 254 z11 z13) fun s15 => oZ ((3 : Int) * x3) fun z17 => oZ ((10 : Int) + z17) fun z19 => oZ (z19 + (1 : Int)) fun z21 => oZ (z7 + (1 : Int)) fun z23 => oX z23 1600 (oV (s15.1 210 z23) fun z25 => oX z21 37 (oV (sI s15 254 z21 z25) fun s27 => oZ ((3 : Int) * x3) fun z29 => oZ ((10 : Int) + z29) fun z31 => oZ (z31 + (2 : Int)) fun z33 => oZ (z7 + (2 : Int)) fun z35 => oX z35 1600 (oV (s27.1 210 z35) fun z37 => oZ ((256 : Int) * z37) fun z39 => oZ (z7 + (3 : Int)) fun z41 => oX z41 1600 (oV (s27.1 210 z41) fun z43 => oZ (z39 + z43) fun z45 => oX z33 37 (oV (sI s27 254 z33 z45) fun s47 => oZ (x3 + (1 : Int)) fun z49 => m284_106 n x2 z49 s47))))))) else oX (28 : Int) 37 (oV (sI s2 254 (28 : Int) (0 : Int)) fun s51 => oC (m183 s51) fun z53 s54 => m284_216 zFu z53 s54)
set_option maxRecDepth 20000 in
theorem c284_106 {G : aHp} {d : Nat} (hG : zG G) : ∀ {n : Nat} {x2 : Int} {x3 : Int} {d1 d4 : Option zV} {s : zS} {r_ : Int} {s_ : zS}, m284_106 n x2 x3 s = some (r_, s_) → Zp G (d + 5) 284 106 [some (zr 12 0 209), d1, some (zi x2), some (zi x3), d4] [] s (zRet (some (zi r_)) s_) := by
  intro n
  induction n with
  | zero => intro x2 x3 d1 d4 s r_ s_ hm; cases hm
  | succ n ih =>
  intro x2 x3 d1 d4 s r_ s_ hm
  replace hm : (oC (m183 s) fun z1 s2 => if x3 < z1 then oZ ((4 : Int) * x3) fun z5 => oZ (x2 + z5) fun z7 => oZ ((3 : Int) * x3) fun z9 => oZ ((10 : Int) + z9) fun z11 => oX z7 1600 (oV (s2.1 210 z7) fun z13 => oX z11 37 (oV (sI s2 254 z11 z13) fun s15 => oZ ((3 : Int) * x3) fun z17 => oZ ((10 : Int) + z17) fun z19 => oZ (z19 + (1 : Int)) fun z21 => oZ (z7 + (1 : Int)) fun z23 => oX z23 1600 (oV (s15.1 210 z23) fun z25 => oX z21 37 (oV (sI s15 254 z21 z25) fun s27 => oZ ((3 : Int) * x3) fun z29 => oZ ((10 : Int) + z29) fun z31 => oZ (z31 + (2 : Int)) fun z33 => oZ (z7 + (2 : Int)) fun z35 => oX z35 1600 (oV (s27.1 210 z35) fun z37 => oZ ((256 : Int) * z37) fun z39 => oZ (z7 + (3 : Int)) fun z41 => oX z41 1600 (oV (s27.1 210 z41) fun z43 => oZ (z39 + z43) fun z45 => oX z33 37 (oV (sI s27 254 z33 z45) fun s47 => oZ (x3 + (1 : Int)) fun z49 => m284_106 n x2 z49 s47))))))) else oX (28 : Int) 37 (oV (sI s2 254 (28 : Int) (0 : Int)) fun s51 => oC (m183 s51) fun z53 s54 => m284_216 zFu z53 s54)) = some (r_, s_) := hm
  refine z_iload_n (pc' := 107) hM284 rfl rfl rfl ?_
  refine z_aload_n (pc' := 108) hM284 rfl rfl rfl ?_
  obtain ⟨z1, s2, h3, hm⟩ := o_c hm
  refine z_cv (d := d + 4) (pc' := 111) hM284 rfl hM183 rfl rfl rfl rfl rfl rfl (c183 (d := d + 3) hG h3) rfl ?_
  refine z_cmpge (pc' := 114) (t := 203) hM284 rfl rfl (fun h4 => ?_) (fun h4 => ?_)
  · replace hm := o_t hm h4
    refine z_iload_n (pc' := 115) hM284 rfl rfl rfl ?_
    refine z_iconst (pc' := 116) hM284 rfl rfl rfl ?_
    refine z_iload_n (pc' := 117) hM284 rfl rfl rfl ?_
    obtain ⟨z5, ez5, h6, hm⟩ := o_z hm
    refine z_imul (pc' := 118) hM284 rfl rfl ez5 h6 ?_
    obtain ⟨z7, ez7, h8, hm⟩ := o_z hm
    refine z_iadd (pc' := 119) hM284 rfl rfl ez7 h8 ?_
    refine z_istore (pc' := 121) (l' := [some (zr 12 0 209), d1, some (zi x2), some (zi x3), some (zi z7)]) hM284 rfl rfl rfl rfl ?_
    refine z_aload_n (pc' := 122) hM284 rfl rfl rfl ?_
    refine z_fldR (pc' := 125) hM284 rfl (zf_12_56 hG) rfl rfl ?_
    refine z_bipush (pc' := 127) hM284 rfl rfl rfl ?_
    refine z_iconst (pc' := 128) hM284 rfl rfl rfl ?_
    refine z_iload_n (pc' := 129) hM284 rfl rfl rfl ?_
    obtain ⟨z9, ez9, h10, hm⟩ := o_z hm
    refine z_imul (pc' := 130) hM284 rfl rfl ez9 h10 ?_
    obtain ⟨z11, ez11, h12, hm⟩ := o_z hm
    refine z_iadd (pc' := 131) hM284 rfl rfl ez11 h12 ?_
    refine z_aload_n (pc' := 132) hM284 rfl rfl rfl ?_
    refine z_fldR (pc' := 135) hM284 rfl (zf_12_0 hG) rfl rfl ?_
    refine z_iload (pc' := 137) hM284 rfl rfl rfl ?_
    obtain ⟨h14, hm⟩ := o_x hm
    obtain ⟨z13, ez13, hm⟩ := o_v hm
    refine z_iald (pc' := 138) (zGN hG) hM284 rfl rfl h14 ez13 ?_
    obtain ⟨h16, hm⟩ := o_x hm
    obtain ⟨s15, es15, hm⟩ := o_v hm
    refine z_iast (pc' := 139) hM284 rfl rfl h16 es15 ?_
    refine z_aload_n (pc' := 140) hM284 rfl rfl rfl ?_
    refine z_fldR (pc' := 143) hM284 rfl (zf_12_56 hG) rfl rfl ?_
    refine z_bipush (pc' := 145) hM284 rfl rfl rfl ?_
    refine z_iconst (pc' := 146) hM284 rfl rfl rfl ?_
    refine z_iload_n (pc' := 147) hM284 rfl rfl rfl ?_
    obtain ⟨z17, ez17, h18, hm⟩ := o_z hm
    refine z_imul (pc' := 148) hM284 rfl rfl ez17 h18 ?_
    obtain ⟨z19, ez19, h20, hm⟩ := o_z hm
    refine z_iadd (pc' := 149) hM284 rfl rfl ez19 h20 ?_
    refine z_iconst (pc' := 150) hM284 rfl rfl rfl ?_
    obtain ⟨z21, ez21, h22, hm⟩ := o_z hm
    refine z_iadd (pc' := 151) hM284 rfl rfl ez21 h22 ?_
    refine z_aload_n (pc' := 152) hM284 rfl rfl rfl ?_
    refine z_fldR (pc' := 155) hM284 rfl (zf_12_0 hG) rfl rfl ?_
    refine z_iload (pc' := 157) hM284 rfl rfl rfl ?_
    refine z_iconst (pc' := 158) hM284 rfl rfl rfl ?_
    obtain ⟨z23, ez23, h24, hm⟩ := o_z hm
    refine z_iadd (pc' := 159) hM284 rfl rfl ez23 h24 ?_
    obtain ⟨h26, hm⟩ := o_x hm
    obtain ⟨z25, ez25, hm⟩ := o_v hm
    refine z_iald (pc' := 160) (zGN hG) hM284 rfl rfl h26 ez25 ?_
    obtain ⟨h28, hm⟩ := o_x hm
    obtain ⟨s27, es27, hm⟩ := o_v hm
    refine z_iast (pc' := 161) hM284 rfl rfl h28 es27 ?_
    refine z_aload_n (pc' := 162) hM284 rfl rfl rfl ?_
    refine z_fldR (pc' := 165) hM284 rfl (zf_12_56 hG) rfl rfl ?_
    refine z_bipush (pc' := 167) hM284 rfl rfl rfl ?_
    refine z_iconst (pc' := 168) hM284 rfl rfl rfl ?_
    refine z_iload_n (pc' := 169) hM284 rfl rfl rfl ?_
    obtain ⟨z29, ez29, h30, hm⟩ := o_z hm
    refine z_imul (pc' := 170) hM284 rfl rfl ez29 h30 ?_
    obtain ⟨z31, ez31, h32, hm⟩ := o_z hm
    refine z_iadd (pc' := 171) hM284 rfl rfl ez31 h32 ?_
    refine z_iconst (pc' := 172) hM284 rfl rfl rfl ?_
    obtain ⟨z33, ez33, h34, hm⟩ := o_z hm
    refine z_iadd (pc' := 173) hM284 rfl rfl ez33 h34 ?_
    refine z_sipush (pc' := 176) hM284 rfl rfl rfl ?_
    refine z_aload_n (pc' := 177) hM284 rfl rfl rfl ?_
    refine z_fldR (pc' := 180) hM284 rfl (zf_12_0 hG) rfl rfl ?_
    refine z_iload (pc' := 182) hM284 rfl rfl rfl ?_
    refine z_iconst (pc' := 183) hM284 rfl rfl rfl ?_
    obtain ⟨z35, ez35, h36, hm⟩ := o_z hm
    refine z_iadd (pc' := 184) hM284 rfl rfl ez35 h36 ?_
    obtain ⟨h38, hm⟩ := o_x hm
    obtain ⟨z37, ez37, hm⟩ := o_v hm
    refine z_iald (pc' := 185) (zGN hG) hM284 rfl rfl h38 ez37 ?_
    obtain ⟨z39, ez39, h40, hm⟩ := o_z hm
    refine z_imul (pc' := 186) hM284 rfl rfl ez39 h40 ?_
    refine z_aload_n (pc' := 187) hM284 rfl rfl rfl ?_
    refine z_fldR (pc' := 190) hM284 rfl (zf_12_0 hG) rfl rfl ?_
    refine z_iload (pc' := 192) hM284 rfl rfl rfl ?_
    refine z_iconst (pc' := 193) hM284 rfl rfl rfl ?_
    obtain ⟨z41, ez41, h42, hm⟩ := o_z hm
    refine z_iadd (pc' := 194) hM284 rfl rfl ez41 h42 ?_
    obtain ⟨h44, hm⟩ := o_x hm
    obtain ⟨z43, ez43, hm⟩ := o_v hm
    refine z_iald (pc' := 195) (zGN hG) hM284 rfl rfl h44 ez43 ?_
    obtain ⟨z45, ez45, h46, hm⟩ := o_z hm
    refine z_iadd (pc' := 196) hM284 rfl rfl ez45 h46 ?_
    obtain ⟨h48, hm⟩ := o_x hm
    obtain ⟨s47, es47, hm⟩ := o_v hm
    refine z_iast (pc' := 197) hM284 rfl rfl h48 es47 ?_
    obtain ⟨z49, ez49, h50, hm⟩ := o_z hm
    refine z_iinc (pc' := 200) (l' := [some (zr 12 0 209), d1, some (zi x2), some (zi z49), some (zi z7)]) hM284 rfl rfl rfl ez49 h50 rfl rfl ?_
    refine z_goto (t := 106) hM284 rfl ?_
    exact ih hm
  · replace hm := o_f hm h4
    refine z_aload_n (pc' := 204) hM284 rfl rfl rfl ?_
    refine z_fldR (pc' := 207) hM284 rfl (zf_12_56 hG) rfl rfl ?_
    refine z_bipush (pc' := 209) hM284 rfl rfl rfl ?_
    refine z_iconst (pc' := 210) hM284 rfl rfl rfl ?_
    obtain ⟨h52, hm⟩ := o_x hm
    obtain ⟨s51, es51, hm⟩ := o_v hm
    refine z_iast (pc' := 211) hM284 rfl rfl h52 es51 ?_
    refine z_aload_n (pc' := 212) hM284 rfl rfl rfl ?_
    obtain ⟨z53, s54, h55, hm⟩ := o_c hm
    refine z_cv (d := d + 4) (pc' := 215) hM284 rfl hM183 rfl rfl rfl rfl rfl rfl (c183 (d := d + 3) hG h55) rfl ?_
    refine z_istore_n (pc' := 216) (l' := [some (zr 12 0 209), d1, some (zi x2), some (zi z53), d4]) hM284 rfl rfl rfl rfl ?_
    exact c284_216 hG hm
def m284_74 : Nat → Int → Int → zS → Option (Int × zS)
  | 0, _, _, _ => none
  | n + 1, x2, x3, s => oC (m182 s) fun z1 s2 => if x3 < z1 then oZ ((2 : Int) + x3) fun z5 => oZ ((3 : Int) + x3) fun z7 => oX z7 1600 (oV (s2.1 210 z7) fun z9 => oX z5 37 (oV (sI s2 254 z5 z9) fun s11 => oZ (x3 + (1 : Int)) fun z13 => m284_74 n x2 z13 s11)) else m284_106 zFu x2 (0 : Int) s2
set_option maxRecDepth 20000 in
theorem c284_74 {G : aHp} {d : Nat} (hG : zG G) : ∀ {n : Nat} {x2 : Int} {x3 : Int} {d1 d4 : Option zV} {s : zS} {r_ : Int} {s_ : zS}, m284_74 n x2 x3 s = some (r_, s_) → Zp G (d + 5) 284 74 [some (zr 12 0 209), d1, some (zi x2), some (zi x3), d4] [] s (zRet (some (zi r_)) s_) := by
  intro n
  induction n with
  | zero => intro x2 x3 d1 d4 s r_ s_ hm; cases hm
  | succ n ih =>
  intro x2 x3 d1 d4 s r_ s_ hm
  replace hm : (oC (m182 s) fun z1 s2 => if x3 < z1 then oZ ((2 : Int) + x3) fun z5 => oZ ((3 : Int) + x3) fun z7 => oX z7 1600 (oV (s2.1 210 z7) fun z9 => oX z5 37 (oV (sI s2 254 z5 z9) fun s11 => oZ (x3 + (1 : Int)) fun z13 => m284_74 n x2 z13 s11)) else m284_106 zFu x2 (0 : Int) s2) = some (r_, s_) := hm
  refine z_iload_n (pc' := 75) hM284 rfl rfl rfl ?_
  refine z_aload_n (pc' := 76) hM284 rfl rfl rfl ?_
  obtain ⟨z1, s2, h3, hm⟩ := o_c hm
  refine z_cv (d := d + 4) (pc' := 79) hM284 rfl hM182 rfl rfl rfl rfl rfl rfl (c182 (d := d + 3) hG h3) rfl ?_
  refine z_cmpge (pc' := 82) (t := 104) hM284 rfl rfl (fun h4 => ?_) (fun h4 => ?_)
  · replace hm := o_t hm h4
    refine z_aload_n (pc' := 83) hM284 rfl rfl rfl ?_
    refine z_fldR (pc' := 86) hM284 rfl (zf_12_56 hG) rfl rfl ?_
    refine z_iconst (pc' := 87) hM284 rfl rfl rfl ?_
    refine z_iload_n (pc' := 88) hM284 rfl rfl rfl ?_
    obtain ⟨z5, ez5, h6, hm⟩ := o_z hm
    refine z_iadd (pc' := 89) hM284 rfl rfl ez5 h6 ?_
    refine z_aload_n (pc' := 90) hM284 rfl rfl rfl ?_
    refine z_fldR (pc' := 93) hM284 rfl (zf_12_0 hG) rfl rfl ?_
    refine z_iconst (pc' := 94) hM284 rfl rfl rfl ?_
    refine z_iload_n (pc' := 95) hM284 rfl rfl rfl ?_
    obtain ⟨z7, ez7, h8, hm⟩ := o_z hm
    refine z_iadd (pc' := 96) hM284 rfl rfl ez7 h8 ?_
    obtain ⟨h10, hm⟩ := o_x hm
    obtain ⟨z9, ez9, hm⟩ := o_v hm
    refine z_iald (pc' := 97) (zGN hG) hM284 rfl rfl h10 ez9 ?_
    obtain ⟨h12, hm⟩ := o_x hm
    obtain ⟨s11, es11, hm⟩ := o_v hm
    refine z_iast (pc' := 98) hM284 rfl rfl h12 es11 ?_
    obtain ⟨z13, ez13, h14, hm⟩ := o_z hm
    refine z_iinc (pc' := 101) (l' := [some (zr 12 0 209), d1, some (zi x2), some (zi z13), d4]) hM284 rfl rfl rfl ez13 h14 rfl rfl ?_
    refine z_goto (t := 74) hM284 rfl ?_
    exact ih hm
  · replace hm := o_f hm h4
    refine z_iconst (pc' := 105) hM284 rfl rfl rfl ?_
    refine z_istore_n (pc' := 106) (l' := [some (zr 12 0 209), d1, some (zi x2), some (zi (0 : Int)), d4]) hM284 rfl rfl rfl rfl ?_
    exact c284_106 hG hm
def m284  (s : zS) : Option (Int × zS) := oV (s.1 209 1) fun z1 => oV (sI s 209 1 (0 : Int)) fun s2 => oC (m283 z1 s2) fun z3 s4 => if z3 = (0 : Int) then oX (5 : Int) 6 (oV (s4.1 211 (5 : Int)) fun z7 => oZ (z7 + (1 : Int)) fun z9 => oX (5 : Int) 6 (oV (sI s4 211 (5 : Int) z9) fun s11 => some ((0 : Int), s11))) else oC (m182 s4) fun z13 s14 => oZ ((3 : Int) + z13) fun z16 => oX (0 : Int) 1600 (oV (s14.1 210 (0 : Int)) fun z18 => oZ ((256 : Int) * z18) fun z20 => oX (1 : Int) 1600 (oV (s14.1 210 (1 : Int)) fun z22 => oZ (z20 + z22) fun z24 => oX (0 : Int) 37 (oV (sI s14 254 (0 : Int) z24) fun s26 => oX (2 : Int) 1600 (oV (s26.1 210 (2 : Int)) fun z28 => oX (1 : Int) 37 (oV (sI s26 254 (1 : Int) z28) fun s30 => m284_74 zFu z16 (0 : Int) s30)))))
set_option maxRecDepth 20000 in
theorem c284 {G : aHp} {d : Nat} (hG : zG G) {s : zS} {r_ : Int} {s_ : zS} (hm : m284  s = some (r_, s_)) : Zp G (d + 5) 284 0 [some (zr 12 0 209), none, none, none, none] [] s (zRet (some (zi r_)) s_) := by
  replace hm : (oV (s.1 209 1) fun z1 => oV (sI s 209 1 (0 : Int)) fun s2 => oC (m283 z1 s2) fun z3 s4 => if z3 = (0 : Int) then oX (5 : Int) 6 (oV (s4.1 211 (5 : Int)) fun z7 => oZ (z7 + (1 : Int)) fun z9 => oX (5 : Int) 6 (oV (sI s4 211 (5 : Int) z9) fun s11 => some ((0 : Int), s11))) else oC (m182 s4) fun z13 s14 => oZ ((3 : Int) + z13) fun z16 => oX (0 : Int) 1600 (oV (s14.1 210 (0 : Int)) fun z18 => oZ ((256 : Int) * z18) fun z20 => oX (1 : Int) 1600 (oV (s14.1 210 (1 : Int)) fun z22 => oZ (z20 + z22) fun z24 => oX (0 : Int) 37 (oV (sI s14 254 (0 : Int) z24) fun s26 => oX (2 : Int) 1600 (oV (s26.1 210 (2 : Int)) fun z28 => oX (1 : Int) 37 (oV (sI s26 254 (1 : Int) z28) fun s30 => m284_74 zFu z16 (0 : Int) s30)))))) = some (r_, s_) := hm
  refine z_aload_n (pc' := 1) hM284 rfl rfl rfl ?_
  obtain ⟨z1, ez1, hm⟩ := o_v hm
  refine z_fldI (pc' := 4) hM284 rfl rfl rfl ez1 ?_
  refine z_istore_n (pc' := 5) (l' := [some (zr 12 0 209), some (zi z1), none, none, none]) hM284 rfl rfl rfl rfl ?_
  refine z_aload_n (pc' := 6) hM284 rfl rfl rfl ?_
  refine z_iconst (pc' := 7) hM284 rfl rfl rfl ?_
  obtain ⟨s2, es2, hm⟩ := o_v hm
  refine z_putI (pc' := 10) hM284 rfl rfl rfl es2 ?_
  refine z_aload_n (pc' := 11) hM284 rfl rfl rfl ?_
  refine z_iload_n (pc' := 12) hM284 rfl rfl rfl ?_
  obtain ⟨z3, s4, h5, hm⟩ := o_c hm
  refine z_cv (d := d + 4) (pc' := 15) hM284 rfl hM283 rfl rfl rfl rfl rfl rfl (c283 (d := d) hG h5) rfl ?_
  refine z_ifne (pc' := 18) (t := 30) hM284 rfl rfl (fun h6 => ?_) (fun h6 => ?_)
  · replace hm := o_t hm h6
    refine z_aload_n (pc' := 19) hM284 rfl rfl rfl ?_
    refine z_fldR (pc' := 22) hM284 rfl (zf_12_9 hG) rfl rfl ?_
    refine z_iconst (pc' := 23) hM284 rfl rfl rfl ?_
    refine z_dup2A (pc' := 24) hM284 rfl rfl ?_
    obtain ⟨h8, hm⟩ := o_x hm
    obtain ⟨z7, ez7, hm⟩ := o_v hm
    refine z_iald (pc' := 25) (zGN hG) hM284 rfl rfl h8 ez7 ?_
    refine z_iconst (pc' := 26) hM284 rfl rfl rfl ?_
    obtain ⟨z9, ez9, h10, hm⟩ := o_z hm
    refine z_iadd (pc' := 27) hM284 rfl rfl ez9 h10 ?_
    obtain ⟨h12, hm⟩ := o_x hm
    obtain ⟨s11, es11, hm⟩ := o_v hm
    refine z_iast (pc' := 28) hM284 rfl rfl h12 es11 ?_
    refine z_iconst (pc' := 29) hM284 rfl rfl rfl ?_
    cases hm
    exact z_retZ hM284 rfl rfl (Or.inl rfl) ⟨rfl, rfl⟩
  · replace hm := o_f hm h6
    refine z_iconst (pc' := 31) hM284 rfl rfl rfl ?_
    refine z_aload_n (pc' := 32) hM284 rfl rfl rfl ?_
    obtain ⟨z13, s14, h15, hm⟩ := o_c hm
    refine z_cv (d := d + 4) (pc' := 35) hM284 rfl hM182 rfl rfl rfl rfl rfl rfl (c182 (d := d + 3) hG h15) rfl ?_
    obtain ⟨z16, ez16, h17, hm⟩ := o_z hm
    refine z_iadd (pc' := 36) hM284 rfl rfl ez16 h17 ?_
    refine z_istore_n (pc' := 37) (l' := [some (zr 12 0 209), some (zi z1), some (zi z16), none, none]) hM284 rfl rfl rfl rfl ?_
    refine z_aload_n (pc' := 38) hM284 rfl rfl rfl ?_
    refine z_fldR (pc' := 41) hM284 rfl (zf_12_56 hG) rfl rfl ?_
    refine z_iconst (pc' := 42) hM284 rfl rfl rfl ?_
    refine z_sipush (pc' := 45) hM284 rfl rfl rfl ?_
    refine z_aload_n (pc' := 46) hM284 rfl rfl rfl ?_
    refine z_fldR (pc' := 49) hM284 rfl (zf_12_0 hG) rfl rfl ?_
    refine z_iconst (pc' := 50) hM284 rfl rfl rfl ?_
    obtain ⟨h19, hm⟩ := o_x hm
    obtain ⟨z18, ez18, hm⟩ := o_v hm
    refine z_iald (pc' := 51) (zGN hG) hM284 rfl rfl h19 ez18 ?_
    obtain ⟨z20, ez20, h21, hm⟩ := o_z hm
    refine z_imul (pc' := 52) hM284 rfl rfl ez20 h21 ?_
    refine z_aload_n (pc' := 53) hM284 rfl rfl rfl ?_
    refine z_fldR (pc' := 56) hM284 rfl (zf_12_0 hG) rfl rfl ?_
    refine z_iconst (pc' := 57) hM284 rfl rfl rfl ?_
    obtain ⟨h23, hm⟩ := o_x hm
    obtain ⟨z22, ez22, hm⟩ := o_v hm
    refine z_iald (pc' := 58) (zGN hG) hM284 rfl rfl h23 ez22 ?_
    obtain ⟨z24, ez24, h25, hm⟩ := o_z hm
    refine z_iadd (pc' := 59) hM284 rfl rfl ez24 h25 ?_
    obtain ⟨h27, hm⟩ := o_x hm
    obtain ⟨s26, es26, hm⟩ := o_v hm
    refine z_iast (pc' := 60) hM284 rfl rfl h27 es26 ?_
    refine z_aload_n (pc' := 61) hM284 rfl rfl rfl ?_
    refine z_fldR (pc' := 64) hM284 rfl (zf_12_56 hG) rfl rfl ?_
    refine z_iconst (pc' := 65) hM284 rfl rfl rfl ?_
    refine z_aload_n (pc' := 66) hM284 rfl rfl rfl ?_
    refine z_fldR (pc' := 69) hM284 rfl (zf_12_0 hG) rfl rfl ?_
    refine z_iconst (pc' := 70) hM284 rfl rfl rfl ?_
    obtain ⟨h29, hm⟩ := o_x hm
    obtain ⟨z28, ez28, hm⟩ := o_v hm
    refine z_iald (pc' := 71) (zGN hG) hM284 rfl rfl h29 ez28 ?_
    obtain ⟨h31, hm⟩ := o_x hm
    obtain ⟨s30, es30, hm⟩ := o_v hm
    refine z_iast (pc' := 72) hM284 rfl rfl h31 es30 ?_
    refine z_iconst (pc' := 73) hM284 rfl rfl rfl ?_
    refine z_istore_n (pc' := 74) (l' := [some (zr 12 0 209), some (zi z1), some (zi z16), some (zi (0 : Int)), none]) hM284 rfl rfl rfl rfl ?_
    exact c284_74 hG hm
def m285 (x1 : Int) (s : zS) : Option (Int × zS) := oC (m150 x1 (0 : Int) (5 : Int) s) fun z1 s2 => if z1 = (0 : Int) then some ((-1 : Int), s2) else oX x1 6 (oV (s2.1 211 x1) fun z5 => some (z5, s2))
theorem c285 {G : aHp} {d : Nat} (hG : zG G) {x1 : Int} {s : zS} {r_ : Int} {s_ : zS} (hm : m285 x1 s = some (r_, s_)) : Zp G (d + 2) 285 0 [some (zr 12 0 209), some (zi x1)] [] s (zRet (some (zi r_)) s_) := by
  replace hm : (oC (m150 x1 (0 : Int) (5 : Int) s) fun z1 s2 => if z1 = (0 : Int) then some ((-1 : Int), s2) else oX x1 6 (oV (s2.1 211 x1) fun z5 => some (z5, s2))) = some (r_, s_) := hm
  refine z_iload_n (pc' := 1) hM285 rfl rfl rfl ?_
  refine z_i2l (pc' := 2) hM285 rfl rfl ?_
  refine z_lconst (pc' := 3) (x := (0 : Int)) hM285 rfl rfl rfl rfl ?_
  refine z_ldc2 (pc' := 6) hM285 rfl rfl rfl ?_
  obtain ⟨z1, s2, h3, hm⟩ := o_c hm
  refine z_cs (d := d + 1) (pc' := 9) hM285 rfl hM150 rfl rfl rfl rfl (c150 (d := d) hG h3) rfl ?_
  refine z_ifeq (pc' := 12) (t := 21) hM285 rfl rfl (fun h4 => ?_) (fun h4 => ?_)
  · replace hm := o_t hm h4
    refine z_iconst (pc' := 22) hM285 rfl rfl rfl ?_
    cases hm
    exact z_retI hM285 rfl rfl ⟨rfl, rfl⟩
  · replace hm := o_f hm h4
    refine z_aload_n (pc' := 13) hM285 rfl rfl rfl ?_
    refine z_fldR (pc' := 16) hM285 rfl (zf_12_9 hG) rfl rfl ?_
    refine z_iload_n (pc' := 17) hM285 rfl rfl rfl ?_
    obtain ⟨h6, hm⟩ := o_x hm
    obtain ⟨z5, ez5, hm⟩ := o_v hm
    refine z_iald (pc' := 18) (zGN hG) hM285 rfl rfl h6 ez5 ?_
    refine z_goto (t := 22) hM285 rfl ?_
    cases hm
    exact z_retI hM285 rfl rfl ⟨rfl, rfl⟩
