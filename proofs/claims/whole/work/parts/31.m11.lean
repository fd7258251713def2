/-! ===== methods (by gen_mir.py) ===== -/
def m178_335 : Nat → Int → zS → Option (Int × zS)
  | 0, _, _ => none
  | n + 1, x1, s => oX (1 : Int) 8 (oV (s.1 242 (1 : Int)) fun z1 => if x1 < z1 then oC (m192 x1 s) fun z4 s5 => if z4 = (-1 : Int) then oC (m195 x1 s5) fun z8 s9 => oZ (x1 + (1 : Int)) fun z11 => m178_335 n z11 s9 else oZ (x1 + (1 : Int)) fun z13 => m178_335 n z13 s5 else oC (m180 s) fun z15 s16 => oV (sI s16 209 74 (0 : Int)) fun s18 => oV (sI s18 209 67 (0 : Int)) fun s19 => some (0, s19))
set_option maxHeartbeats 4000000 in
set_option maxRecDepth 20000 in
theorem c178_335 {G : aHp} {d : Nat} (hG : zG G) : ∀ {n : Nat} {x1 : Int} {s : zS} {r_ : Int} {s_ : zS}, m178_335 n x1 s = some (r_, s_) → Zp G (d + 3) 178 335 [some (zr 12 0 209), some (zi x1)] [] s (zRet none s_) := by
  intro n
  induction n with
  | zero => intro x1 s r_ s_ hm; cases hm
  | succ n ih =>
  intro x1 s r_ s_ hm
  replace hm : (oX (1 : Int) 8 (oV (s.1 242 (1 : Int)) fun z1 => if x1 < z1 then oC (m192 x1 s) fun z4 s5 => if z4 = (-1 : Int) then oC (m195 x1 s5) fun z8 s9 => oZ (x1 + (1 : Int)) fun z11 => m178_335 n z11 s9 else oZ (x1 + (1 : Int)) fun z13 => m178_335 n z13 s5 else oC (m180 s) fun z15 s16 => oV (sI s16 209 74 (0 : Int)) fun s18 => oV (sI s18 209 67 (0 : Int)) fun s19 => some (0, s19))) = some (r_, s_) := hm
  refine z_iload_n (pc' := 336) hM178 rfl rfl rfl ?_
  refine z_aload_n (pc' := 337) hM178 rfl rfl rfl ?_
  refine z_fldR (pc' := 340) hM178 rfl (zf_12_41 hG) rfl rfl ?_
  refine z_iconst (pc' := 341) hM178 rfl rfl rfl ?_
  obtain ⟨h2, hm⟩ := o_x hm
  obtain ⟨z1, ez1, hm⟩ := o_v hm
  refine z_iald (pc' := 342) (zGN hG) hM178 rfl rfl h2 ez1 ?_
  refine z_cmpge (pc' := 345) (t := 365) hM178 rfl rfl (fun h3 => ?_) (fun h3 => ?_)
  · replace hm := o_t hm h3
    refine z_aload_n (pc' := 346) hM178 rfl rfl rfl ?_
    refine z_iload_n (pc' := 347) hM178 rfl rfl rfl ?_
    obtain ⟨z4, s5, h6, hm⟩ := o_c hm
    refine z_cv (d := d + 2) (pc' := 350) hM178 rfl hM192 rfl rfl rfl rfl rfl rfl (c192 (d := d) hG h6) rfl ?_
    refine z_iconst (pc' := 351) hM178 rfl rfl rfl ?_
    refine z_cmpne (pc' := 354) (t := 359) hM178 rfl rfl (fun h7 => ?_) (fun h7 => ?_)
    · replace hm := o_t hm h7
      refine z_aload_n (pc' := 355) hM178 rfl rfl rfl ?_
      refine z_iload_n (pc' := 356) hM178 rfl rfl rfl ?_
      obtain ⟨z8, s9, h10, hm⟩ := o_c hm
      refine z_cvV (d := d + 2) (pc' := 359) hM178 rfl hM195 rfl rfl rfl rfl rfl rfl (c195 (d := d + 1) hG h10) rfl ?_
      obtain ⟨z11, ez11, h12, hm⟩ := o_z hm
      refine z_iinc (pc' := 362) (l' := [some (zr 12 0 209), some (zi z11)]) hM178 rfl rfl rfl ez11 h12 rfl rfl ?_
      refine z_goto (t := 335) hM178 rfl ?_
      exact ih hm
    · replace hm := o_f hm h7
      obtain ⟨z13, ez13, h14, hm⟩ := o_z hm
      refine z_iinc (pc' := 362) (l' := [some (zr 12 0 209), some (zi z13)]) hM178 rfl rfl rfl ez13 h14 rfl rfl ?_
      refine z_goto (t := 335) hM178 rfl ?_
      exact ih hm
  · replace hm := o_f hm h3
    refine z_aload_n (pc' := 366) hM178 rfl rfl rfl ?_
    obtain ⟨z15, s16, h17, hm⟩ := o_c hm
    refine z_cvV (d := d + 2) (pc' := 369) hM178 rfl hM180 rfl rfl rfl rfl rfl rfl (c180 (d := d) hG h17) rfl ?_
    refine z_aload_n (pc' := 370) hM178 rfl rfl rfl ?_
    refine z_iconst (pc' := 371) hM178 rfl rfl rfl ?_
    obtain ⟨s18, es18, hm⟩ := o_v hm
    refine z_putI (pc' := 374) hM178 rfl rfl rfl es18 ?_
    refine z_aload_n (pc' := 375) hM178 rfl rfl rfl ?_
    refine z_iconst (pc' := 376) hM178 rfl rfl rfl ?_
    obtain ⟨s19, es19, hm⟩ := o_v hm
    refine z_putI (pc' := 379) hM178 rfl rfl rfl es19 ?_
    cases hm
    exact z_retV hM178 rfl rfl ⟨rfl, rfl⟩
def m178_300 : Nat → Int → zS → Option (Int × zS)
  | 0, _, _ => none
  | n + 1, x1, s => oX (2 : Int) 8 (oV (s.1 242 (2 : Int)) fun z1 => if x1 < z1 then oZ ((3 : Int) * x1) fun z4 => oZ ((10 : Int) + z4) fun z6 => oX x1 6 (oV (s.1 247 x1) fun z8 => oX z6 37 (oV (sI s 254 z6 z8) fun s10 => oZ (x1 + (1 : Int)) fun z12 => m178_300 n z12 s10)) else m178_335 zFu (0 : Int) s)
set_option maxHeartbeats 4000000 in
set_option maxRecDepth 20000 in
theorem c178_300 {G : aHp} {d : Nat} (hG : zG G) : ∀ {n : Nat} {x1 : Int} {s : zS} {r_ : Int} {s_ : zS}, m178_300 n x1 s = some (r_, s_) → Zp G (d + 3) 178 300 [some (zr 12 0 209), some (zi x1)] [] s (zRet none s_) := by
  intro n
  induction n with
  | zero => intro x1 s r_ s_ hm; cases hm
  | succ n ih =>
  intro x1 s r_ s_ hm
  replace hm : (oX (2 : Int) 8 (oV (s.1 242 (2 : Int)) fun z1 => if x1 < z1 then oZ ((3 : Int) * x1) fun z4 => oZ ((10 : Int) + z4) fun z6 => oX x1 6 (oV (s.1 247 x1) fun z8 => oX z6 37 (oV (sI s 254 z6 z8) fun s10 => oZ (x1 + (1 : Int)) fun z12 => m178_300 n z12 s10)) else m178_335 zFu (0 : Int) s)) = some (r_, s_) := hm
  refine z_iload_n (pc' := 301) hM178 rfl rfl rfl ?_
  refine z_aload_n (pc' := 302) hM178 rfl rfl rfl ?_
  refine z_fldR (pc' := 305) hM178 rfl (zf_12_41 hG) rfl rfl ?_
  refine z_iconst (pc' := 306) hM178 rfl rfl rfl ?_
  obtain ⟨h2, hm⟩ := o_x hm
  obtain ⟨z1, ez1, hm⟩ := o_v hm
  refine z_iald (pc' := 307) (zGN hG) hM178 rfl rfl h2 ez1 ?_
  refine z_cmpge (pc' := 310) (t := 333) hM178 rfl rfl (fun h3 => ?_) (fun h3 => ?_)
  · replace hm := o_t hm h3
    refine z_aload_n (pc' := 311) hM178 rfl rfl rfl ?_
    refine z_fldR (pc' := 314) hM178 rfl (zf_12_56 hG) rfl rfl ?_
    refine z_bipush (pc' := 316) hM178 rfl rfl rfl ?_
    refine z_iconst (pc' := 317) hM178 rfl rfl rfl ?_
    refine z_iload_n (pc' := 318) hM178 rfl rfl rfl ?_
    obtain ⟨z4, ez4, h5, hm⟩ := o_z hm
    refine z_imul (pc' := 319) hM178 rfl rfl ez4 h5 ?_
    obtain ⟨z6, ez6, h7, hm⟩ := o_z hm
    refine z_iadd (pc' := 320) hM178 rfl rfl ez6 h7 ?_
    refine z_aload_n (pc' := 321) hM178 rfl rfl rfl ?_
    refine z_fldR (pc' := 324) hM178 rfl (zf_12_46 hG) rfl rfl ?_
    refine z_iload_n (pc' := 325) hM178 rfl rfl rfl ?_
    obtain ⟨h9, hm⟩ := o_x hm
    obtain ⟨z8, ez8, hm⟩ := o_v hm
    refine z_iald (pc' := 326) (zGN hG) hM178 rfl rfl h9 ez8 ?_
    obtain ⟨h11, hm⟩ := o_x hm
    obtain ⟨s10, es10, hm⟩ := o_v hm
    refine z_iast (pc' := 327) hM178 rfl rfl h11 es10 ?_
    obtain ⟨z12, ez12, h13, hm⟩ := o_z hm
    refine z_iinc (pc' := 330) (l' := [some (zr 12 0 209), some (zi z12)]) hM178 rfl rfl rfl ez12 h13 rfl rfl ?_
    refine z_goto (t := 300) hM178 rfl ?_
    exact ih hm
  · replace hm := o_f hm h3
    refine z_iconst (pc' := 334) hM178 rfl rfl rfl ?_
    refine z_istore_n (pc' := 335) (l' := [some (zr 12 0 209), some (zi (0 : Int))]) hM178 rfl rfl rfl rfl ?_
    exact c178_335 hG hm
def m178_264 : Nat → Int → zS → Option (Int × zS)
  | 0, _, _ => none
  | n + 1, x1, s => oX (1 : Int) 8 (oV (s.1 242 (1 : Int)) fun z1 => if x1 < z1 then oZ ((2 : Int) + x1) fun z4 => oZ ((3 : Int) * x1) fun z6 => oZ (z6 + (2 : Int)) fun z8 => oX z8 48 (oV (s.1 245 z8) fun z10 => oX z4 37 (oV (sI s 254 z4 z10) fun s12 => oZ (x1 + (1 : Int)) fun z14 => m178_264 n z14 s12)) else m178_300 zFu (0 : Int) s)
set_option maxHeartbeats 4000000 in
set_option maxRecDepth 20000 in
theorem c178_264 {G : aHp} {d : Nat} (hG : zG G) : ∀ {n : Nat} {x1 : Int} {s : zS} {r_ : Int} {s_ : zS}, m178_264 n x1 s = some (r_, s_) → Zp G (d + 3) 178 264 [some (zr 12 0 209), some (zi x1)] [] s (zRet none s_) := by
  intro n
  induction n with
  | zero => intro x1 s r_ s_ hm; cases hm
  | succ n ih =>
  intro x1 s r_ s_ hm
  replace hm : (oX (1 : Int) 8 (oV (s.1 242 (1 : Int)) fun z1 => if x1 < z1 then oZ ((2 : Int) + x1) fun z4 => oZ ((3 : Int) * x1) fun z6 => oZ (z6 + (2 : Int)) fun z8 => oX z8 48 (oV (s.1 245 z8) fun z10 => oX z4 37 (oV (sI s 254 z4 z10) fun s12 => oZ (x1 + (1 : Int)) fun z14 => m178_264 n z14 s12)) else m178_300 zFu (0 : Int) s)) = some (r_, s_) := hm
  refine z_iload_n (pc' := 265) hM178 rfl rfl rfl ?_
  refine z_aload_n (pc' := 266) hM178 rfl rfl rfl ?_
  refine z_fldR (pc' := 269) hM178 rfl (zf_12_41 hG) rfl rfl ?_
  refine z_iconst (pc' := 270) hM178 rfl rfl rfl ?_
  obtain ⟨h2, hm⟩ := o_x hm
  obtain ⟨z1, ez1, hm⟩ := o_v hm
  refine z_iald (pc' := 271) (zGN hG) hM178 rfl rfl h2 ez1 ?_
  refine z_cmpge (pc' := 274) (t := 298) hM178 rfl rfl (fun h3 => ?_) (fun h3 => ?_)
  · replace hm := o_t hm h3
    refine z_aload_n (pc' := 275) hM178 rfl rfl rfl ?_
    refine z_fldR (pc' := 278) hM178 rfl (zf_12_56 hG) rfl rfl ?_
    refine z_iconst (pc' := 279) hM178 rfl rfl rfl ?_
    refine z_iload_n (pc' := 280) hM178 rfl rfl rfl ?_
    obtain ⟨z4, ez4, h5, hm⟩ := o_z hm
    refine z_iadd (pc' := 281) hM178 rfl rfl ez4 h5 ?_
    refine z_aload_n (pc' := 282) hM178 rfl rfl rfl ?_
    refine z_fldR (pc' := 285) hM178 rfl (zf_12_44 hG) rfl rfl ?_
    refine z_iconst (pc' := 286) hM178 rfl rfl rfl ?_
    refine z_iload_n (pc' := 287) hM178 rfl rfl rfl ?_
    obtain ⟨z6, ez6, h7, hm⟩ := o_z hm
    refine z_imul (pc' := 288) hM178 rfl rfl ez6 h7 ?_
    refine z_iconst (pc' := 289) hM178 rfl rfl rfl ?_
    obtain ⟨z8, ez8, h9, hm⟩ := o_z hm
    refine z_iadd (pc' := 290) hM178 rfl rfl ez8 h9 ?_
    obtain ⟨h11, hm⟩ := o_x hm
    obtain ⟨z10, ez10, hm⟩ := o_v hm
    refine z_iald (pc' := 291) (zGN hG) hM178 rfl rfl h11 ez10 ?_
    obtain ⟨h13, hm⟩ := o_x hm
    obtain ⟨s12, es12, hm⟩ := o_v hm
    refine z_iast (pc' := 292) hM178 rfl rfl h13 es12 ?_
    obtain ⟨z14, ez14, h15, hm⟩ := o_z hm
    refine z_iinc (pc' := 295) (l' := [some (zr 12 0 209), some (zi z14)]) hM178 rfl rfl rfl ez14 h15 rfl rfl ?_
    refine z_goto (t := 264) hM178 rfl ?_
    exact ih hm
  · replace hm := o_f hm h3
    refine z_iconst (pc' := 299) hM178 rfl rfl rfl ?_
    refine z_istore_n (pc' := 300) (l' := [some (zr 12 0 209), some (zi (0 : Int))]) hM178 rfl rfl rfl rfl ?_
    exact c178_300 hG hm
def m178_231 : Nat → Int → zS → Option (Int × zS)
  | 0, _, _ => none
  | n + 1, x1, s => if x1 < (37 : Int) then oX x1 37 (oV (sI s 254 x1 (0 : Int)) fun s2 => oZ (x1 + (1 : Int)) fun z4 => m178_231 n z4 s2) else oX (0 : Int) 6 (oV (s.1 248 (0 : Int)) fun z6 => oX (1 : Int) 37 (oV (sI s 254 (1 : Int) z6) fun s8 => m178_264 zFu (0 : Int) s8))
set_option maxHeartbeats 4000000 in
set_option maxRecDepth 20000 in
theorem c178_231 {G : aHp} {d : Nat} (hG : zG G) : ∀ {n : Nat} {x1 : Int} {s : zS} {r_ : Int} {s_ : zS}, m178_231 n x1 s = some (r_, s_) → Zp G (d + 3) 178 231 [some (zr 12 0 209), some (zi x1)] [] s (zRet none s_) := by
  intro n
  induction n with
  | zero => intro x1 s r_ s_ hm; cases hm
  | succ n ih =>
  intro x1 s r_ s_ hm
  replace hm : (if x1 < (37 : Int) then oX x1 37 (oV (sI s 254 x1 (0 : Int)) fun s2 => oZ (x1 + (1 : Int)) fun z4 => m178_231 n z4 s2) else oX (0 : Int) 6 (oV (s.1 248 (0 : Int)) fun z6 => oX (1 : Int) 37 (oV (sI s 254 (1 : Int) z6) fun s8 => m178_264 zFu (0 : Int) s8))) = some (r_, s_) := hm
  refine z_iload_n (pc' := 232) hM178 rfl rfl rfl ?_
  refine z_bipush (pc' := 234) hM178 rfl rfl rfl ?_
  refine z_cmpge (pc' := 237) (t := 250) hM178 rfl rfl (fun h1 => ?_) (fun h1 => ?_)
  · replace hm := o_t hm h1
    refine z_aload_n (pc' := 238) hM178 rfl rfl rfl ?_
    refine z_fldR (pc' := 241) hM178 rfl (zf_12_56 hG) rfl rfl ?_
    refine z_iload_n (pc' := 242) hM178 rfl rfl rfl ?_
    refine z_iconst (pc' := 243) hM178 rfl rfl rfl ?_
    obtain ⟨h3, hm⟩ := o_x hm
    obtain ⟨s2, es2, hm⟩ := o_v hm
    refine z_iast (pc' := 244) hM178 rfl rfl h3 es2 ?_
    obtain ⟨z4, ez4, h5, hm⟩ := o_z hm
    refine z_iinc (pc' := 247) (l' := [some (zr 12 0 209), some (zi z4)]) hM178 rfl rfl rfl ez4 h5 rfl rfl ?_
    refine z_goto (t := 231) hM178 rfl ?_
    exact ih hm
  · replace hm := o_f hm h1
    refine z_aload_n (pc' := 251) hM178 rfl rfl rfl ?_
    refine z_fldR (pc' := 254) hM178 rfl (zf_12_56 hG) rfl rfl ?_
    refine z_iconst (pc' := 255) hM178 rfl rfl rfl ?_
    refine z_aload_n (pc' := 256) hM178 rfl rfl rfl ?_
    refine z_fldR (pc' := 259) hM178 rfl (zf_12_47 hG) rfl rfl ?_
    refine z_iconst (pc' := 260) hM178 rfl rfl rfl ?_
    obtain ⟨h7, hm⟩ := o_x hm
    obtain ⟨z6, ez6, hm⟩ := o_v hm
    refine z_iald (pc' := 261) (zGN hG) hM178 rfl rfl h7 ez6 ?_
    obtain ⟨h9, hm⟩ := o_x hm
    obtain ⟨s8, es8, hm⟩ := o_v hm
    refine z_iast (pc' := 262) hM178 rfl rfl h9 es8 ?_
    refine z_iconst (pc' := 263) hM178 rfl rfl rfl ?_
    refine z_istore_n (pc' := 264) (l' := [some (zr 12 0 209), some (zi (0 : Int))]) hM178 rfl rfl rfl rfl ?_
    exact c178_264 hG hm
def m178_199 : Nat → Int → zS → Option (Int × zS)
  | 0, _, _ => none
  | n + 1, x1, s => oV (s.1 209 51) fun z1 => if x1 < z1 then oZ ((1600 : Int) + x1) fun z3 => oX x1 3200 (oV (s.1 251 x1) fun z5 => oX z3 3200 (oV (sI s 251 z3 z5) fun s7 => oZ (x1 + (1 : Int)) fun z9 => m178_199 n z9 s7)) else m178_231 zFu (0 : Int) s
set_option maxHeartbeats 4000000 in
set_option maxRecDepth 20000 in
theorem c178_199 {G : aHp} {d : Nat} (hG : zG G) : ∀ {n : Nat} {x1 : Int} {s : zS} {r_ : Int} {s_ : zS}, m178_199 n x1 s = some (r_, s_) → Zp G (d + 3) 178 199 [some (zr 12 0 209), some (zi x1)] [] s (zRet none s_) := by
  intro n
  induction n with
  | zero => intro x1 s r_ s_ hm; cases hm
  | succ n ih =>
  intro x1 s r_ s_ hm
  replace hm : (oV (s.1 209 51) fun z1 => if x1 < z1 then oZ ((1600 : Int) + x1) fun z3 => oX x1 3200 (oV (s.1 251 x1) fun z5 => oX z3 3200 (oV (sI s 251 z3 z5) fun s7 => oZ (x1 + (1 : Int)) fun z9 => m178_199 n z9 s7)) else m178_231 zFu (0 : Int) s) = some (r_, s_) := hm
  refine z_iload_n (pc' := 200) hM178 rfl rfl rfl ?_
  refine z_aload_n (pc' := 201) hM178 rfl rfl rfl ?_
  obtain ⟨z1, ez1, hm⟩ := o_v hm
  refine z_fldI (pc' := 204) hM178 rfl rfl rfl ez1 ?_
  refine z_cmpge (pc' := 207) (t := 229) hM178 rfl rfl (fun h2 => ?_) (fun h2 => ?_)
  · replace hm := o_t hm h2
    refine z_aload_n (pc' := 208) hM178 rfl rfl rfl ?_
    refine z_fldR (pc' := 211) hM178 rfl (zf_12_50 hG) rfl rfl ?_
    refine z_sipush (pc' := 214) hM178 rfl rfl rfl ?_
    refine z_iload_n (pc' := 215) hM178 rfl rfl rfl ?_
    obtain ⟨z3, ez3, h4, hm⟩ := o_z hm
    refine z_iadd (pc' := 216) hM178 rfl rfl ez3 h4 ?_
    refine z_aload_n (pc' := 217) hM178 rfl rfl rfl ?_
    refine z_fldR (pc' := 220) hM178 rfl (zf_12_50 hG) rfl rfl ?_
    refine z_iload_n (pc' := 221) hM178 rfl rfl rfl ?_
    obtain ⟨h6, hm⟩ := o_x hm
    obtain ⟨z5, ez5, hm⟩ := o_v hm
    refine z_iald (pc' := 222) (zGN hG) hM178 rfl rfl h6 ez5 ?_
    obtain ⟨h8, hm⟩ := o_x hm
    obtain ⟨s7, es7, hm⟩ := o_v hm
    refine z_iast (pc' := 223) hM178 rfl rfl h8 es7 ?_
    obtain ⟨z9, ez9, h10, hm⟩ := o_z hm
    refine z_iinc (pc' := 226) (l' := [some (zr 12 0 209), some (zi z9)]) hM178 rfl rfl rfl ez9 h10 rfl rfl ?_
    refine z_goto (t := 199) hM178 rfl ?_
    exact ih hm
  · replace hm := o_f hm h2
    refine z_iconst (pc' := 230) hM178 rfl rfl rfl ?_
    refine z_istore_n (pc' := 231) (l' := [some (zr 12 0 209), some (zi (0 : Int))]) hM178 rfl rfl rfl rfl ?_
    exact c178_231 hG hm
def m178_158 : Nat → Int → zS → Option (Int × zS)
  | 0, _, _ => none
  | n + 1, x1, s => if x1 < (2 : Int) then oZ ((2 : Int) + x1) fun z2 => oX x1 4 (oV (s.1 249 x1) fun z4 => oX z2 4 (oV (sI s 249 z2 z4) fun s6 => oZ ((2 : Int) + x1) fun z8 => oX x1 4 (oV (s6.1 250 x1) fun z10 => oX z8 4 (oV (sI s6 250 z8 z10) fun s12 => oZ (x1 + (1 : Int)) fun z14 => m178_158 n z14 s12)))) else m178_199 zFu (0 : Int) s
set_option maxHeartbeats 4000000 in
set_option maxRecDepth 20000 in
theorem c178_158 {G : aHp} {d : Nat} (hG : zG G) : ∀ {n : Nat} {x1 : Int} {s : zS} {r_ : Int} {s_ : zS}, m178_158 n x1 s = some (r_, s_) → Zp G (d + 3) 178 158 [some (zr 12 0 209), some (zi x1)] [] s (zRet none s_) := by
  intro n
  induction n with
  | zero => intro x1 s r_ s_ hm; cases hm
  | succ n ih =>
  intro x1 s r_ s_ hm
  replace hm : (if x1 < (2 : Int) then oZ ((2 : Int) + x1) fun z2 => oX x1 4 (oV (s.1 249 x1) fun z4 => oX z2 4 (oV (sI s 249 z2 z4) fun s6 => oZ ((2 : Int) + x1) fun z8 => oX x1 4 (oV (s6.1 250 x1) fun z10 => oX z8 4 (oV (sI s6 250 z8 z10) fun s12 => oZ (x1 + (1 : Int)) fun z14 => m178_158 n z14 s12)))) else m178_199 zFu (0 : Int) s) = some (r_, s_) := hm
  refine z_iload_n (pc' := 159) hM178 rfl rfl rfl ?_
  refine z_iconst (pc' := 160) hM178 rfl rfl rfl ?_
  refine z_cmpge (pc' := 163) (t := 197) hM178 rfl rfl (fun h1 => ?_) (fun h1 => ?_)
  · replace hm := o_t hm h1
    refine z_aload_n (pc' := 164) hM178 rfl rfl rfl ?_
    refine z_fldR (pc' := 167) hM178 rfl (zf_12_48 hG) rfl rfl ?_
    refine z_iconst (pc' := 168) hM178 rfl rfl rfl ?_
    refine z_iload_n (pc' := 169) hM178 rfl rfl rfl ?_
    obtain ⟨z2, ez2, h3, hm⟩ := o_z hm
    refine z_iadd (pc' := 170) hM178 rfl rfl ez2 h3 ?_
    refine z_aload_n (pc' := 171) hM178 rfl rfl rfl ?_
    refine z_fldR (pc' := 174) hM178 rfl (zf_12_48 hG) rfl rfl ?_
    refine z_iload_n (pc' := 175) hM178 rfl rfl rfl ?_
    obtain ⟨h5, hm⟩ := o_x hm
    obtain ⟨z4, ez4, hm⟩ := o_v hm
    refine z_iald (pc' := 176) (zGN hG) hM178 rfl rfl h5 ez4 ?_
    obtain ⟨h7, hm⟩ := o_x hm
    obtain ⟨s6, es6, hm⟩ := o_v hm
    refine z_iast (pc' := 177) hM178 rfl rfl h7 es6 ?_
    refine z_aload_n (pc' := 178) hM178 rfl rfl rfl ?_
    refine z_fldR (pc' := 181) hM178 rfl (zf_12_49 hG) rfl rfl ?_
    refine z_iconst (pc' := 182) hM178 rfl rfl rfl ?_
    refine z_iload_n (pc' := 183) hM178 rfl rfl rfl ?_
    obtain ⟨z8, ez8, h9, hm⟩ := o_z hm
    refine z_iadd (pc' := 184) hM178 rfl rfl ez8 h9 ?_
    refine z_aload_n (pc' := 185) hM178 rfl rfl rfl ?_
    refine z_fldR (pc' := 188) hM178 rfl (zf_12_49 hG) rfl rfl ?_
    refine z_iload_n (pc' := 189) hM178 rfl rfl rfl ?_
    obtain ⟨h11, hm⟩ := o_x hm
    obtain ⟨z10, ez10, hm⟩ := o_v hm
    refine z_iald (pc' := 190) (zGN hG) hM178 rfl rfl h11 ez10 ?_
    obtain ⟨h13, hm⟩ := o_x hm
    obtain ⟨s12, es12, hm⟩ := o_v hm
    refine z_iast (pc' := 191) hM178 rfl rfl h13 es12 ?_
    obtain ⟨z14, ez14, h15, hm⟩ := o_z hm
    refine z_iinc (pc' := 194) (l' := [some (zr 12 0 209), some (zi z14)]) hM178 rfl rfl rfl ez14 h15 rfl rfl ?_
    refine z_goto (t := 158) hM178 rfl ?_
    exact ih hm
  · replace hm := o_f hm h1
    refine z_iconst (pc' := 198) hM178 rfl rfl rfl ?_
    refine z_istore_n (pc' := 199) (l' := [some (zr 12 0 209), some (zi (0 : Int))]) hM178 rfl rfl rfl rfl ?_
    exact c178_199 hG hm
def m178_131 : Nat → Int → zS → Option (Int × zS)
  | 0, _, _ => none
  | n + 1, x1, s => if x1 < (3 : Int) then oZ ((3 : Int) + x1) fun z2 => oX x1 6 (oV (s.1 248 x1) fun z4 => oX z2 6 (oV (sI s 248 z2 z4) fun s6 => oZ (x1 + (1 : Int)) fun z8 => m178_131 n z8 s6)) else m178_158 zFu (0 : Int) s
set_option maxHeartbeats 4000000 in
set_option maxRecDepth 20000 in
theorem c178_131 {G : aHp} {d : Nat} (hG : zG G) : ∀ {n : Nat} {x1 : Int} {s : zS} {r_ : Int} {s_ : zS}, m178_131 n x1 s = some (r_, s_) → Zp G (d + 3) 178 131 [some (zr 12 0 209), some (zi x1)] [] s (zRet none s_) := by
  intro n
  induction n with
  | zero => intro x1 s r_ s_ hm; cases hm
  | succ n ih =>
  intro x1 s r_ s_ hm
  replace hm : (if x1 < (3 : Int) then oZ ((3 : Int) + x1) fun z2 => oX x1 6 (oV (s.1 248 x1) fun z4 => oX z2 6 (oV (sI s 248 z2 z4) fun s6 => oZ (x1 + (1 : Int)) fun z8 => m178_131 n z8 s6)) else m178_158 zFu (0 : Int) s) = some (r_, s_) := hm
  refine z_iload_n (pc' := 132) hM178 rfl rfl rfl ?_
  refine z_iconst (pc' := 133) hM178 rfl rfl rfl ?_
  refine z_cmpge (pc' := 136) (t := 156) hM178 rfl rfl (fun h1 => ?_) (fun h1 => ?_)
  · replace hm := o_t hm h1
    refine z_aload_n (pc' := 137) hM178 rfl rfl rfl ?_
    refine z_fldR (pc' := 140) hM178 rfl (zf_12_47 hG) rfl rfl ?_
    refine z_iconst (pc' := 141) hM178 rfl rfl rfl ?_
    refine z_iload_n (pc' := 142) hM178 rfl rfl rfl ?_
    obtain ⟨z2, ez2, h3, hm⟩ := o_z hm
    refine z_iadd (pc' := 143) hM178 rfl rfl ez2 h3 ?_
    refine z_aload_n (pc' := 144) hM178 rfl rfl rfl ?_
    refine z_fldR (pc' := 147) hM178 rfl (zf_12_47 hG) rfl rfl ?_
    refine z_iload_n (pc' := 148) hM178 rfl rfl rfl ?_
    obtain ⟨h5, hm⟩ := o_x hm
    obtain ⟨z4, ez4, hm⟩ := o_v hm
    refine z_iald (pc' := 149) (zGN hG) hM178 rfl rfl h5 ez4 ?_
    obtain ⟨h7, hm⟩ := o_x hm
    obtain ⟨s6, es6, hm⟩ := o_v hm
    refine z_iast (pc' := 150) hM178 rfl rfl h7 es6 ?_
    obtain ⟨z8, ez8, h9, hm⟩ := o_z hm
    refine z_iinc (pc' := 153) (l' := [some (zr 12 0 209), some (zi z8)]) hM178 rfl rfl rfl ez8 h9 rfl rfl ?_
    refine z_goto (t := 131) hM178 rfl ?_
    exact ih hm
  · replace hm := o_f hm h1
    refine z_iconst (pc' := 157) hM178 rfl rfl rfl ?_
    refine z_istore_n (pc' := 158) (l' := [some (zr 12 0 209), some (zi (0 : Int))]) hM178 rfl rfl rfl rfl ?_
    exact c178_158 hG hm
def m178_102 : Nat → Int → zS → Option (Int × zS)
  | 0, _, _ => none
  | n + 1, x1, s => if x1 < (18 : Int) then oZ ((18 : Int) + x1) fun z2 => oX x1 36 (oV (s.1 246 x1) fun z4 => oX z2 36 (oV (sI s 246 z2 z4) fun s6 => oZ (x1 + (1 : Int)) fun z8 => m178_102 n z8 s6)) else m178_131 zFu (0 : Int) s
set_option maxHeartbeats 4000000 in
set_option maxRecDepth 20000 in
theorem c178_102 {G : aHp} {d : Nat} (hG : zG G) : ∀ {n : Nat} {x1 : Int} {s : zS} {r_ : Int} {s_ : zS}, m178_102 n x1 s = some (r_, s_) → Zp G (d + 3) 178 102 [some (zr 12 0 209), some (zi x1)] [] s (zRet none s_) := by
  intro n
  induction n with
  | zero => intro x1 s r_ s_ hm; cases hm
  | succ n ih =>
  intro x1 s r_ s_ hm
  replace hm : (if x1 < (18 : Int) then oZ ((18 : Int) + x1) fun z2 => oX x1 36 (oV (s.1 246 x1) fun z4 => oX z2 36 (oV (sI s 246 z2 z4) fun s6 => oZ (x1 + (1 : Int)) fun z8 => m178_102 n z8 s6)) else m178_131 zFu (0 : Int) s) = some (r_, s_) := hm
  refine z_iload_n (pc' := 103) hM178 rfl rfl rfl ?_
  refine z_bipush (pc' := 105) hM178 rfl rfl rfl ?_
  refine z_cmpge (pc' := 108) (t := 129) hM178 rfl rfl (fun h1 => ?_) (fun h1 => ?_)
  · replace hm := o_t hm h1
    refine z_aload_n (pc' := 109) hM178 rfl rfl rfl ?_
    refine z_fldR (pc' := 112) hM178 rfl (zf_12_45 hG) rfl rfl ?_
    refine z_bipush (pc' := 114) hM178 rfl rfl rfl ?_
    refine z_iload_n (pc' := 115) hM178 rfl rfl rfl ?_
    obtain ⟨z2, ez2, h3, hm⟩ := o_z hm
    refine z_iadd (pc' := 116) hM178 rfl rfl ez2 h3 ?_
    refine z_aload_n (pc' := 117) hM178 rfl rfl rfl ?_
    refine z_fldR (pc' := 120) hM178 rfl (zf_12_45 hG) rfl rfl ?_
    refine z_iload_n (pc' := 121) hM178 rfl rfl rfl ?_
    obtain ⟨h5, hm⟩ := o_x hm
    obtain ⟨z4, ez4, hm⟩ := o_v hm
    refine z_iald (pc' := 122) (zGN hG) hM178 rfl rfl h5 ez4 ?_
    obtain ⟨h7, hm⟩ := o_x hm
    obtain ⟨s6, es6, hm⟩ := o_v hm
    refine z_iast (pc' := 123) hM178 rfl rfl h7 es6 ?_
    obtain ⟨z8, ez8, h9, hm⟩ := o_z hm
    refine z_iinc (pc' := 126) (l' := [some (zr 12 0 209), some (zi z8)]) hM178 rfl rfl rfl ez8 h9 rfl rfl ?_
    refine z_goto (t := 102) hM178 rfl ?_
    exact ih hm
  · replace hm := o_f hm h1
    refine z_iconst (pc' := 130) hM178 rfl rfl rfl ?_
    refine z_istore_n (pc' := 131) (l' := [some (zr 12 0 209), some (zi (0 : Int))]) hM178 rfl rfl rfl rfl ?_
    exact c178_131 hG hm
def m178_73 : Nat → Int → zS → Option (Int × zS)
  | 0, _, _ => none
  | n + 1, x1, s => if x1 < (49 : Int) then oZ ((49 : Int) + x1) fun z2 => oX x1 98 (oV (s.1 244 x1) fun z4 => oX z2 98 (oV (sI s 244 z2 z4) fun s6 => oZ (x1 + (1 : Int)) fun z8 => m178_73 n z8 s6)) else m178_102 zFu (0 : Int) s
set_option maxHeartbeats 4000000 in
set_option maxRecDepth 20000 in
theorem c178_73 {G : aHp} {d : Nat} (hG : zG G) : ∀ {n : Nat} {x1 : Int} {s : zS} {r_ : Int} {s_ : zS}, m178_73 n x1 s = some (r_, s_) → Zp G (d + 3) 178 73 [some (zr 12 0 209), some (zi x1)] [] s (zRet none s_) := by
  intro n
  induction n with
  | zero => intro x1 s r_ s_ hm; cases hm
  | succ n ih =>
  intro x1 s r_ s_ hm
  replace hm : (if x1 < (49 : Int) then oZ ((49 : Int) + x1) fun z2 => oX x1 98 (oV (s.1 244 x1) fun z4 => oX z2 98 (oV (sI s 244 z2 z4) fun s6 => oZ (x1 + (1 : Int)) fun z8 => m178_73 n z8 s6)) else m178_102 zFu (0 : Int) s) = some (r_, s_) := hm
  refine z_iload_n (pc' := 74) hM178 rfl rfl rfl ?_
  refine z_bipush (pc' := 76) hM178 rfl rfl rfl ?_
  refine z_cmpge (pc' := 79) (t := 100) hM178 rfl rfl (fun h1 => ?_) (fun h1 => ?_)
  · replace hm := o_t hm h1
    refine z_aload_n (pc' := 80) hM178 rfl rfl rfl ?_
    refine z_fldR (pc' := 83) hM178 rfl (zf_12_43 hG) rfl rfl ?_
    refine z_bipush (pc' := 85) hM178 rfl rfl rfl ?_
    refine z_iload_n (pc' := 86) hM178 rfl rfl rfl ?_
    obtain ⟨z2, ez2, h3, hm⟩ := o_z hm
    refine z_iadd (pc' := 87) hM178 rfl rfl ez2 h3 ?_
    refine z_aload_n (pc' := 88) hM178 rfl rfl rfl ?_
    refine z_fldR (pc' := 91) hM178 rfl (zf_12_43 hG) rfl rfl ?_
    refine z_iload_n (pc' := 92) hM178 rfl rfl rfl ?_
    obtain ⟨h5, hm⟩ := o_x hm
    obtain ⟨z4, ez4, hm⟩ := o_v hm
    refine z_iald (pc' := 93) (zGN hG) hM178 rfl rfl h5 ez4 ?_
    obtain ⟨h7, hm⟩ := o_x hm
    obtain ⟨s6, es6, hm⟩ := o_v hm
    refine z_iast (pc' := 94) hM178 rfl rfl h7 es6 ?_
    obtain ⟨z8, ez8, h9, hm⟩ := o_z hm
    refine z_iinc (pc' := 97) (l' := [some (zr 12 0 209), some (zi z8)]) hM178 rfl rfl rfl ez8 h9 rfl rfl ?_
    refine z_goto (t := 73) hM178 rfl ?_
    exact ih hm
  · replace hm := o_f hm h1
    refine z_iconst (pc' := 101) hM178 rfl rfl rfl ?_
    refine z_istore_n (pc' := 102) (l' := [some (zr 12 0 209), some (zi (0 : Int))]) hM178 rfl rfl rfl rfl ?_
    exact c178_102 hG hm
def m178_29 : Nat → Int → zS → Option (Int × zS)
  | 0, _, _ => none
  | n + 1, x1, s => if x1 < (24 : Int) then oZ ((24 : Int) + x1) fun z2 => oX x1 48 (oV (s.2.1 243 x1) fun z4 => oX z2 48 (oV (sJ s 243 z2 z4) fun s6 => oZ ((24 : Int) + x1) fun z8 => oX x1 48 (oV (s6.1 245 x1) fun z10 => oX z8 48 (oV (sI s6 245 z8 z10) fun s12 => oZ (x1 + (1 : Int)) fun z14 => m178_29 n z14 s12)))) else m178_73 zFu (0 : Int) s
set_option maxHeartbeats 4000000 in
set_option maxRecDepth 20000 in
theorem c178_29 {G : aHp} {d : Nat} (hG : zG G) : ∀ {n : Nat} {x1 : Int} {s : zS} {r_ : Int} {s_ : zS}, m178_29 n x1 s = some (r_, s_) → Zp G (d + 3) 178 29 [some (zr 12 0 209), some (zi x1)] [] s (zRet none s_) := by
  intro n
  induction n with
  | zero => intro x1 s r_ s_ hm; cases hm
  | succ n ih =>
  intro x1 s r_ s_ hm
  replace hm : (if x1 < (24 : Int) then oZ ((24 : Int) + x1) fun z2 => oX x1 48 (oV (s.2.1 243 x1) fun z4 => oX z2 48 (oV (sJ s 243 z2 z4) fun s6 => oZ ((24 : Int) + x1) fun z8 => oX x1 48 (oV (s6.1 245 x1) fun z10 => oX z8 48 (oV (sI s6 245 z8 z10) fun s12 => oZ (x1 + (1 : Int)) fun z14 => m178_29 n z14 s12)))) else m178_73 zFu (0 : Int) s) = some (r_, s_) := hm
  refine z_iload_n (pc' := 30) hM178 rfl rfl rfl ?_
  refine z_bipush (pc' := 32) hM178 rfl rfl rfl ?_
  refine z_cmpge (pc' := 35) (t := 71) hM178 rfl rfl (fun h1 => ?_) (fun h1 => ?_)
  · replace hm := o_t hm h1
    refine z_aload_n (pc' := 36) hM178 rfl rfl rfl ?_
    refine z_fldR (pc' := 39) hM178 rfl (zf_12_42 hG) rfl rfl ?_
    refine z_bipush (pc' := 41) hM178 rfl rfl rfl ?_
    refine z_iload_n (pc' := 42) hM178 rfl rfl rfl ?_
    obtain ⟨z2, ez2, h3, hm⟩ := o_z hm
    refine z_iadd (pc' := 43) hM178 rfl rfl ez2 h3 ?_
    refine z_aload_n (pc' := 44) hM178 rfl rfl rfl ?_
    refine z_fldR (pc' := 47) hM178 rfl (zf_12_42 hG) rfl rfl ?_
    refine z_iload_n (pc' := 48) hM178 rfl rfl rfl ?_
    obtain ⟨h5, hm⟩ := o_x hm
    obtain ⟨z4, ez4, hm⟩ := o_v hm
    refine z_lald (pc' := 49) hM178 rfl rfl h5 ez4 ?_
    obtain ⟨h7, hm⟩ := o_x hm
    obtain ⟨s6, es6, hm⟩ := o_v hm
    refine z_last (pc' := 50) hM178 rfl rfl h7 es6 ?_
    refine z_aload_n (pc' := 51) hM178 rfl rfl rfl ?_
    refine z_fldR (pc' := 54) hM178 rfl (zf_12_44 hG) rfl rfl ?_
    refine z_bipush (pc' := 56) hM178 rfl rfl rfl ?_
    refine z_iload_n (pc' := 57) hM178 rfl rfl rfl ?_
    obtain ⟨z8, ez8, h9, hm⟩ := o_z hm
    refine z_iadd (pc' := 58) hM178 rfl rfl ez8 h9 ?_
    refine z_aload_n (pc' := 59) hM178 rfl rfl rfl ?_
    refine z_fldR (pc' := 62) hM178 rfl (zf_12_44 hG) rfl rfl ?_
    refine z_iload_n (pc' := 63) hM178 rfl rfl rfl ?_
    obtain ⟨h11, hm⟩ := o_x hm
    obtain ⟨z10, ez10, hm⟩ := o_v hm
    refine z_iald (pc' := 64) (zGN hG) hM178 rfl rfl h11 ez10 ?_
    obtain ⟨h13, hm⟩ := o_x hm
    obtain ⟨s12, es12, hm⟩ := o_v hm
    refine z_iast (pc' := 65) hM178 rfl rfl h13 es12 ?_
    obtain ⟨z14, ez14, h15, hm⟩ := o_z hm
    refine z_iinc (pc' := 68) (l' := [some (zr 12 0 209), some (zi z14)]) hM178 rfl rfl rfl ez14 h15 rfl rfl ?_
    refine z_goto (t := 29) hM178 rfl ?_
    exact ih hm
  · replace hm := o_f hm h1
    refine z_iconst (pc' := 72) hM178 rfl rfl rfl ?_
    refine z_istore_n (pc' := 73) (l' := [some (zr 12 0 209), some (zi (0 : Int))]) hM178 rfl rfl rfl rfl ?_
    exact c178_73 hG hm
def m178_2 : Nat → Int → zS → Option (Int × zS)
  | 0, _, _ => none
  | n + 1, x1, s => if x1 < (4 : Int) then oZ ((4 : Int) + x1) fun z2 => oX x1 8 (oV (s.1 242 x1) fun z4 => oX z2 8 (oV (sI s 242 z2 z4) fun s6 => oZ (x1 + (1 : Int)) fun z8 => m178_2 n z8 s6)) else m178_29 zFu (0 : Int) s
set_option maxHeartbeats 4000000 in
set_option maxRecDepth 20000 in
theorem c178_2 {G : aHp} {d : Nat} (hG : zG G) : ∀ {n : Nat} {x1 : Int} {s : zS} {r_ : Int} {s_ : zS}, m178_2 n x1 s = some (r_, s_) → Zp G (d + 3) 178 2 [some (zr 12 0 209), some (zi x1)] [] s (zRet none s_) := by
  intro n
  induction n with
  | zero => intro x1 s r_ s_ hm; cases hm
  | succ n ih =>
  intro x1 s r_ s_ hm
  replace hm : (if x1 < (4 : Int) then oZ ((4 : Int) + x1) fun z2 => oX x1 8 (oV (s.1 242 x1) fun z4 => oX z2 8 (oV (sI s 242 z2 z4) fun s6 => oZ (x1 + (1 : Int)) fun z8 => m178_2 n z8 s6)) else m178_29 zFu (0 : Int) s) = some (r_, s_) := hm
  refine z_iload_n (pc' := 3) hM178 rfl rfl rfl ?_
  refine z_iconst (pc' := 4) hM178 rfl rfl rfl ?_
  refine z_cmpge (pc' := 7) (t := 27) hM178 rfl rfl (fun h1 => ?_) (fun h1 => ?_)
  · replace hm := o_t hm h1
    refine z_aload_n (pc' := 8) hM178 rfl rfl rfl ?_
    refine z_fldR (pc' := 11) hM178 rfl (zf_12_41 hG) rfl rfl ?_
    refine z_iconst (pc' := 12) hM178 rfl rfl rfl ?_
    refine z_iload_n (pc' := 13) hM178 rfl rfl rfl ?_
    obtain ⟨z2, ez2, h3, hm⟩ := o_z hm
    refine z_iadd (pc' := 14) hM178 rfl rfl ez2 h3 ?_
    refine z_aload_n (pc' := 15) hM178 rfl rfl rfl ?_
    refine z_fldR (pc' := 18) hM178 rfl (zf_12_41 hG) rfl rfl ?_
    refine z_iload_n (pc' := 19) hM178 rfl rfl rfl ?_
    obtain ⟨h5, hm⟩ := o_x hm
    obtain ⟨z4, ez4, hm⟩ := o_v hm
    refine z_iald (pc' := 20) (zGN hG) hM178 rfl rfl h5 ez4 ?_
    obtain ⟨h7, hm⟩ := o_x hm
    obtain ⟨s6, es6, hm⟩ := o_v hm
    refine z_iast (pc' := 21) hM178 rfl rfl h7 es6 ?_
    obtain ⟨z8, ez8, h9, hm⟩ := o_z hm
    refine z_iinc (pc' := 24) (l' := [some (zr 12 0 209), some (zi z8)]) hM178 rfl rfl rfl ez8 h9 rfl rfl ?_
    refine z_goto (t := 2) hM178 rfl ?_
    exact ih hm
  · replace hm := o_f hm h1
    refine z_iconst (pc' := 28) hM178 rfl rfl rfl ?_
    refine z_istore_n (pc' := 29) (l' := [some (zr 12 0 209), some (zi (0 : Int))]) hM178 rfl rfl rfl rfl ?_
    exact c178_29 hG hm
def m178  (s : zS) : Option (Int × zS) := m178_2 zFu (0 : Int) s
set_option maxHeartbeats 4000000 in
set_option maxRecDepth 20000 in
theorem c178 {G : aHp} {d : Nat} (hG : zG G) {s : zS} {r_ : Int} {s_ : zS} (hm : m178  s = some (r_, s_)) : Zp G (d + 3) 178 0 [some (zr 12 0 209), none] [] s (zRet none s_) := by
  replace hm : (m178_2 zFu (0 : Int) s) = some (r_, s_) := hm
  refine z_iconst (pc' := 1) hM178 rfl rfl rfl ?_
  refine z_istore_n (pc' := 2) (l' := [some (zr 12 0 209), some (zi (0 : Int))]) hM178 rfl rfl rfl rfl ?_
  exact c178_2 hG hm
def m177_141  (s : zS) : Option (Int × zS) := oV (s.1 209 5) fun z1 => oV (sI s 209 7 z1) fun s2 => oV (s2.1 209 6) fun z3 => oV (sI s2 209 8 z3) fun s4 => oV (s4.1 209 5) fun z5 => if z5 = (0 : Int) then oC (m178 s4) fun z7 s8 => oV (s8.1 209 52) fun z10 => some (z10, s8) else oX (1 : Int) 6 (oV (s4.1 211 (1 : Int)) fun z11 => oZ (z11 + (1 : Int)) fun z13 => oX (1 : Int) 6 (oV (sI s4 211 (1 : Int) z13) fun s15 => some ((-1 : Int), s15)))
set_option maxRecDepth 20000 in
theorem c177_141 {G : aHp} {d : Nat} (hG : zG G) {d1 : Option zV} {s : zS} {r_ : Int} {s_ : zS} (hm : m177_141  s = some (r_, s_)) : Zp G (d + 10) 177 141 [some (zr 12 0 209), d1] [] s (zRet (some (zi r_)) s_) := by
  replace hm : (oV (s.1 209 5) fun z1 => oV (sI s 209 7 z1) fun s2 => oV (s2.1 209 6) fun z3 => oV (sI s2 209 8 z3) fun s4 => oV (s4.1 209 5) fun z5 => if z5 = (0 : Int) then oC (m178 s4) fun z7 s8 => oV (s8.1 209 52) fun z10 => some (z10, s8) else oX (1 : Int) 6 (oV (s4.1 211 (1 : Int)) fun z11 => oZ (z11 + (1 : Int)) fun z13 => oX (1 : Int) 6 (oV (sI s4 211 (1 : Int) z13) fun s15 => some ((-1 : Int), s15)))) = some (r_, s_) := hm
  refine z_aload_n (pc' := 142) hM177 rfl rfl rfl ?_
  refine z_aload_n (pc' := 143) hM177 rfl rfl rfl ?_
  obtain ⟨z1, ez1, hm⟩ := o_v hm
  refine z_fldI (pc' := 146) hM177 rfl rfl rfl ez1 ?_
  obtain ⟨s2, es2, hm⟩ := o_v hm
  refine z_putI (pc' := 149) hM177 rfl rfl rfl es2 ?_
  refine z_aload_n (pc' := 150) hM177 rfl rfl rfl ?_
  refine z_aload_n (pc' := 151) hM177 rfl rfl rfl ?_
  obtain ⟨z3, ez3, hm⟩ := o_v hm
  refine z_fldI (pc' := 154) hM177 rfl rfl rfl ez3 ?_
  obtain ⟨s4, es4, hm⟩ := o_v hm
  refine z_putI (pc' := 157) hM177 rfl rfl rfl es4 ?_
  refine z_aload_n (pc' := 158) hM177 rfl rfl rfl ?_
  obtain ⟨z5, ez5, hm⟩ := o_v hm
  refine z_fldI (pc' := 161) hM177 rfl rfl rfl ez5 ?_
  refine z_ifeq (pc' := 164) (t := 176) hM177 rfl rfl (fun h6 => ?_) (fun h6 => ?_)
  · replace hm := o_t hm h6
    refine z_aload_n (pc' := 177) hM177 rfl rfl rfl ?_
    obtain ⟨z7, s8, h9, hm⟩ := o_c hm
    refine z_cvV (d := d + 9) (pc' := 180) hM177 rfl hM178 rfl rfl rfl rfl rfl rfl (c178 (d := d + 6) hG h9) rfl ?_
    refine z_aload_n (pc' := 181) hM177 rfl rfl rfl ?_
    obtain ⟨z10, ez10, hm⟩ := o_v hm
    refine z_fldI (pc' := 184) hM177 rfl rfl rfl ez10 ?_
    cases hm
    exact z_retI hM177 rfl rfl ⟨rfl, rfl⟩
  · replace hm := o_f hm h6
    refine z_aload_n (pc' := 165) hM177 rfl rfl rfl ?_
    refine z_fldR (pc' := 168) hM177 rfl (zf_12_9 hG) rfl rfl ?_
    refine z_iconst (pc' := 169) hM177 rfl rfl rfl ?_
    refine z_dup2A (pc' := 170) hM177 rfl rfl ?_
    obtain ⟨h12, hm⟩ := o_x hm
    obtain ⟨z11, ez11, hm⟩ := o_v hm
    refine z_iald (pc' := 171) (zGN hG) hM177 rfl rfl h12 ez11 ?_
    refine z_iconst (pc' := 172) hM177 rfl rfl rfl ?_
    obtain ⟨z13, ez13, h14, hm⟩ := o_z hm
    refine z_iadd (pc' := 173) hM177 rfl rfl ez13 h14 ?_
    obtain ⟨h16, hm⟩ := o_x hm
    obtain ⟨s15, es15, hm⟩ := o_v hm
    refine z_iast (pc' := 174) hM177 rfl rfl h16 es15 ?_
    refine z_iconst (pc' := 175) hM177 rfl rfl rfl ?_
    cases hm
    exact z_retI hM177 rfl rfl ⟨rfl, rfl⟩
def m177_119 : Nat → zS → Option (Int × zS)
  | 0, _ => none
  | n + 1, s => oV (s.1 209 5) fun z1 => if z1 = (0 : Int) then oC (m156 s) fun z3 s4 => if z3 = (-1 : Int) then m177_141 s4 else oC (m176 s4) fun z7 s8 => m177_119 n s8 else m177_141 s
set_option maxRecDepth 20000 in
theorem c177_119 {G : aHp} {d : Nat} (hG : zG G) : ∀ {n : Nat} {d1 : Option zV} {s : zS} {r_ : Int} {s_ : zS}, m177_119 n  s = some (r_, s_) → Zp G (d + 10) 177 119 [some (zr 12 0 209), d1] [] s (zRet (some (zi r_)) s_) := by
  intro n
  induction n with
  | zero => intro d1 s r_ s_ hm; cases hm
  | succ n ih =>
  intro d1 s r_ s_ hm
  replace hm : (oV (s.1 209 5) fun z1 => if z1 = (0 : Int) then oC (m156 s) fun z3 s4 => if z3 = (-1 : Int) then m177_141 s4 else oC (m176 s4) fun z7 s8 => m177_119 n s8 else m177_141 s) = some (r_, s_) := hm
  refine z_aload_n (pc' := 120) hM177 rfl rfl rfl ?_
  obtain ⟨z1, ez1, hm⟩ := o_v hm
  refine z_fldI (pc' := 123) hM177 rfl rfl rfl ez1 ?_
  refine z_ifne (pc' := 126) (t := 141) hM177 rfl rfl (fun h2 => ?_) (fun h2 => ?_)
  · replace hm := o_t hm h2
    refine z_aload_n (pc' := 127) hM177 rfl rfl rfl ?_
    obtain ⟨z3, s4, h5, hm⟩ := o_c hm
    refine z_cv (d := d + 9) (pc' := 130) hM177 rfl hM156 rfl rfl rfl rfl rfl rfl (c156 (d := d + 8) hG h5) rfl ?_
    refine z_iconst (pc' := 131) hM177 rfl rfl rfl ?_
    refine z_cmpeq (pc' := 134) (t := 141) hM177 rfl rfl (fun h6 => ?_) (fun h6 => ?_)
    · replace hm := o_t hm h6
      exact c177_141 hG hm
    · replace hm := o_f hm h6
      refine z_aload_n (pc' := 135) hM177 rfl rfl rfl ?_
      obtain ⟨z7, s8, h9, hm⟩ := o_c hm
      refine z_cvV (d := d + 9) (pc' := 138) hM177 rfl hM176 rfl rfl rfl rfl rfl rfl (c176 (d := d) hG h9) rfl ?_
      refine z_goto (t := 119) hM177 rfl ?_
      exact ih hm
  · replace hm := o_f hm h2
    exact c177_141 hG hm
def m177_65 : Nat → Int → zS → Option (Int × zS)
  | 0, _, _ => none
  | n + 1, x1, s => if x1 < (49 : Int) then oX x1 98 (oV (sI s 244 x1 (0 : Int)) fun s2 => oZ (x1 + (1 : Int)) fun z4 => m177_65 n z4 s2) else oX (0 : Int) 4 (oV (sI s 249 (0 : Int) (-1 : Int)) fun s6 => oX (1 : Int) 4 (oV (sI s6 249 (1 : Int) (-1 : Int)) fun s8 => oX (0 : Int) 6 (oV (sI s8 248 (0 : Int) (0 : Int)) fun s10 => oX (1 : Int) 6 (oV (sI s10 248 (1 : Int) (3 : Int)) fun s12 => oX (2 : Int) 6 (oV (sI s12 248 (2 : Int) (0 : Int)) fun s14 => m177_119 zFu s14)))))
set_option maxRecDepth 20000 in
theorem c177_65 {G : aHp} {d : Nat} (hG : zG G) : ∀ {n : Nat} {x1 : Int} {s : zS} {r_ : Int} {s_ : zS}, m177_65 n x1 s = some (r_, s_) → Zp G (d + 10) 177 65 [some (zr 12 0 209), some (zi x1)] [] s (zRet (some (zi r_)) s_) := by
  intro n
  induction n with
  | zero => intro x1 s r_ s_ hm; cases hm
  | succ n ih =>
  intro x1 s r_ s_ hm
  replace hm : (if x1 < (49 : Int) then oX x1 98 (oV (sI s 244 x1 (0 : Int)) fun s2 => oZ (x1 + (1 : Int)) fun z4 => m177_65 n z4 s2) else oX (0 : Int) 4 (oV (sI s 249 (0 : Int) (-1 : Int)) fun s6 => oX (1 : Int) 4 (oV (sI s6 249 (1 : Int) (-1 : Int)) fun s8 => oX (0 : Int) 6 (oV (sI s8 248 (0 : Int) (0 : Int)) fun s10 => oX (1 : Int) 6 (oV (sI s10 248 (1 : Int) (3 : Int)) fun s12 => oX (2 : Int) 6 (oV (sI s12 248 (2 : Int) (0 : Int)) fun s14 => m177_119 zFu s14)))))) = some (r_, s_) := hm
  refine z_iload_n (pc' := 66) hM177 rfl rfl rfl ?_
  refine z_bipush (pc' := 68) hM177 rfl rfl rfl ?_
  refine z_cmpge (pc' := 71) (t := 84) hM177 rfl rfl (fun h1 => ?_) (fun h1 => ?_)
  · replace hm := o_t hm h1
    refine z_aload_n (pc' := 72) hM177 rfl rfl rfl ?_
    refine z_fldR (pc' := 75) hM177 rfl (zf_12_43 hG) rfl rfl ?_
    refine z_iload_n (pc' := 76) hM177 rfl rfl rfl ?_
    refine z_iconst (pc' := 77) hM177 rfl rfl rfl ?_
    obtain ⟨h3, hm⟩ := o_x hm
    obtain ⟨s2, es2, hm⟩ := o_v hm
    refine z_iast (pc' := 78) hM177 rfl rfl h3 es2 ?_
    obtain ⟨z4, ez4, h5, hm⟩ := o_z hm
    refine z_iinc (pc' := 81) (l' := [some (zr 12 0 209), some (zi z4)]) hM177 rfl rfl rfl ez4 h5 rfl rfl ?_
    refine z_goto (t := 65) hM177 rfl ?_
    exact ih hm
  · replace hm := o_f hm h1
    refine z_aload_n (pc' := 85) hM177 rfl rfl rfl ?_
    refine z_fldR (pc' := 88) hM177 rfl (zf_12_48 hG) rfl rfl ?_
    refine z_iconst (pc' := 89) hM177 rfl rfl rfl ?_
    refine z_iconst (pc' := 90) hM177 rfl rfl rfl ?_
    obtain ⟨h7, hm⟩ := o_x hm
    obtain ⟨s6, es6, hm⟩ := o_v hm
    refine z_iast (pc' := 91) hM177 rfl rfl h7 es6 ?_
    refine z_aload_n (pc' := 92) hM177 rfl rfl rfl ?_
    refine z_fldR (pc' := 95) hM177 rfl (zf_12_48 hG) rfl rfl ?_
    refine z_iconst (pc' := 96) hM177 rfl rfl rfl ?_
    refine z_iconst (pc' := 97) hM177 rfl rfl rfl ?_
    obtain ⟨h9, hm⟩ := o_x hm
    obtain ⟨s8, es8, hm⟩ := o_v hm
    refine z_iast (pc' := 98) hM177 rfl rfl h9 es8 ?_
    refine z_aload_n (pc' := 99) hM177 rfl rfl rfl ?_
    refine z_fldR (pc' := 102) hM177 rfl (zf_12_47 hG) rfl rfl ?_
    refine z_iconst (pc' := 103) hM177 rfl rfl rfl ?_
    refine z_iconst (pc' := 104) hM177 rfl rfl rfl ?_
    obtain ⟨h11, hm⟩ := o_x hm
    obtain ⟨s10, es10, hm⟩ := o_v hm
    refine z_iast (pc' := 105) hM177 rfl rfl h11 es10 ?_
    refine z_aload_n (pc' := 106) hM177 rfl rfl rfl ?_
    refine z_fldR (pc' := 109) hM177 rfl (zf_12_47 hG) rfl rfl ?_
    refine z_iconst (pc' := 110) hM177 rfl rfl rfl ?_
    refine z_iconst (pc' := 111) hM177 rfl rfl rfl ?_
    obtain ⟨h13, hm⟩ := o_x hm
    obtain ⟨s12, es12, hm⟩ := o_v hm
    refine z_iast (pc' := 112) hM177 rfl rfl h13 es12 ?_
    refine z_aload_n (pc' := 113) hM177 rfl rfl rfl ?_
    refine z_fldR (pc' := 116) hM177 rfl (zf_12_47 hG) rfl rfl ?_
    refine z_iconst (pc' := 117) hM177 rfl rfl rfl ?_
    refine z_iconst (pc' := 118) hM177 rfl rfl rfl ?_
    obtain ⟨h15, hm⟩ := o_x hm
    obtain ⟨s14, es14, hm⟩ := o_v hm
    refine z_iast (pc' := 119) hM177 rfl rfl h15 es14 ?_
    exact c177_119 hG hm
def m177_45 : Nat → Int → zS → Option (Int × zS)
  | 0, _, _ => none
  | n + 1, x1, s => if x1 < (4 : Int) then oX x1 8 (oV (sI s 242 x1 (0 : Int)) fun s2 => oZ (x1 + (1 : Int)) fun z4 => m177_45 n z4 s2) else m177_65 zFu (0 : Int) s
set_option maxRecDepth 20000 in
theorem c177_45 {G : aHp} {d : Nat} (hG : zG G) : ∀ {n : Nat} {x1 : Int} {s : zS} {r_ : Int} {s_ : zS}, m177_45 n x1 s = some (r_, s_) → Zp G (d + 10) 177 45 [some (zr 12 0 209), some (zi x1)] [] s (zRet (some (zi r_)) s_) := by
  intro n
  induction n with
  | zero => intro x1 s r_ s_ hm; cases hm
  | succ n ih =>
  intro x1 s r_ s_ hm
  replace hm : (if x1 < (4 : Int) then oX x1 8 (oV (sI s 242 x1 (0 : Int)) fun s2 => oZ (x1 + (1 : Int)) fun z4 => m177_45 n z4 s2) else m177_65 zFu (0 : Int) s) = some (r_, s_) := hm
  refine z_iload_n (pc' := 46) hM177 rfl rfl rfl ?_
  refine z_iconst (pc' := 47) hM177 rfl rfl rfl ?_
  refine z_cmpge (pc' := 50) (t := 63) hM177 rfl rfl (fun h1 => ?_) (fun h1 => ?_)
  · replace hm := o_t hm h1
    refine z_aload_n (pc' := 51) hM177 rfl rfl rfl ?_
    refine z_fldR (pc' := 54) hM177 rfl (zf_12_41 hG) rfl rfl ?_
    refine z_iload_n (pc' := 55) hM177 rfl rfl rfl ?_
    refine z_iconst (pc' := 56) hM177 rfl rfl rfl ?_
    obtain ⟨h3, hm⟩ := o_x hm
    obtain ⟨s2, es2, hm⟩ := o_v hm
    refine z_iast (pc' := 57) hM177 rfl rfl h3 es2 ?_
    obtain ⟨z4, ez4, h5, hm⟩ := o_z hm
    refine z_iinc (pc' := 60) (l' := [some (zr 12 0 209), some (zi z4)]) hM177 rfl rfl rfl ez4 h5 rfl rfl ?_
    refine z_goto (t := 45) hM177 rfl ?_
    exact ih hm
  · replace hm := o_f hm h1
    refine z_iconst (pc' := 64) hM177 rfl rfl rfl ?_
    refine z_istore_n (pc' := 65) (l' := [some (zr 12 0 209), some (zi (0 : Int))]) hM177 rfl rfl rfl rfl ?_
    exact c177_65 hG hm
def m177  (s : zS) : Option (Int × zS) := oV (s.1 209 1) fun z1 => oV (sI s 209 3 z1) fun s2 => oV (sI s2 209 1 (0 : Int)) fun s3 => oV (sI s3 209 2 (0 : Int)) fun s4 => oV (sI s4 209 4 (-1 : Int)) fun s5 => oV (sI s5 209 5 (0 : Int)) fun s6 => oV (sI s6 209 6 (-1 : Int)) fun s7 => oV (sI s7 209 52 (0 : Int)) fun s8 => oV (sI s8 209 51 (0 : Int)) fun s9 => m177_45 zFu (0 : Int) s9
set_option maxRecDepth 20000 in
theorem c177 {G : aHp} {d : Nat} (hG : zG G) {s : zS} {r_ : Int} {s_ : zS} (hm : m177  s = some (r_, s_)) : Zp G (d + 10) 177 0 [some (zr 12 0 209), none] [] s (zRet (some (zi r_)) s_) := by
  replace hm : (oV (s.1 209 1) fun z1 => oV (sI s 209 3 z1) fun s2 => oV (sI s2 209 1 (0 : Int)) fun s3 => oV (sI s3 209 2 (0 : Int)) fun s4 => oV (sI s4 209 4 (-1 : Int)) fun s5 => oV (sI s5 209 5 (0 : Int)) fun s6 => oV (sI s6 209 6 (-1 : Int)) fun s7 => oV (sI s7 209 52 (0 : Int)) fun s8 => oV (sI s8 209 51 (0 : Int)) fun s9 => m177_45 zFu (0 : Int) s9) = some (r_, s_) := hm
  refine z_aload_n (pc' := 1) hM177 rfl rfl rfl ?_
  refine z_aload_n (pc' := 2) hM177 rfl rfl rfl ?_
  obtain ⟨z1, ez1, hm⟩ := o_v hm
  refine z_fldI (pc' := 5) hM177 rfl rfl rfl ez1 ?_
  obtain ⟨s2, es2, hm⟩ := o_v hm
  refine z_putI (pc' := 8) hM177 rfl rfl rfl es2 ?_
  refine z_aload_n (pc' := 9) hM177 rfl rfl rfl ?_
  refine z_iconst (pc' := 10) hM177 rfl rfl rfl ?_
  obtain ⟨s3, es3, hm⟩ := o_v hm
  refine z_putI (pc' := 13) hM177 rfl rfl rfl es3 ?_
  refine z_aload_n (pc' := 14) hM177 rfl rfl rfl ?_
  refine z_iconst (pc' := 15) hM177 rfl rfl rfl ?_
  obtain ⟨s4, es4, hm⟩ := o_v hm
  refine z_putI (pc' := 18) hM177 rfl rfl rfl es4 ?_
  refine z_aload_n (pc' := 19) hM177 rfl rfl rfl ?_
  refine z_iconst (pc' := 20) hM177 rfl rfl rfl ?_
  obtain ⟨s5, es5, hm⟩ := o_v hm
  refine z_putI (pc' := 23) hM177 rfl rfl rfl es5 ?_
  refine z_aload_n (pc' := 24) hM177 rfl rfl rfl ?_
  refine z_iconst (pc' := 25) hM177 rfl rfl rfl ?_
  obtain ⟨s6, es6, hm⟩ := o_v hm
  refine z_putI (pc' := 28) hM177 rfl rfl rfl es6 ?_
  refine z_aload_n (pc' := 29) hM177 rfl rfl rfl ?_
  refine z_iconst (pc' := 30) hM177 rfl rfl rfl ?_
  obtain ⟨s7, es7, hm⟩ := o_v hm
  refine z_putI (pc' := 33) hM177 rfl rfl rfl es7 ?_
  refine z_aload_n (pc' := 34) hM177 rfl rfl rfl ?_
  refine z_iconst (pc' := 35) hM177 rfl rfl rfl ?_
  obtain ⟨s8, es8, hm⟩ := o_v hm
  refine z_putI (pc' := 38) hM177 rfl rfl rfl es8 ?_
  refine z_aload_n (pc' := 39) hM177 rfl rfl rfl ?_
  refine z_iconst (pc' := 40) hM177 rfl rfl rfl ?_
  obtain ⟨s9, es9, hm⟩ := o_v hm
  refine z_putI (pc' := 43) hM177 rfl rfl rfl es9 ?_
  refine z_iconst (pc' := 44) hM177 rfl rfl rfl ?_
  refine z_istore_n (pc' := 45) (l' := [some (zr 12 0 209), some (zi (0 : Int))]) hM177 rfl rfl rfl rfl ?_
  exact c177_45 hG hm
def m179 (x1 : Int) (s : zS) : Option (Int × zS) := if x1 = (0 : Int) then oV (s.1 209 7) fun z2 => some (z2, s) else if x1 = (1 : Int) then oV (s.1 209 8) fun z4 => some (z4, s) else some ((-1 : Int), s)
theorem c179 {G : aHp} {d : Nat} (hG : zG G) {x1 : Int} {s : zS} {r_ : Int} {s_ : zS} (hm : m179 x1 s = some (r_, s_)) : Zp G (d + 1) 179 0 [some (zr 12 0 209), some (zi x1)] [] s (zRet (some (zi r_)) s_) := by
  replace hm : (if x1 = (0 : Int) then oV (s.1 209 7) fun z2 => some (z2, s) else if x1 = (1 : Int) then oV (s.1 209 8) fun z4 => some (z4, s) else some ((-1 : Int), s)) = some (r_, s_) := hm
  refine z_iload_n (pc' := 1) hM179 rfl rfl rfl ?_
  refine z_ifne (pc' := 4) (t := 11) hM179 rfl rfl (fun h1 => ?_) (fun h1 => ?_)
  · replace hm := o_t hm h1
    refine z_aload_n (pc' := 5) hM179 rfl rfl rfl ?_
    obtain ⟨z2, ez2, hm⟩ := o_v hm
    refine z_fldI (pc' := 8) hM179 rfl rfl rfl ez2 ?_
    refine z_goto (t := 24) hM179 rfl ?_
    cases hm
    exact z_retI hM179 rfl rfl ⟨rfl, rfl⟩
  · replace hm := o_f hm h1
    refine z_iload_n (pc' := 12) hM179 rfl rfl rfl ?_
    refine z_iconst (pc' := 13) hM179 rfl rfl rfl ?_
    refine z_cmpne (pc' := 16) (t := 23) hM179 rfl rfl (fun h3 => ?_) (fun h3 => ?_)
    · replace hm := o_t hm h3
      refine z_aload_n (pc' := 17) hM179 rfl rfl rfl ?_
      obtain ⟨z4, ez4, hm⟩ := o_v hm
      refine z_fldI (pc' := 20) hM179 rfl rfl rfl ez4 ?_
      refine z_goto (t := 24) hM179 rfl ?_
      cases hm
      exact z_retI hM179 rfl rfl ⟨rfl, rfl⟩
    · replace hm := o_f hm h3
      refine z_iconst (pc' := 24) hM179 rfl rfl rfl ?_
      cases hm
      exact z_retI hM179 rfl rfl ⟨rfl, rfl⟩
def m182  (s : zS) : Option (Int × zS) := oX (5 : Int) 8 (oV (s.1 242 (5 : Int)) fun z1 => some (z1, s))
theorem c182 {G : aHp} {d : Nat} (hG : zG G) {s : zS} {r_ : Int} {s_ : zS} (hm : m182  s = some (r_, s_)) : Zp G (d + 1) 182 0 [some (zr 12 0 209)] [] s (zRet (some (zi r_)) s_) := by
  replace hm : (oX (5 : Int) 8 (oV (s.1 242 (5 : Int)) fun z1 => some (z1, s))) = some (r_, s_) := hm
  refine z_aload_n (pc' := 1) hM182 rfl rfl rfl ?_
  refine z_fldR (pc' := 4) hM182 rfl (zf_12_41 hG) rfl rfl ?_
  refine z_iconst (pc' := 5) hM182 rfl rfl rfl ?_
  obtain ⟨h2, hm⟩ := o_x hm
  obtain ⟨z1, ez1, hm⟩ := o_v hm
  refine z_iald (pc' := 6) (zGN hG) hM182 rfl rfl h2 ez1 ?_
  cases hm
  exact z_retI hM182 rfl rfl ⟨rfl, rfl⟩
def m184 (x1 : Int) (s : zS) : Option (Int × zS) := oC (m181 s) fun z1 s2 => oZ (z1 - (1 : Int)) fun z4 => oC (m150 x1 (0 : Int) z4 s2) fun z6 s7 => oD z6 (some (z6, s7))
theorem c184 {G : aHp} {d : Nat} (hG : zG G) {x1 : Int} {s : zS} {r_ : Int} {s_ : zS} (hm : m184 x1 s = some (r_, s_)) : Zp G (d + 2) 184 0 [some (zr 12 0 209), some (zj x1), none] [] s (zRet (some (zi r_)) s_) := by
  replace hm : (oC (m181 s) fun z1 s2 => oZ (z1 - (1 : Int)) fun z4 => oC (m150 x1 (0 : Int) z4 s2) fun z6 s7 => oD z6 (some (z6, s7))) = some (r_, s_) := hm
  refine z_lload_n (pc' := 1) hM184 rfl rfl rfl ?_
  refine z_lconst (pc' := 2) (x := (0 : Int)) hM184 rfl rfl rfl rfl ?_
  refine z_aload_n (pc' := 3) hM184 rfl rfl rfl ?_
  obtain ⟨z1, s2, h3, hm⟩ := o_c hm
  refine z_cv (d := d + 1) (pc' := 6) hM184 rfl hM181 rfl rfl rfl rfl rfl rfl (c181 (d := d) hG h3) rfl ?_
  refine z_iconst (pc' := 7) hM184 rfl rfl rfl ?_
  obtain ⟨z4, ez4, h5, hm⟩ := o_z hm
  refine z_isub (pc' := 8) hM184 rfl rfl ez4 h5 ?_
  refine z_i2l (pc' := 9) hM184 rfl rfl ?_
  obtain ⟨z6, s7, h8, hm⟩ := o_c hm
  refine z_cs (d := d + 1) (pc' := 12) hM184 rfl hM150 rfl rfl rfl rfl (c150 (d := d) hG h8) rfl ?_
  obtain ⟨h9, hm⟩ := o_d hm
  cases hm
  exact z_retZ hM184 rfl rfl h9 ⟨rfl, rfl⟩
def m185 (x1 : Int) (s : zS) : Option (Int × zS) := oC (m182 s) fun z1 s2 => oZ (z1 - (1 : Int)) fun z4 => oC (m150 x1 (0 : Int) z4 s2) fun z6 s7 => oD z6 (some (z6, s7))
theorem c185 {G : aHp} {d : Nat} (hG : zG G) {x1 : Int} {s : zS} {r_ : Int} {s_ : zS} (hm : m185 x1 s = some (r_, s_)) : Zp G (d + 2) 185 0 [some (zr 12 0 209), some (zi x1)] [] s (zRet (some (zi r_)) s_) := by
  replace hm : (oC (m182 s) fun z1 s2 => oZ (z1 - (1 : Int)) fun z4 => oC (m150 x1 (0 : Int) z4 s2) fun z6 s7 => oD z6 (some (z6, s7))) = some (r_, s_) := hm
  refine z_iload_n (pc' := 1) hM185 rfl rfl rfl ?_
  refine z_i2l (pc' := 2) hM185 rfl rfl ?_
  refine z_lconst (pc' := 3) (x := (0 : Int)) hM185 rfl rfl rfl rfl ?_
  refine z_aload_n (pc' := 4) hM185 rfl rfl rfl ?_
  obtain ⟨z1, s2, h3, hm⟩ := o_c hm
  refine z_cv (d := d + 1) (pc' := 7) hM185 rfl hM182 rfl rfl rfl rfl rfl rfl (c182 (d := d) hG h3) rfl ?_
  refine z_iconst (pc' := 8) hM185 rfl rfl rfl ?_
  obtain ⟨z4, ez4, h5, hm⟩ := o_z hm
  refine z_isub (pc' := 9) hM185 rfl rfl ez4 h5 ?_
  refine z_i2l (pc' := 10) hM185 rfl rfl ?_
  obtain ⟨z6, s7, h8, hm⟩ := o_c hm
  refine z_cs (d := d + 1) (pc' := 13) hM185 rfl hM150 rfl rfl rfl rfl (c150 (d := d) hG h8) rfl ?_
  obtain ⟨h9, hm⟩ := o_d hm
  cases hm
  exact z_retZ hM185 rfl rfl h9 ⟨rfl, rfl⟩
def m186 (x1 : Int) (s : zS) : Option (Int × zS) := oC (m183 s) fun z1 s2 => oZ (z1 - (1 : Int)) fun z4 => oC (m150 x1 (0 : Int) z4 s2) fun z6 s7 => oD z6 (some (z6, s7))
theorem c186 {G : aHp} {d : Nat} (hG : zG G) {x1 : Int} {s : zS} {r_ : Int} {s_ : zS} (hm : m186 x1 s = some (r_, s_)) : Zp G (d + 2) 186 0 [some (zr 12 0 209), some (zi x1)] [] s (zRet (some (zi r_)) s_) := by
  replace hm : (oC (m183 s) fun z1 s2 => oZ (z1 - (1 : Int)) fun z4 => oC (m150 x1 (0 : Int) z4 s2) fun z6 s7 => oD z6 (some (z6, s7))) = some (r_, s_) := hm
  refine z_iload_n (pc' := 1) hM186 rfl rfl rfl ?_
  refine z_i2l (pc' := 2) hM186 rfl rfl ?_
  refine z_lconst (pc' := 3) (x := (0 : Int)) hM186 rfl rfl rfl rfl ?_
  refine z_aload_n (pc' := 4) hM186 rfl rfl rfl ?_
  obtain ⟨z1, s2, h3, hm⟩ := o_c hm
  refine z_cv (d := d + 1) (pc' := 7) hM186 rfl hM183 rfl rfl rfl rfl rfl rfl (c183 (d := d) hG h3) rfl ?_
  refine z_iconst (pc' := 8) hM186 rfl rfl rfl ?_
  obtain ⟨z4, ez4, h5, hm⟩ := o_z hm
  refine z_isub (pc' := 9) hM186 rfl rfl ez4 h5 ?_
  refine z_i2l (pc' := 10) hM186 rfl rfl ?_
  obtain ⟨z6, s7, h8, hm⟩ := o_c hm
  refine z_cs (d := d + 1) (pc' := 13) hM186 rfl hM150 rfl rfl rfl rfl (c150 (d := d) hG h8) rfl ?_
  obtain ⟨h9, hm⟩ := o_d hm
  cases hm
  exact z_retZ hM186 rfl rfl h9 ⟨rfl, rfl⟩
def m187 (x1 : Int) (s : zS) : Option (Int × zS) := oZ ((2 : Int) + x1) fun z1 => oX z1 37 (oV (s.1 254 z1) fun z3 => some (z3, s))
theorem c187 {G : aHp} {d : Nat} (hG : zG G) {x1 : Int} {s : zS} {r_ : Int} {s_ : zS} (hm : m187 x1 s = some (r_, s_)) : Zp G (d + 1) 187 0 [some (zr 12 0 209), some (zi x1)] [] s (zRet (some (zi r_)) s_) := by
  replace hm : (oZ ((2 : Int) + x1) fun z1 => oX z1 37 (oV (s.1 254 z1) fun z3 => some (z3, s))) = some (r_, s_) := hm
  refine z_aload_n (pc' := 1) hM187 rfl rfl rfl ?_
  refine z_fldR (pc' := 4) hM187 rfl (zf_12_56 hG) rfl rfl ?_
  refine z_iconst (pc' := 5) hM187 rfl rfl rfl ?_
  refine z_iload_n (pc' := 6) hM187 rfl rfl rfl ?_
  obtain ⟨z1, ez1, h2, hm⟩ := o_z hm
  refine z_iadd (pc' := 7) hM187 rfl rfl ez1 h2 ?_
  obtain ⟨h4, hm⟩ := o_x hm
  obtain ⟨z3, ez3, hm⟩ := o_v hm
  refine z_iald (pc' := 8) (zGN hG) hM187 rfl rfl h4 ez3 ?_
  cases hm
  exact z_retI hM187 rfl rfl ⟨rfl, rfl⟩
def m189 (x1 : Int) (s : zS) : Option (Int × zS) := oZ ((3 : Int) * x1) fun z1 => oZ ((10 : Int) + z1) fun z3 => oZ (z3 + (1 : Int)) fun z5 => oX z5 37 (oV (s.1 254 z5) fun z7 => oZ (z7 - (1 : Int)) fun z9 => some (z9, s))
theorem c189 {G : aHp} {d : Nat} (hG : zG G) {x1 : Int} {s : zS} {r_ : Int} {s_ : zS} (hm : m189 x1 s = some (r_, s_)) : Zp G (d + 1) 189 0 [some (zr 12 0 209), some (zi x1)] [] s (zRet (some (zi r_)) s_) := by
  replace hm : (oZ ((3 : Int) * x1) fun z1 => oZ ((10 : Int) + z1) fun z3 => oZ (z3 + (1 : Int)) fun z5 => oX z5 37 (oV (s.1 254 z5) fun z7 => oZ (z7 - (1 : Int)) fun z9 => some (z9, s))) = some (r_, s_) := hm
  refine z_aload_n (pc' := 1) hM189 rfl rfl rfl ?_
  refine z_fldR (pc' := 4) hM189 rfl (zf_12_56 hG) rfl rfl ?_
  refine z_bipush (pc' := 6) hM189 rfl rfl rfl ?_
  refine z_iconst (pc' := 7) hM189 rfl rfl rfl ?_
  refine z_iload_n (pc' := 8) hM189 rfl rfl rfl ?_
  obtain ⟨z1, ez1, h2, hm⟩ := o_z hm
  refine z_imul (pc' := 9) hM189 rfl rfl ez1 h2 ?_
  obtain ⟨z3, ez3, h4, hm⟩ := o_z hm
  refine z_iadd (pc' := 10) hM189 rfl rfl ez3 h4 ?_
  refine z_iconst (pc' := 11) hM189 rfl rfl rfl ?_
  obtain ⟨z5, ez5, h6, hm⟩ := o_z hm
  refine z_iadd (pc' := 12) hM189 rfl rfl ez5 h6 ?_
  obtain ⟨h8, hm⟩ := o_x hm
  obtain ⟨z7, ez7, hm⟩ := o_v hm
  refine z_iald (pc' := 13) (zGN hG) hM189 rfl rfl h8 ez7 ?_
  refine z_iconst (pc' := 14) hM189 rfl rfl rfl ?_
  obtain ⟨z9, ez9, h10, hm⟩ := o_z hm
  refine z_isub (pc' := 15) hM189 rfl rfl ez9 h10 ?_
  cases hm
  exact z_retI hM189 rfl rfl ⟨rfl, rfl⟩
def m190 (x1 : Int) (s : zS) : Option (Int × zS) := oZ ((3 : Int) * x1) fun z1 => oZ ((10 : Int) + z1) fun z3 => oZ (z3 + (2 : Int)) fun z5 => oX z5 37 (oV (s.1 254 z5) fun z7 => some (z7, s))
theorem c190 {G : aHp} {d : Nat} (hG : zG G) {x1 : Int} {s : zS} {r_ : Int} {s_ : zS} (hm : m190 x1 s = some (r_, s_)) : Zp G (d + 1) 190 0 [some (zr 12 0 209), some (zi x1)] [] s (zRet (some (zi r_)) s_) := by
  replace hm : (oZ ((3 : Int) * x1) fun z1 => oZ ((10 : Int) + z1) fun z3 => oZ (z3 + (2 : Int)) fun z5 => oX z5 37 (oV (s.1 254 z5) fun z7 => some (z7, s))) = some (r_, s_) := hm
  refine z_aload_n (pc' := 1) hM190 rfl rfl rfl ?_
  refine z_fldR (pc' := 4) hM190 rfl (zf_12_56 hG) rfl rfl ?_
  refine z_bipush (pc' := 6) hM190 rfl rfl rfl ?_
  refine z_iconst (pc' := 7) hM190 rfl rfl rfl ?_
  refine z_iload_n (pc' := 8) hM190 rfl rfl rfl ?_
  obtain ⟨z1, ez1, h2, hm⟩ := o_z hm
  refine z_imul (pc' := 9) hM190 rfl rfl ez1 h2 ?_
  obtain ⟨z3, ez3, h4, hm⟩ := o_z hm
  refine z_iadd (pc' := 10) hM190 rfl rfl ez3 h4 ?_
  refine z_iconst (pc' := 11) hM190 rfl rfl rfl ?_
  obtain ⟨z5, ez5, h6, hm⟩ := o_z hm
  refine z_iadd (pc' := 12) hM190 rfl rfl ez5 h6 ?_
  obtain ⟨h8, hm⟩ := o_x hm
  obtain ⟨z7, ez7, hm⟩ := o_v hm
  refine z_iald (pc' := 13) (zGN hG) hM190 rfl rfl h8 ez7 ?_
  cases hm
  exact z_retI hM190 rfl rfl ⟨rfl, rfl⟩
def m191 (x1 : Int) (s : zS) : Option (Int × zS) := oZ ((3 : Int) * x1) fun z1 => oZ ((20 : Int) + z1) fun z3 => oX z3 36 (oV (s.1 246 z3) fun z5 => some (z5, s))
theorem c191 {G : aHp} {d : Nat} (hG : zG G) {x1 : Int} {s : zS} {r_ : Int} {s_ : zS} (hm : m191 x1 s = some (r_, s_)) : Zp G (d + 1) 191 0 [some (zr 12 0 209), some (zi x1)] [] s (zRet (some (zi r_)) s_) := by
  replace hm : (oZ ((3 : Int) * x1) fun z1 => oZ ((20 : Int) + z1) fun z3 => oX z3 36 (oV (s.1 246 z3) fun z5 => some (z5, s))) = some (r_, s_) := hm
  refine z_aload_n (pc' := 1) hM191 rfl rfl rfl ?_
  refine z_fldR (pc' := 4) hM191 rfl (zf_12_45 hG) rfl rfl ?_
  refine z_bipush (pc' := 6) hM191 rfl rfl rfl ?_
  refine z_iconst (pc' := 7) hM191 rfl rfl rfl ?_
  refine z_iload_n (pc' := 8) hM191 rfl rfl rfl ?_
  obtain ⟨z1, ez1, h2, hm⟩ := o_z hm
  refine z_imul (pc' := 9) hM191 rfl rfl ez1 h2 ?_
  obtain ⟨z3, ez3, h4, hm⟩ := o_z hm
  refine z_iadd (pc' := 10) hM191 rfl rfl ez3 h4 ?_
  obtain ⟨h6, hm⟩ := o_x hm
  obtain ⟨z5, ez5, hm⟩ := o_v hm
  refine z_iald (pc' := 11) (zGN hG) hM191 rfl rfl h6 ez5 ?_
  cases hm
  exact z_retI hM191 rfl rfl ⟨rfl, rfl⟩
def m193 (x1 : Int) (s : zS) : Option (Int × zS) := oC (m189 x1 s) fun z1 s2 => oC (m191 x1 s2) fun z4 s5 => if z1 = z4 then some ((1 : Int), s5) else some ((0 : Int), s5)
theorem c193 {G : aHp} {d : Nat} (hG : zG G) {x1 : Int} {s : zS} {r_ : Int} {s_ : zS} (hm : m193 x1 s = some (r_, s_)) : Zp G (d + 2) 193 0 [some (zr 12 0 209), some (zi x1)] [] s (zRet (some (zi r_)) s_) := by
  replace hm : (oC (m189 x1 s) fun z1 s2 => oC (m191 x1 s2) fun z4 s5 => if z1 = z4 then some ((1 : Int), s5) else some ((0 : Int), s5)) = some (r_, s_) := hm
  refine z_aload_n (pc' := 1) hM193 rfl rfl rfl ?_
  refine z_iload_n (pc' := 2) hM193 rfl rfl rfl ?_
  obtain ⟨z1, s2, h3, hm⟩ := o_c hm
  refine z_cv (d := d + 1) (pc' := 5) hM193 rfl hM189 rfl rfl rfl rfl rfl rfl (c189 (d := d) hG h3) rfl ?_
  refine z_aload_n (pc' := 6) hM193 rfl rfl rfl ?_
  refine z_iload_n (pc' := 7) hM193 rfl rfl rfl ?_
  obtain ⟨z4, s5, h6, hm⟩ := o_c hm
  refine z_cv (d := d + 1) (pc' := 10) hM193 rfl hM191 rfl rfl rfl rfl rfl rfl (c191 (d := d) hG h6) rfl ?_
  refine z_cmpne (pc' := 13) (t := 17) hM193 rfl rfl (fun h7 => ?_) (fun h7 => ?_)
  · replace hm := o_t hm h7
    refine z_iconst (pc' := 14) hM193 rfl rfl rfl ?_
    refine z_goto (t := 18) hM193 rfl ?_
    cases hm
    exact z_retZ hM193 rfl rfl (Or.inr rfl) ⟨rfl, rfl⟩
  · replace hm := o_f hm h7
    refine z_iconst (pc' := 18) hM193 rfl rfl rfl ?_
    cases hm
    exact z_retZ hM193 rfl rfl (Or.inl rfl) ⟨rfl, rfl⟩
def m194 (x1 : Int) (x2 : Int) (s : zS) : Option (Int × zS) := oZ ((3 : Int) * x1) fun z1 => oZ ((18 : Int) + z1) fun z3 => oX z3 36 (oV (s.1 246 z3) fun z5 => oZ ((3 : Int) * x2) fun z7 => oZ ((24 : Int) + z7) fun z9 => oX z9 48 (oV (s.1 245 z9) fun z11 => oZ (z5 - z11) fun z13 => if z13 < (0 : Int) then oZ (-z13) fun z16 => some (z16, s) else some (z13, s)))
theorem c194 {G : aHp} {d : Nat} (hG : zG G) {x1 : Int} {x2 : Int} {s : zS} {r_ : Int} {s_ : zS} (hm : m194 x1 x2 s = some (r_, s_)) : Zp G (d + 1) 194 0 [some (zr 12 0 209), some (zi x1), some (zi x2), none] [] s (zRet (some (zi r_)) s_) := by
  replace hm : (oZ ((3 : Int) * x1) fun z1 => oZ ((18 : Int) + z1) fun z3 => oX z3 36 (oV (s.1 246 z3) fun z5 => oZ ((3 : Int) * x2) fun z7 => oZ ((24 : Int) + z7) fun z9 => oX z9 48 (oV (s.1 245 z9) fun z11 => oZ (z5 - z11) fun z13 => if z13 < (0 : Int) then oZ (-z13) fun z16 => some (z16, s) else some (z13, s)))) = some (r_, s_) := hm
  refine z_aload_n (pc' := 1) hM194 rfl rfl rfl ?_
  refine z_fldR (pc' := 4) hM194 rfl (zf_12_45 hG) rfl rfl ?_
  refine z_bipush (pc' := 6) hM194 rfl rfl rfl ?_
  refine z_iconst (pc' := 7) hM194 rfl rfl rfl ?_
  refine z_iload_n (pc' := 8) hM194 rfl rfl rfl ?_
  obtain ⟨z1, ez1, h2, hm⟩ := o_z hm
  refine z_imul (pc' := 9) hM194 rfl rfl ez1 h2 ?_
  obtain ⟨z3, ez3, h4, hm⟩ := o_z hm
  refine z_iadd (pc' := 10) hM194 rfl rfl ez3 h4 ?_
  obtain ⟨h6, hm⟩ := o_x hm
  obtain ⟨z5, ez5, hm⟩ := o_v hm
  refine z_iald (pc' := 11) (zGN hG) hM194 rfl rfl h6 ez5 ?_
  refine z_aload_n (pc' := 12) hM194 rfl rfl rfl ?_
  refine z_fldR (pc' := 15) hM194 rfl (zf_12_44 hG) rfl rfl ?_
  refine z_bipush (pc' := 17) hM194 rfl rfl rfl ?_
  refine z_iconst (pc' := 18) hM194 rfl rfl rfl ?_
  refine z_iload_n (pc' := 19) hM194 rfl rfl rfl ?_
  obtain ⟨z7, ez7, h8, hm⟩ := o_z hm
  refine z_imul (pc' := 20) hM194 rfl rfl ez7 h8 ?_
  obtain ⟨z9, ez9, h10, hm⟩ := o_z hm
  refine z_iadd (pc' := 21) hM194 rfl rfl ez9 h10 ?_
  obtain ⟨h12, hm⟩ := o_x hm
  obtain ⟨z11, ez11, hm⟩ := o_v hm
  refine z_iald (pc' := 22) (zGN hG) hM194 rfl rfl h12 ez11 ?_
  obtain ⟨z13, ez13, h14, hm⟩ := o_z hm
  refine z_isub (pc' := 23) hM194 rfl rfl ez13 h14 ?_
  refine z_istore_n (pc' := 24) (l' := [some (zr 12 0 209), some (zi x1), some (zi x2), some (zi z13)]) hM194 rfl rfl rfl rfl ?_
  refine z_iload_n (pc' := 25) hM194 rfl rfl rfl ?_
  refine z_ifge (pc' := 28) (t := 33) hM194 rfl rfl (fun h15 => ?_) (fun h15 => ?_)
  · replace hm := o_t hm h15
    refine z_iload_n (pc' := 29) hM194 rfl rfl rfl ?_
    obtain ⟨z16, ez16, h17, hm⟩ := o_z hm
    refine z_ineg (pc' := 30) hM194 rfl rfl ez16 h17 ?_
    refine z_goto (t := 34) hM194 rfl ?_
    cases hm
    exact z_retI hM194 rfl rfl ⟨rfl, rfl⟩
  · replace hm := o_f hm h15
    refine z_iload_n (pc' := 34) hM194 rfl rfl rfl ?_
    cases hm
    exact z_retI hM194 rfl rfl ⟨rfl, rfl⟩
def m196_23 : Nat → Int → Int → zS → Option (Int × zS)
  | 0, _, _, _ => none
  | n + 1, x2, x3, s => oX (28 : Int) 37 (oV (s.1 254 (28 : Int)) fun z1 => if x3 < z1 then oZ ((29 : Int) + x3) fun z4 => oZ ((29 : Int) + x3) fun z6 => oZ (z6 + (1 : Int)) fun z8 => oX z8 37 (oV (s.1 254 z8) fun z10 => oX z4 37 (oV (sI s 254 z4 z10) fun s12 => oZ (x3 + (1 : Int)) fun z14 => m196_23 n x2 z14 s12)) else some (x2, s))
theorem c196_23 {G : aHp} {d : Nat} (hG : zG G) : ∀ {n : Nat} {x2 : Int} {x3 : Int} {d1 : Option zV} {s : zS} {r_ : Int} {s_ : zS}, m196_23 n x2 x3 s = some (r_, s_) → Zp G (d + 1) 196 23 [some (zr 12 0 209), d1, some (zi x2), some (zi x3)] [] s (zRet (some (zi r_)) s_) := by
  intro n
  induction n with
  | zero => intro x2 x3 d1 s r_ s_ hm; cases hm
  | succ n ih =>
  intro x2 x3 d1 s r_ s_ hm
  replace hm : (oX (28 : Int) 37 (oV (s.1 254 (28 : Int)) fun z1 => if x3 < z1 then oZ ((29 : Int) + x3) fun z4 => oZ ((29 : Int) + x3) fun z6 => oZ (z6 + (1 : Int)) fun z8 => oX z8 37 (oV (s.1 254 z8) fun z10 => oX z4 37 (oV (sI s 254 z4 z10) fun s12 => oZ (x3 + (1 : Int)) fun z14 => m196_23 n x2 z14 s12)) else some (x2, s))) = some (r_, s_) := hm
  refine z_iload_n (pc' := 24) hM196 rfl rfl rfl ?_
  refine z_aload_n (pc' := 25) hM196 rfl rfl rfl ?_
  refine z_fldR (pc' := 28) hM196 rfl (zf_12_56 hG) rfl rfl ?_
  refine z_bipush (pc' := 30) hM196 rfl rfl rfl ?_
  obtain ⟨h2, hm⟩ := o_x hm
  obtain ⟨z1, ez1, hm⟩ := o_v hm
  refine z_iald (pc' := 31) (zGN hG) hM196 rfl rfl h2 ez1 ?_
  refine z_cmpge (pc' := 34) (t := 60) hM196 rfl rfl (fun h3 => ?_) (fun h3 => ?_)
  · replace hm := o_t hm h3
    refine z_aload_n (pc' := 35) hM196 rfl rfl rfl ?_
    refine z_fldR (pc' := 38) hM196 rfl (zf_12_56 hG) rfl rfl ?_
    refine z_bipush (pc' := 40) hM196 rfl rfl rfl ?_
    refine z_iload_n (pc' := 41) hM196 rfl rfl rfl ?_
    obtain ⟨z4, ez4, h5, hm⟩ := o_z hm
    refine z_iadd (pc' := 42) hM196 rfl rfl ez4 h5 ?_
    refine z_aload_n (pc' := 43) hM196 rfl rfl rfl ?_
    refine z_fldR (pc' := 46) hM196 rfl (zf_12_56 hG) rfl rfl ?_
    refine z_bipush (pc' := 48) hM196 rfl rfl rfl ?_
    refine z_iload_n (pc' := 49) hM196 rfl rfl rfl ?_
    obtain ⟨z6, ez6, h7, hm⟩ := o_z hm
    refine z_iadd (pc' := 50) hM196 rfl rfl ez6 h7 ?_
    refine z_iconst (pc' := 51) hM196 rfl rfl rfl ?_
    obtain ⟨z8, ez8, h9, hm⟩ := o_z hm
    refine z_iadd (pc' := 52) hM196 rfl rfl ez8 h9 ?_
    obtain ⟨h11, hm⟩ := o_x hm
    obtain ⟨z10, ez10, hm⟩ := o_v hm
    refine z_iald (pc' := 53) (zGN hG) hM196 rfl rfl h11 ez10 ?_
    obtain ⟨h13, hm⟩ := o_x hm
    obtain ⟨s12, es12, hm⟩ := o_v hm
    refine z_iast (pc' := 54) hM196 rfl rfl h13 es12 ?_
    obtain ⟨z14, ez14, h15, hm⟩ := o_z hm
    refine z_iinc (pc' := 57) (l' := [some (zr 12 0 209), d1, some (zi x2), some (zi z14)]) hM196 rfl rfl rfl ez14 h15 rfl rfl ?_
    refine z_goto (t := 23) hM196 rfl ?_
    exact ih hm
  · replace hm := o_f hm h3
    refine z_iload_n (pc' := 61) hM196 rfl rfl rfl ?_
    cases hm
    exact z_retI hM196 rfl rfl ⟨rfl, rfl⟩
def m196 (x1 : Int) (s : zS) : Option (Int × zS) := oZ ((29 : Int) + x1) fun z1 => oX z1 37 (oV (s.1 254 z1) fun z3 => oX (28 : Int) 37 (oV (s.1 254 (28 : Int)) fun z5 => oZ (z5 - (1 : Int)) fun z7 => oX (28 : Int) 37 (oV (sI s 254 (28 : Int) z7) fun s9 => m196_23 zFu z3 x1 s9)))
theorem c196 {G : aHp} {d : Nat} (hG : zG G) {x1 : Int} {s : zS} {r_ : Int} {s_ : zS} (hm : m196 x1 s = some (r_, s_)) : Zp G (d + 1) 196 0 [some (zr 12 0 209), some (zi x1), none, none] [] s (zRet (some (zi r_)) s_) := by
  replace hm : (oZ ((29 : Int) + x1) fun z1 => oX z1 37 (oV (s.1 254 z1) fun z3 => oX (28 : Int) 37 (oV (s.1 254 (28 : Int)) fun z5 => oZ (z5 - (1 : Int)) fun z7 => oX (28 : Int) 37 (oV (sI s 254 (28 : Int) z7) fun s9 => m196_23 zFu z3 x1 s9)))) = some (r_, s_) := hm
  refine z_aload_n (pc' := 1) hM196 rfl rfl rfl ?_
  refine z_fldR (pc' := 4) hM196 rfl (zf_12_56 hG) rfl rfl ?_
  refine z_bipush (pc' := 6) hM196 rfl rfl rfl ?_
  refine z_iload_n (pc' := 7) hM196 rfl rfl rfl ?_
  obtain ⟨z1, ez1, h2, hm⟩ := o_z hm
  refine z_iadd (pc' := 8) hM196 rfl rfl ez1 h2 ?_
  obtain ⟨h4, hm⟩ := o_x hm
  obtain ⟨z3, ez3, hm⟩ := o_v hm
  refine z_iald (pc' := 9) (zGN hG) hM196 rfl rfl h4 ez3 ?_
  refine z_istore_n (pc' := 10) (l' := [some (zr 12 0 209), some (zi x1), some (zi z3), none]) hM196 rfl rfl rfl rfl ?_
  refine z_aload_n (pc' := 11) hM196 rfl rfl rfl ?_
  refine z_fldR (pc' := 14) hM196 rfl (zf_12_56 hG) rfl rfl ?_
  refine z_bipush (pc' := 16) hM196 rfl rfl rfl ?_
  refine z_dup2A (pc' := 17) hM196 rfl rfl ?_
  obtain ⟨h6, hm⟩ := o_x hm
  obtain ⟨z5, ez5, hm⟩ := o_v hm
  refine z_iald (pc' := 18) (zGN hG) hM196 rfl rfl h6 ez5 ?_
  refine z_iconst (pc' := 19) hM196 rfl rfl rfl ?_
  obtain ⟨z7, ez7, h8, hm⟩ := o_z hm
  refine z_isub (pc' := 20) hM196 rfl rfl ez7 h8 ?_
  obtain ⟨h10, hm⟩ := o_x hm
  obtain ⟨s9, es9, hm⟩ := o_v hm
  refine z_iast (pc' := 21) hM196 rfl rfl h10 es9 ?_
  refine z_iload_n (pc' := 22) hM196 rfl rfl rfl ?_
  refine z_istore_n (pc' := 23) (l' := [some (zr 12 0 209), some (zi x1), some (zi z3), some (zi x1)]) hM196 rfl rfl rfl rfl ?_
  exact c196_23 hG hm
def m269 (x1 : Int) (s : zS) : Option (Int × zS) := oV (s.1 209 106) fun z1 => oX z1 1700 (oV (sJ s 287 z1 x1) fun s2 => oV (s2.1 209 106) fun z4 => oZ (z4 + (1 : Int)) fun z5 => oV (sI s2 209 106 z5) fun s7 => some (0, s7))
theorem c269 {G : aHp} {d : Nat} (hG : zG G) {x1 : Int} {s : zS} {r_ : Int} {s_ : zS} (hm : m269 x1 s = some (r_, s_)) : Zp G (d + 1) 269 0 [some (zr 12 0 209), some (zj x1), none] [] s (zRet none s_) := by
  replace hm : (oV (s.1 209 106) fun z1 => oX z1 1700 (oV (sJ s 287 z1 x1) fun s2 => oV (s2.1 209 106) fun z4 => oZ (z4 + (1 : Int)) fun z5 => oV (sI s2 209 106 z5) fun s7 => some (0, s7))) = some (r_, s_) := hm
  refine z_aload_n (pc' := 1) hM269 rfl rfl rfl ?_
  refine z_fldR (pc' := 4) hM269 rfl (zf_12_105 hG) rfl rfl ?_
  refine z_aload_n (pc' := 5) hM269 rfl rfl rfl ?_
  obtain ⟨z1, ez1, hm⟩ := o_v hm
  refine z_fldI (pc' := 8) hM269 rfl rfl rfl ez1 ?_
  refine z_lload_n (pc' := 9) hM269 rfl rfl rfl ?_
  obtain ⟨h3, hm⟩ := o_x hm
  obtain ⟨s2, es2, hm⟩ := o_v hm
  refine z_last (pc' := 10) hM269 rfl rfl h3 es2 ?_
  refine z_aload_n (pc' := 11) hM269 rfl rfl rfl ?_
  refine z_dupA (pc' := 12) hM269 rfl rfl ?_
  obtain ⟨z4, ez4, hm⟩ := o_v hm
  refine z_fldI (pc' := 15) hM269 rfl rfl rfl ez4 ?_
  refine z_iconst (pc' := 16) hM269 rfl rfl rfl ?_
  obtain ⟨z5, ez5, h6, hm⟩ := o_z hm
  refine z_iadd (pc' := 17) hM269 rfl rfl ez5 h6 ?_
  obtain ⟨s7, es7, hm⟩ := o_v hm
  refine z_putI (pc' := 20) hM269 rfl rfl rfl es7 ?_
  cases hm
  exact z_retV hM269 rfl rfl ⟨rfl, rfl⟩
def m271 (x1 : Int) (x2 : Int) (s : zS) : Option (Int × zS) := if x1 = (0 : Int) then oV (s.1 209 53) fun z2 => if z2 = (0 : Int) then oC (m188 x2 s) fun z4 s5 => oC (m187 z4 s5) fun z7 s8 => some (z7, s8) else oV (s.1 209 58) fun z10 => some (z10, s) else if x1 = (1 : Int) then oV (s.1 209 53) fun z12 => if z12 = (0 : Int) then oC (m188 x2 s) fun z14 s15 => oC (m194 x2 z14 s15) fun z17 s18 => some (z17, s18) else oV (s.1 209 59) fun z20 => some (z20, s) else if x1 = (2 : Int) then oV (s.1 209 53) fun z22 => if z22 = (0 : Int) then oC (m190 x2 s) fun z24 s25 => some (z24, s25) else oV (s.1 209 60) fun z27 => some (z27, s) else if x1 = (3 : Int) then oV (s.1 209 53) fun z29 => if z29 = (0 : Int) then oZ ((3 : Int) * x2) fun z31 => oZ ((19 : Int) + z31) fun z33 => oX z33 36 (oV (s.1 246 z33) fun z35 => some (z35, s)) else oV (s.1 209 61) fun z37 => some (z37, s) else if x1 = (4 : Int) then oX (0 : Int) 37 (oV (s.1 254 (0 : Int)) fun z39 => some (z39, s)) else if x1 = (5 : Int) then some (x2, s) else if x1 = (6 : Int) then oZ ((3 : Int) * x2) fun z43 => oZ ((18 : Int) + z43) fun z45 => oX z45 36 (oV (s.1 246 z45) fun z47 => some (z47, s)) else if x1 = (7 : Int) then oC (m189 x2 s) fun z50 s51 => if z50 = (-1 : Int) then some ((0 : Int), s51) else some ((1 : Int), s51) else oC (m193 x2 s) fun z54 s55 => if z54 = (0 : Int) then some ((0 : Int), s55) else some ((1 : Int), s55)
set_option maxRecDepth 20000 in
theorem c271 {G : aHp} {d : Nat} (hG : zG G) {x1 : Int} {x2 : Int} {s : zS} {r_ : Int} {s_ : zS} (hm : m271 x1 x2 s = some (r_, s_)) : Zp G (d + 3) 271 0 [some (zr 12 0 209), some (zi x1), some (zi x2)] [] s (zRet (some (zj r_)) s_) := by
  replace hm : (if x1 = (0 : Int) then oV (s.1 209 53) fun z2 => if z2 = (0 : Int) then oC (m188 x2 s) fun z4 s5 => oC (m187 z4 s5) fun z7 s8 => some (z7, s8) else oV (s.1 209 58) fun z10 => some (z10, s) else if x1 = (1 : Int) then oV (s.1 209 53) fun z12 => if z12 = (0 : Int) then oC (m188 x2 s) fun z14 s15 => oC (m194 x2 z14 s15) fun z17 s18 => some (z17, s18) else oV (s.1 209 59) fun z20 => some (z20, s) else if x1 = (2 : Int) then oV (s.1 209 53) fun z22 => if z22 = (0 : Int) then oC (m190 x2 s) fun z24 s25 => some (z24, s25) else oV (s.1 209 60) fun z27 => some (z27, s) else if x1 = (3 : Int) then oV (s.1 209 53) fun z29 => if z29 = (0 : Int) then oZ ((3 : Int) * x2) fun z31 => oZ ((19 : Int) + z31) fun z33 => oX z33 36 (oV (s.1 246 z33) fun z35 => some (z35, s)) else oV (s.1 209 61) fun z37 => some (z37, s) else if x1 = (4 : Int) then oX (0 : Int) 37 (oV (s.1 254 (0 : Int)) fun z39 => some (z39, s)) else if x1 = (5 : Int) then some (x2, s) else if x1 = (6 : Int) then oZ ((3 : Int) * x2) fun z43 => oZ ((18 : Int) + z43) fun z45 => oX z45 36 (oV (s.1 246 z45) fun z47 => some (z47, s)) else if x1 = (7 : Int) then oC (m189 x2 s) fun z50 s51 => if z50 = (-1 : Int) then some ((0 : Int), s51) else some ((1 : Int), s51) else oC (m193 x2 s) fun z54 s55 => if z54 = (0 : Int) then some ((0 : Int), s55) else some ((1 : Int), s55)) = some (r_, s_) := hm
  refine z_iload_n (pc' := 1) hM271 rfl rfl rfl ?_
  refine (Decidable.em (x1 = (0 : Int))).elim (fun h1 => ?_) (fun h1 => ?_)
  · replace hm := o_t hm h1
    refine z_swT (t := 48) (c := (0 : Int)) hM271 rfl h1 (by decide) rfl rfl ?_
    refine z_aload_n (pc' := 49) hM271 rfl rfl rfl ?_
    obtain ⟨z2, ez2, hm⟩ := o_v hm
    refine z_fldZ (pc' := 52) hM271 rfl rfl rfl ez2 ?_
    refine z_ifeq (pc' := 55) (t := 63) hM271 rfl rfl (fun h3 => ?_) (fun h3 => ?_)
    · replace hm := o_t hm h3
      refine z_aload_n (pc' := 64) hM271 rfl rfl rfl ?_
      refine z_aload_n (pc' := 65) hM271 rfl rfl rfl ?_
      refine z_iload_n (pc' := 66) hM271 rfl rfl rfl ?_
      obtain ⟨z4, s5, h6, hm⟩ := o_c hm
      refine z_cv (d := d + 2) (pc' := 69) hM271 rfl hM188 rfl rfl rfl rfl rfl rfl (c188 (d := d + 1) hG h6) rfl ?_
      obtain ⟨z7, s8, h9, hm⟩ := o_c hm
      refine z_cv (d := d + 2) (pc' := 72) hM271 rfl hM187 rfl rfl rfl rfl rfl rfl (c187 (d := d + 1) hG h9) rfl ?_
      refine z_i2l (pc' := 73) hM271 rfl rfl ?_
      cases hm
      exact z_retJ hM271 rfl rfl ⟨rfl, rfl⟩
    · replace hm := o_f hm h3
      refine z_aload_n (pc' := 56) hM271 rfl rfl rfl ?_
      obtain ⟨z10, ez10, hm⟩ := o_v hm
      refine z_fldI (pc' := 59) hM271 rfl rfl rfl ez10 ?_
      refine z_i2l (pc' := 60) hM271 rfl rfl ?_
      refine z_goto (t := 73) hM271 rfl ?_
      cases hm
      exact z_retJ hM271 rfl rfl ⟨rfl, rfl⟩
  replace hm := o_f hm h1
  refine (Decidable.em (x1 = (1 : Int))).elim (fun h11 => ?_) (fun h11 => ?_)
  · replace hm := o_t hm h11
    refine z_swT (t := 74) (c := (1 : Int)) hM271 rfl h11 (by decide) rfl rfl ?_
    refine z_aload_n (pc' := 75) hM271 rfl rfl rfl ?_
    obtain ⟨z12, ez12, hm⟩ := o_v hm
    refine z_fldZ (pc' := 78) hM271 rfl rfl rfl ez12 ?_
    refine z_ifeq (pc' := 81) (t := 89) hM271 rfl rfl (fun h13 => ?_) (fun h13 => ?_)
    · replace hm := o_t hm h13
      refine z_aload_n (pc' := 90) hM271 rfl rfl rfl ?_
      refine z_iload_n (pc' := 91) hM271 rfl rfl rfl ?_
      refine z_aload_n (pc' := 92) hM271 rfl rfl rfl ?_
      refine z_iload_n (pc' := 93) hM271 rfl rfl rfl ?_
      obtain ⟨z14, s15, h16, hm⟩ := o_c hm
      refine z_cv (d := d + 2) (pc' := 96) hM271 rfl hM188 rfl rfl rfl rfl rfl rfl (c188 (d := d + 1) hG h16) rfl ?_
      obtain ⟨z17, s18, h19, hm⟩ := o_c hm
      refine z_cv (d := d + 2) (pc' := 99) hM271 rfl hM194 rfl rfl rfl rfl rfl rfl (c194 (d := d + 1) hG h19) rfl ?_
      refine z_i2l (pc' := 100) hM271 rfl rfl ?_
      cases hm
      exact z_retJ hM271 rfl rfl ⟨rfl, rfl⟩
    · replace hm := o_f hm h13
      refine z_aload_n (pc' := 82) hM271 rfl rfl rfl ?_
      obtain ⟨z20, ez20, hm⟩ := o_v hm
      refine z_fldI (pc' := 85) hM271 rfl rfl rfl ez20 ?_
      refine z_i2l (pc' := 86) hM271 rfl rfl ?_
      refine z_goto (t := 100) hM271 rfl ?_
      cases hm
      exact z_retJ hM271 rfl rfl ⟨rfl, rfl⟩
  replace hm := o_f hm h11
  refine (Decidable.em (x1 = (2 : Int))).elim (fun h21 => ?_) (fun h21 => ?_)
  · replace hm := o_t hm h21
    refine z_swT (t := 101) (c := (2 : Int)) hM271 rfl h21 (by decide) rfl rfl ?_
    refine z_aload_n (pc' := 102) hM271 rfl rfl rfl ?_
    obtain ⟨z22, ez22, hm⟩ := o_v hm
    refine z_fldZ (pc' := 105) hM271 rfl rfl rfl ez22 ?_
    refine z_ifeq (pc' := 108) (t := 116) hM271 rfl rfl (fun h23 => ?_) (fun h23 => ?_)
    · replace hm := o_t hm h23
      refine z_aload_n (pc' := 117) hM271 rfl rfl rfl ?_
      refine z_iload_n (pc' := 118) hM271 rfl rfl rfl ?_
      obtain ⟨z24, s25, h26, hm⟩ := o_c hm
      refine z_cv (d := d + 2) (pc' := 121) hM271 rfl hM190 rfl rfl rfl rfl rfl rfl (c190 (d := d + 1) hG h26) rfl ?_
      refine z_i2l (pc' := 122) hM271 rfl rfl ?_
      cases hm
      exact z_retJ hM271 rfl rfl ⟨rfl, rfl⟩
    · replace hm := o_f hm h23
      refine z_aload_n (pc' := 109) hM271 rfl rfl rfl ?_
      obtain ⟨z27, ez27, hm⟩ := o_v hm
      refine z_fldI (pc' := 112) hM271 rfl rfl rfl ez27 ?_
      refine z_i2l (pc' := 113) hM271 rfl rfl ?_
      refine z_goto (t := 122) hM271 rfl ?_
      cases hm
      exact z_retJ hM271 rfl rfl ⟨rfl, rfl⟩
  replace hm := o_f hm h21
  refine (Decidable.em (x1 = (3 : Int))).elim (fun h28 => ?_) (fun h28 => ?_)
  · replace hm := o_t hm h28
    refine z_swT (t := 123) (c := (3 : Int)) hM271 rfl h28 (by decide) rfl rfl ?_
    refine z_aload_n (pc' := 124) hM271 rfl rfl rfl ?_
    obtain ⟨z29, ez29, hm⟩ := o_v hm
    refine z_fldZ (pc' := 127) hM271 rfl rfl rfl ez29 ?_
    refine z_ifeq (pc' := 130) (t := 138) hM271 rfl rfl (fun h30 => ?_) (fun h30 => ?_)
    · replace hm := o_t hm h30
      refine z_aload_n (pc' := 139) hM271 rfl rfl rfl ?_
      refine z_fldR (pc' := 142) hM271 rfl (zf_12_45 hG) rfl rfl ?_
      refine z_bipush (pc' := 144) hM271 rfl rfl rfl ?_
      refine z_iconst (pc' := 145) hM271 rfl rfl rfl ?_
      refine z_iload_n (pc' := 146) hM271 rfl rfl rfl ?_
      obtain ⟨z31, ez31, h32, hm⟩ := o_z hm
      refine z_imul (pc' := 147) hM271 rfl rfl ez31 h32 ?_
      obtain ⟨z33, ez33, h34, hm⟩ := o_z hm
      refine z_iadd (pc' := 148) hM271 rfl rfl ez33 h34 ?_
      obtain ⟨h36, hm⟩ := o_x hm
      obtain ⟨z35, ez35, hm⟩ := o_v hm
      refine z_iald (pc' := 149) (zGN hG) hM271 rfl rfl h36 ez35 ?_
      refine z_i2l (pc' := 150) hM271 rfl rfl ?_
      cases hm
      exact z_retJ hM271 rfl rfl ⟨rfl, rfl⟩
    · replace hm := o_f hm h30
      refine z_aload_n (pc' := 131) hM271 rfl rfl rfl ?_
      obtain ⟨z37, ez37, hm⟩ := o_v hm
      refine z_fldI (pc' := 134) hM271 rfl rfl rfl ez37 ?_
      refine z_i2l (pc' := 135) hM271 rfl rfl ?_
      refine z_goto (t := 150) hM271 rfl ?_
      cases hm
      exact z_retJ hM271 rfl rfl ⟨rfl, rfl⟩
  replace hm := o_f hm h28
  refine (Decidable.em (x1 = (4 : Int))).elim (fun h38 => ?_) (fun h38 => ?_)
  · replace hm := o_t hm h38
    refine z_swT (t := 151) (c := (4 : Int)) hM271 rfl h38 (by decide) rfl rfl ?_
    refine z_aload_n (pc' := 152) hM271 rfl rfl rfl ?_
    refine z_fldR (pc' := 155) hM271 rfl (zf_12_56 hG) rfl rfl ?_
    refine z_iconst (pc' := 156) hM271 rfl rfl rfl ?_
    obtain ⟨h40, hm⟩ := o_x hm
    obtain ⟨z39, ez39, hm⟩ := o_v hm
    refine z_iald (pc' := 157) (zGN hG) hM271 rfl rfl h40 ez39 ?_
    refine z_i2l (pc' := 158) hM271 rfl rfl ?_
    cases hm
    exact z_retJ hM271 rfl rfl ⟨rfl, rfl⟩
  replace hm := o_f hm h38
  refine (Decidable.em (x1 = (5 : Int))).elim (fun h41 => ?_) (fun h41 => ?_)
  · replace hm := o_t hm h41
    refine z_swT (t := 159) (c := (5 : Int)) hM271 rfl h41 (by decide) rfl rfl ?_
    refine z_iload_n (pc' := 160) hM271 rfl rfl rfl ?_
    refine z_i2l (pc' := 161) hM271 rfl rfl ?_
    cases hm
    exact z_retJ hM271 rfl rfl ⟨rfl, rfl⟩
  replace hm := o_f hm h41
  refine (Decidable.em (x1 = (6 : Int))).elim (fun h42 => ?_) (fun h42 => ?_)
  · replace hm := o_t hm h42
    refine z_swT (t := 162) (c := (6 : Int)) hM271 rfl h42 (by decide) rfl rfl ?_
    refine z_aload_n (pc' := 163) hM271 rfl rfl rfl ?_
    refine z_fldR (pc' := 166) hM271 rfl (zf_12_45 hG) rfl rfl ?_
    refine z_bipush (pc' := 168) hM271 rfl rfl rfl ?_
    refine z_iconst (pc' := 169) hM271 rfl rfl rfl ?_
    refine z_iload_n (pc' := 170) hM271 rfl rfl rfl ?_
    obtain ⟨z43, ez43, h44, hm⟩ := o_z hm
    refine z_imul (pc' := 171) hM271 rfl rfl ez43 h44 ?_
    obtain ⟨z45, ez45, h46, hm⟩ := o_z hm
    refine z_iadd (pc' := 172) hM271 rfl rfl ez45 h46 ?_
    obtain ⟨h48, hm⟩ := o_x hm
    obtain ⟨z47, ez47, hm⟩ := o_v hm
    refine z_iald (pc' := 173) (zGN hG) hM271 rfl rfl h48 ez47 ?_
    refine z_i2l (pc' := 174) hM271 rfl rfl ?_
    cases hm
    exact z_retJ hM271 rfl rfl ⟨rfl, rfl⟩
  replace hm := o_f hm h42
  refine (Decidable.em (x1 = (7 : Int))).elim (fun h49 => ?_) (fun h49 => ?_)
  · replace hm := o_t hm h49
    refine z_swT (t := 175) (c := (7 : Int)) hM271 rfl h49 (by decide) rfl rfl ?_
    refine z_aload_n (pc' := 176) hM271 rfl rfl rfl ?_
    refine z_iload_n (pc' := 177) hM271 rfl rfl rfl ?_
    obtain ⟨z50, s51, h52, hm⟩ := o_c hm
    refine z_cv (d := d + 2) (pc' := 180) hM271 rfl hM189 rfl rfl rfl rfl rfl rfl (c189 (d := d + 1) hG h52) rfl ?_
    refine z_iconst (pc' := 181) hM271 rfl rfl rfl ?_
    refine z_cmpne (pc' := 184) (t := 188) hM271 rfl rfl (fun h53 => ?_) (fun h53 => ?_)
    · replace hm := o_t hm h53
      refine z_lconst (pc' := 185) (x := (0 : Int)) hM271 rfl rfl rfl rfl ?_
      refine z_goto (t := 189) hM271 rfl ?_
      cases hm
      exact z_retJ hM271 rfl rfl ⟨rfl, rfl⟩
    · replace hm := o_f hm h53
      refine z_lconst (pc' := 189) (x := (1 : Int)) hM271 rfl rfl rfl rfl ?_
      cases hm
      exact z_retJ hM271 rfl rfl ⟨rfl, rfl⟩
  replace hm := o_f hm h49
  refine z_swF (t := 190) hM271 rfl (by omega) rfl ?_
  refine z_aload_n (pc' := 191) hM271 rfl rfl rfl ?_
  refine z_iload_n (pc' := 192) hM271 rfl rfl rfl ?_
  obtain ⟨z54, s55, h56, hm⟩ := o_c hm
  refine z_cv (d := d + 2) (pc' := 195) hM271 rfl hM193 rfl rfl rfl rfl rfl rfl (c193 (d := d) hG h56) rfl ?_
  refine z_ifeq (pc' := 198) (t := 202) hM271 rfl rfl (fun h57 => ?_) (fun h57 => ?_)
  · replace hm := o_t hm h57
    refine z_lconst (pc' := 203) (x := (0 : Int)) hM271 rfl rfl rfl rfl ?_
    cases hm
    exact z_retJ hM271 rfl rfl ⟨rfl, rfl⟩
  · replace hm := o_f hm h57
    refine z_lconst (pc' := 199) (x := (1 : Int)) hM271 rfl rfl rfl rfl ?_
    refine z_goto (t := 203) hM271 rfl ?_
    cases hm
    exact z_retJ hM271 rfl rfl ⟨rfl, rfl⟩
