/-! ===== methods (by gen_mir.py) ===== -/
def m252 (x0 : Int) (s : zS) : Option (Int × zS) := if x0 < (20 : Int) then some ((0 : Int), s) else if (24 : Int) < x0 then some ((0 : Int), s) else some ((1 : Int), s)
theorem c252 {G : aHp} {d : Nat} (hG : zG G) {x0 : Int} {s : zS} {r_ : Int} {s_ : zS} (hm : m252 x0 s = some (r_, s_)) : Zp G (d + 1) 252 0 [some (zi x0)] [] s (zRet (some (zi r_)) s_) := by
  replace hm : (if x0 < (20 : Int) then some ((0 : Int), s) else if (24 : Int) < x0 then some ((0 : Int), s) else some ((1 : Int), s)) = some (r_, s_) := hm
  refine z_iload_n (pc' := 1) hM252 rfl rfl rfl ?_
  refine z_bipush (pc' := 3) hM252 rfl rfl rfl ?_
  refine z_cmplt (pc' := 6) (t := 16) hM252 rfl rfl (fun h1 => ?_) (fun h1 => ?_)
  · replace hm := o_t hm h1
    refine z_iconst (pc' := 17) hM252 rfl rfl rfl ?_
    cases hm
    exact z_retZ hM252 rfl rfl (Or.inl rfl) ⟨rfl, rfl⟩
  · replace hm := o_f hm h1
    refine z_iload_n (pc' := 7) hM252 rfl rfl rfl ?_
    refine z_bipush (pc' := 9) hM252 rfl rfl rfl ?_
    refine z_cmpgt (pc' := 12) (t := 16) hM252 rfl rfl (fun h2 => ?_) (fun h2 => ?_)
    · replace hm := o_t hm h2
      refine z_iconst (pc' := 17) hM252 rfl rfl rfl ?_
      cases hm
      exact z_retZ hM252 rfl rfl (Or.inl rfl) ⟨rfl, rfl⟩
    · replace hm := o_f hm h2
      refine z_iconst (pc' := 13) hM252 rfl rfl rfl ?_
      refine z_goto (t := 17) hM252 rfl ?_
      cases hm
      exact z_retZ hM252 rfl rfl (Or.inr rfl) ⟨rfl, rfl⟩
def m253_33 (x1 : Int) (s : zS) : Option (Int × zS) := oV (s.1 209 104) fun z1 => if x1 < z1 then some ((-1 : Int), s) else oX x1 1700 (oV (s.1 286 x1) fun z3 => some (z3, s))
theorem c253_33 {G : aHp} {d : Nat} (hG : zG G) {x1 : Int} {s : zS} {r_ : Int} {s_ : zS} (hm : m253_33 x1 s = some (r_, s_)) : Zp G (d + 2) 253 33 [some (zr 12 0 209), some (zi x1)] [] s (zRet (some (zi r_)) s_) := by
  replace hm : (oV (s.1 209 104) fun z1 => if x1 < z1 then some ((-1 : Int), s) else oX x1 1700 (oV (s.1 286 x1) fun z3 => some (z3, s))) = some (r_, s_) := hm
  refine z_iload_n (pc' := 34) hM253 rfl rfl rfl ?_
  refine z_aload_n (pc' := 35) hM253 rfl rfl rfl ?_
  obtain ⟨z1, ez1, hm⟩ := o_v hm
  refine z_fldI (pc' := 38) hM253 rfl rfl rfl ez1 ?_
  refine z_cmplt (pc' := 41) (t := 50) hM253 rfl rfl (fun h2 => ?_) (fun h2 => ?_)
  · replace hm := o_t hm h2
    refine z_iconst (pc' := 51) hM253 rfl rfl rfl ?_
    cases hm
    exact z_retI hM253 rfl rfl ⟨rfl, rfl⟩
  · replace hm := o_f hm h2
    refine z_aload_n (pc' := 42) hM253 rfl rfl rfl ?_
    refine z_fldR (pc' := 45) hM253 rfl (zf_12_101 hG) rfl rfl ?_
    refine z_iload_n (pc' := 46) hM253 rfl rfl rfl ?_
    obtain ⟨h4, hm⟩ := o_x hm
    obtain ⟨z3, ez3, hm⟩ := o_v hm
    refine z_iald (pc' := 47) (zGN hG) hM253 rfl rfl h4 ez3 ?_
    refine z_goto (t := 51) hM253 rfl ?_
    cases hm
    exact z_retI hM253 rfl rfl ⟨rfl, rfl⟩
def m253_7 : Nat → Int → zS → Option (Int × zS)
  | 0, _, _ => none
  | n + 1, x1, s => oV (s.1 209 104) fun z1 => if x1 < z1 then m253_33 x1 s else oX x1 1700 (oV (s.1 286 x1) fun z3 => oC (m252 z3 s) fun z5 s6 => if z5 = (0 : Int) then oZ (x1 + (-1 : Int)) fun z9 => m253_7 n z9 s6 else m253_33 x1 s6)
theorem c253_7 {G : aHp} {d : Nat} (hG : zG G) : ∀ {n : Nat} {x1 : Int} {s : zS} {r_ : Int} {s_ : zS}, m253_7 n x1 s = some (r_, s_) → Zp G (d + 2) 253 7 [some (zr 12 0 209), some (zi x1)] [] s (zRet (some (zi r_)) s_) := by
  intro n
  induction n with
  | zero => intro x1 s r_ s_ hm; cases hm
  | succ n ih =>
  intro x1 s r_ s_ hm
  replace hm : (oV (s.1 209 104) fun z1 => if x1 < z1 then m253_33 x1 s else oX x1 1700 (oV (s.1 286 x1) fun z3 => oC (m252 z3 s) fun z5 s6 => if z5 = (0 : Int) then oZ (x1 + (-1 : Int)) fun z9 => m253_7 n z9 s6 else m253_33 x1 s6)) = some (r_, s_) := hm
  refine z_iload_n (pc' := 8) hM253 rfl rfl rfl ?_
  refine z_aload_n (pc' := 9) hM253 rfl rfl rfl ?_
  obtain ⟨z1, ez1, hm⟩ := o_v hm
  refine z_fldI (pc' := 12) hM253 rfl rfl rfl ez1 ?_
  refine z_cmplt (pc' := 15) (t := 33) hM253 rfl rfl (fun h2 => ?_) (fun h2 => ?_)
  · replace hm := o_t hm h2
    exact c253_33 hG hm
  · replace hm := o_f hm h2
    refine z_aload_n (pc' := 16) hM253 rfl rfl rfl ?_
    refine z_fldR (pc' := 19) hM253 rfl (zf_12_101 hG) rfl rfl ?_
    refine z_iload_n (pc' := 20) hM253 rfl rfl rfl ?_
    obtain ⟨h4, hm⟩ := o_x hm
    obtain ⟨z3, ez3, hm⟩ := o_v hm
    refine z_iald (pc' := 21) (zGN hG) hM253 rfl rfl h4 ez3 ?_
    obtain ⟨z5, s6, h7, hm⟩ := o_c hm
    refine z_cs (d := d + 1) (pc' := 24) hM253 rfl hM252 rfl rfl rfl rfl (c252 (d := d) hG h7) rfl ?_
    refine z_ifne (pc' := 27) (t := 33) hM253 rfl rfl (fun h8 => ?_) (fun h8 => ?_)
    · replace hm := o_t hm h8
      obtain ⟨z9, ez9, h10, hm⟩ := o_z hm
      refine z_iinc (pc' := 30) (l' := [some (zr 12 0 209), some (zi z9)]) hM253 rfl rfl rfl ez9 h10 rfl rfl ?_
      refine z_goto (t := 7) hM253 rfl ?_
      exact ih hm
    · replace hm := o_f hm h8
      exact c253_33 hG hm
def m253  (s : zS) : Option (Int × zS) := oV (s.1 209 102) fun z1 => oZ (z1 - (1 : Int)) fun z2 => m253_7 zFu z2 s
theorem c253 {G : aHp} {d : Nat} (hG : zG G) {s : zS} {r_ : Int} {s_ : zS} (hm : m253  s = some (r_, s_)) : Zp G (d + 2) 253 0 [some (zr 12 0 209), none] [] s (zRet (some (zi r_)) s_) := by
  replace hm : (oV (s.1 209 102) fun z1 => oZ (z1 - (1 : Int)) fun z2 => m253_7 zFu z2 s) = some (r_, s_) := hm
  refine z_aload_n (pc' := 1) hM253 rfl rfl rfl ?_
  obtain ⟨z1, ez1, hm⟩ := o_v hm
  refine z_fldI (pc' := 4) hM253 rfl rfl rfl ez1 ?_
  refine z_iconst (pc' := 5) hM253 rfl rfl rfl ?_
  obtain ⟨z2, ez2, h3, hm⟩ := o_z hm
  refine z_isub (pc' := 6) hM253 rfl rfl ez2 h3 ?_
  refine z_istore_n (pc' := 7) (l' := [some (zr 12 0 209), some (zi z2)]) hM253 rfl rfl rfl rfl ?_
  exact c253_7 hG hm
def m254_0 : Nat → zS → Option (Int × zS)
  | 0, _ => none
  | n + 1, s => oV (s.1 209 102) fun z1 => oV (s.1 209 104) fun z2 => if z2 < z1 then oV (s.1 209 102) fun z4 => oZ (z4 - (1 : Int)) fun z5 => oX z5 1700 (oV (s.1 286 z5) fun z7 => oC (m252 z7 s) fun z9 s10 => if z9 = (0 : Int) then oC (m251 s10) fun z13 s14 => m254_0 n s14 else some (0, s10)) else some (0, s)
theorem c254_0 {G : aHp} {d : Nat} (hG : zG G) : ∀ {n : Nat} {s : zS} {r_ : Int} {s_ : zS}, m254_0 n  s = some (r_, s_) → Zp G (d + 3) 254 0 [some (zr 12 0 209)] [] s (zRet none s_) := by
  intro n
  induction n with
  | zero => intro  s r_ s_ hm; cases hm
  | succ n ih =>
  intro  s r_ s_ hm
  replace hm : (oV (s.1 209 102) fun z1 => oV (s.1 209 104) fun z2 => if z2 < z1 then oV (s.1 209 102) fun z4 => oZ (z4 - (1 : Int)) fun z5 => oX z5 1700 (oV (s.1 286 z5) fun z7 => oC (m252 z7 s) fun z9 s10 => if z9 = (0 : Int) then oC (m251 s10) fun z13 s14 => m254_0 n s14 else some (0, s10)) else some (0, s)) = some (r_, s_) := hm
  refine z_aload_n (pc' := 1) hM254 rfl rfl rfl ?_
  obtain ⟨z1, ez1, hm⟩ := o_v hm
  refine z_fldI (pc' := 4) hM254 rfl rfl rfl ez1 ?_
  refine z_aload_n (pc' := 5) hM254 rfl rfl rfl ?_
  obtain ⟨z2, ez2, hm⟩ := o_v hm
  refine z_fldI (pc' := 8) hM254 rfl rfl rfl ez2 ?_
  refine z_cmple (pc' := 11) (t := 35) hM254 rfl rfl (fun h3 => ?_) (fun h3 => ?_)
  · replace hm := o_t hm h3
    refine z_aload_n (pc' := 12) hM254 rfl rfl rfl ?_
    refine z_fldR (pc' := 15) hM254 rfl (zf_12_101 hG) rfl rfl ?_
    refine z_aload_n (pc' := 16) hM254 rfl rfl rfl ?_
    obtain ⟨z4, ez4, hm⟩ := o_v hm
    refine z_fldI (pc' := 19) hM254 rfl rfl rfl ez4 ?_
    refine z_iconst (pc' := 20) hM254 rfl rfl rfl ?_
    obtain ⟨z5, ez5, h6, hm⟩ := o_z hm
    refine z_isub (pc' := 21) hM254 rfl rfl ez5 h6 ?_
    obtain ⟨h8, hm⟩ := o_x hm
    obtain ⟨z7, ez7, hm⟩ := o_v hm
    refine z_iald (pc' := 22) (zGN hG) hM254 rfl rfl h8 ez7 ?_
    obtain ⟨z9, s10, h11, hm⟩ := o_c hm
    refine z_cs (d := d + 2) (pc' := 25) hM254 rfl hM252 rfl rfl rfl rfl (c252 (d := d + 1) hG h11) rfl ?_
    refine z_ifne (pc' := 28) (t := 35) hM254 rfl rfl (fun h12 => ?_) (fun h12 => ?_)
    · replace hm := o_t hm h12
      refine z_aload_n (pc' := 29) hM254 rfl rfl rfl ?_
      obtain ⟨z13, s14, h15, hm⟩ := o_c hm
      refine z_cvV (d := d + 2) (pc' := 32) hM254 rfl hM251 rfl rfl rfl rfl rfl rfl (c251 (d := d) hG h15) rfl ?_
      refine z_goto (t := 0) hM254 rfl ?_
      exact ih hm
    · replace hm := o_f hm h12
      cases hm
      exact z_retV hM254 rfl rfl ⟨rfl, rfl⟩
  · replace hm := o_f hm h3
    cases hm
    exact z_retV hM254 rfl rfl ⟨rfl, rfl⟩
def m254  (s : zS) : Option (Int × zS) := m254_0 zFu s
theorem c254 {G : aHp} {d : Nat} (hG : zG G) {s : zS} {r_ : Int} {s_ : zS} (hm : m254  s = some (r_, s_)) : Zp G (d + 3) 254 0 [some (zr 12 0 209)] [] s (zRet none s_) :=
  c254_0 hG hm
def m250 (x1 : Int) (s : zS) : Option (Int × zS) := oV (s.1 209 102) fun z1 => if (0 : Int) < z1 then oV (s.1 209 102) fun z3 => oZ (z3 - (1 : Int)) fun z4 => oX z4 1700 (oV (s.1 286 z4) fun z6 => if z6 = x1 then some ((1 : Int), s) else some ((0 : Int), s)) else some ((0 : Int), s)
theorem c250 {G : aHp} {d : Nat} (hG : zG G) {x1 : Int} {s : zS} {r_ : Int} {s_ : zS} (hm : m250 x1 s = some (r_, s_)) : Zp G (d + 1) 250 0 [some (zr 12 0 209), some (zi x1)] [] s (zRet (some (zi r_)) s_) := by
  replace hm : (oV (s.1 209 102) fun z1 => if (0 : Int) < z1 then oV (s.1 209 102) fun z3 => oZ (z3 - (1 : Int)) fun z4 => oX z4 1700 (oV (s.1 286 z4) fun z6 => if z6 = x1 then some ((1 : Int), s) else some ((0 : Int), s)) else some ((0 : Int), s)) = some (r_, s_) := hm
  refine z_aload_n (pc' := 1) hM250 rfl rfl rfl ?_
  obtain ⟨z1, ez1, hm⟩ := o_v hm
  refine z_fldI (pc' := 4) hM250 rfl rfl rfl ez1 ?_
  refine z_ifle (pc' := 7) (t := 26) hM250 rfl rfl (fun h2 => ?_) (fun h2 => ?_)
  · replace hm := o_t hm h2
    refine z_aload_n (pc' := 8) hM250 rfl rfl rfl ?_
    refine z_fldR (pc' := 11) hM250 rfl (zf_12_101 hG) rfl rfl ?_
    refine z_aload_n (pc' := 12) hM250 rfl rfl rfl ?_
    obtain ⟨z3, ez3, hm⟩ := o_v hm
    refine z_fldI (pc' := 15) hM250 rfl rfl rfl ez3 ?_
    refine z_iconst (pc' := 16) hM250 rfl rfl rfl ?_
    obtain ⟨z4, ez4, h5, hm⟩ := o_z hm
    refine z_isub (pc' := 17) hM250 rfl rfl ez4 h5 ?_
    obtain ⟨h7, hm⟩ := o_x hm
    obtain ⟨z6, ez6, hm⟩ := o_v hm
    refine z_iald (pc' := 18) (zGN hG) hM250 rfl rfl h7 ez6 ?_
    refine z_iload_n (pc' := 19) hM250 rfl rfl rfl ?_
    refine z_cmpne (pc' := 22) (t := 26) hM250 rfl rfl (fun h8 => ?_) (fun h8 => ?_)
    · replace hm := o_t hm h8
      refine z_iconst (pc' := 23) hM250 rfl rfl rfl ?_
      refine z_goto (t := 27) hM250 rfl ?_
      cases hm
      exact z_retZ hM250 rfl rfl (Or.inr rfl) ⟨rfl, rfl⟩
    · replace hm := o_f hm h8
      refine z_iconst (pc' := 27) hM250 rfl rfl rfl ?_
      cases hm
      exact z_retZ hM250 rfl rfl (Or.inl rfl) ⟨rfl, rfl⟩
  · replace hm := o_f hm h2
    refine z_iconst (pc' := 27) hM250 rfl rfl rfl ?_
    cases hm
    exact z_retZ hM250 rfl rfl (Or.inl rfl) ⟨rfl, rfl⟩
def m260_326  (s : zS) : Option (Int × zS) := oC (m161 (44 : Int) s) fun z1 s2 => oV (s2.1 209 5) fun z4 => if z4 = (0 : Int) then oC (m254 s2) fun z6 s7 => oV (s7.1 209 102) fun z9 => oZ (z9 - (1 : Int)) fun z10 => oX z10 1700 (oV (s7.1 286 z10) fun z12 => oZ (z12 + (2 : Int)) fun z14 => oX z10 1700 (oV (sI s7 286 z10 z14) fun s16 => some ((1 : Int), s16))) else some ((0 : Int), s2)
set_option maxHeartbeats 4000000 in
set_option maxRecDepth 20000 in
theorem c260_326 {G : aHp} {d : Nat} (hG : zG G) {d1 : Option zV} {s : zS} {r_ : Int} {s_ : zS} (hm : m260_326  s = some (r_, s_)) : Zp G (d + 4) 260 326 [some (zr 12 0 209), d1] [] s (zRet (some (zi r_)) s_) := by
  replace hm : (oC (m161 (44 : Int) s) fun z1 s2 => oV (s2.1 209 5) fun z4 => if z4 = (0 : Int) then oC (m254 s2) fun z6 s7 => oV (s7.1 209 102) fun z9 => oZ (z9 - (1 : Int)) fun z10 => oX z10 1700 (oV (s7.1 286 z10) fun z12 => oZ (z12 + (2 : Int)) fun z14 => oX z10 1700 (oV (sI s7 286 z10 z14) fun s16 => some ((1 : Int), s16))) else some ((0 : Int), s2)) = some (r_, s_) := hm
  refine z_aload_n (pc' := 327) hM260 rfl rfl rfl ?_
  refine z_bipush (pc' := 329) hM260 rfl rfl rfl ?_
  obtain ⟨z1, s2, h3, hm⟩ := o_c hm
  refine z_cvV (d := d + 3) (pc' := 332) hM260 rfl hM161 rfl rfl rfl rfl rfl rfl (c161 (d := d) hG h3) rfl ?_
  refine z_aload_n (pc' := 333) hM260 rfl rfl rfl ?_
  obtain ⟨z4, ez4, hm⟩ := o_v hm
  refine z_fldI (pc' := 336) hM260 rfl rfl rfl ez4 ?_
  refine z_ifeq (pc' := 339) (t := 341) hM260 rfl rfl (fun h5 => ?_) (fun h5 => ?_)
  · replace hm := o_t hm h5
    refine z_aload_n (pc' := 342) hM260 rfl rfl rfl ?_
    obtain ⟨z6, s7, h8, hm⟩ := o_c hm
    refine z_cvV (d := d + 3) (pc' := 345) hM260 rfl hM254 rfl rfl rfl rfl rfl rfl (c254 (d := d) hG h8) rfl ?_
    refine z_aload_n (pc' := 346) hM260 rfl rfl rfl ?_
    refine z_fldR (pc' := 349) hM260 rfl (zf_12_101 hG) rfl rfl ?_
    refine z_aload_n (pc' := 350) hM260 rfl rfl rfl ?_
    obtain ⟨z9, ez9, hm⟩ := o_v hm
    refine z_fldI (pc' := 353) hM260 rfl rfl rfl ez9 ?_
    refine z_iconst (pc' := 354) hM260 rfl rfl rfl ?_
    obtain ⟨z10, ez10, h11, hm⟩ := o_z hm
    refine z_isub (pc' := 355) hM260 rfl rfl ez10 h11 ?_
    refine z_dup2A (pc' := 356) hM260 rfl rfl ?_
    obtain ⟨h13, hm⟩ := o_x hm
    obtain ⟨z12, ez12, hm⟩ := o_v hm
    refine z_iald (pc' := 357) (zGN hG) hM260 rfl rfl h13 ez12 ?_
    refine z_iconst (pc' := 358) hM260 rfl rfl rfl ?_
    obtain ⟨z14, ez14, h15, hm⟩ := o_z hm
    refine z_iadd (pc' := 359) hM260 rfl rfl ez14 h15 ?_
    obtain ⟨h17, hm⟩ := o_x hm
    obtain ⟨s16, es16, hm⟩ := o_v hm
    refine z_iast (pc' := 360) hM260 rfl rfl h17 es16 ?_
    refine z_iconst (pc' := 361) hM260 rfl rfl rfl ?_
    cases hm
    exact z_retZ hM260 rfl rfl (Or.inr rfl) ⟨rfl, rfl⟩
  · replace hm := o_f hm h5
    refine z_iconst (pc' := 340) hM260 rfl rfl rfl ?_
    cases hm
    exact z_retZ hM260 rfl rfl (Or.inl rfl) ⟨rfl, rfl⟩
def m260_247 : Nat → Int → zS → Option (Int × zS)
  | 0, _, _ => none
  | n + 1, x1, s => oC (m250 (3 : Int) s) fun z1 s2 => if z1 = (0 : Int) then oC (m250 (4 : Int) s2) fun z5 s6 => if z5 = (0 : Int) then oC (m250 (1 : Int) s6) fun z9 s10 => if z9 = (0 : Int) then oC (m250 (2 : Int) s10) fun z13 s14 => if z13 = (0 : Int) then oV (s14.1 209 102) fun z17 => oX z17 1700 (oV (sI s14 286 z17 x1) fun s18 => oV (s18.1 209 102) fun z20 => oZ (z20 + (1 : Int)) fun z21 => oV (sI s18 209 102 z21) fun s23 => some ((1 : Int), s23)) else oC (m251 s14) fun z24 s25 => m260_247 n x1 s25 else oC (m251 s10) fun z27 s28 => m260_247 n x1 s28 else oC (m251 s6) fun z30 s31 => m260_247 n x1 s31 else oC (m251 s2) fun z33 s34 => m260_247 n x1 s34
set_option maxHeartbeats 4000000 in
set_option maxRecDepth 20000 in
theorem c260_247 {G : aHp} {d : Nat} (hG : zG G) : ∀ {n : Nat} {x1 : Int} {s : zS} {r_ : Int} {s_ : zS}, m260_247 n x1 s = some (r_, s_) → Zp G (d + 4) 260 247 [some (zr 12 0 209), some (zi x1)] [] s (zRet (some (zi r_)) s_) := by
  intro n
  induction n with
  | zero => intro x1 s r_ s_ hm; cases hm
  | succ n ih =>
  intro x1 s r_ s_ hm
  replace hm : (oC (m250 (3 : Int) s) fun z1 s2 => if z1 = (0 : Int) then oC (m250 (4 : Int) s2) fun z5 s6 => if z5 = (0 : Int) then oC (m250 (1 : Int) s6) fun z9 s10 => if z9 = (0 : Int) then oC (m250 (2 : Int) s10) fun z13 s14 => if z13 = (0 : Int) then oV (s14.1 209 102) fun z17 => oX z17 1700 (oV (sI s14 286 z17 x1) fun s18 => oV (s18.1 209 102) fun z20 => oZ (z20 + (1 : Int)) fun z21 => oV (sI s18 209 102 z21) fun s23 => some ((1 : Int), s23)) else oC (m251 s14) fun z24 s25 => m260_247 n x1 s25 else oC (m251 s10) fun z27 s28 => m260_247 n x1 s28 else oC (m251 s6) fun z30 s31 => m260_247 n x1 s31 else oC (m251 s2) fun z33 s34 => m260_247 n x1 s34) = some (r_, s_) := hm
  refine z_aload_n (pc' := 248) hM260 rfl rfl rfl ?_
  refine z_iconst (pc' := 249) hM260 rfl rfl rfl ?_
  obtain ⟨z1, s2, h3, hm⟩ := o_c hm
  refine z_cv (d := d + 3) (pc' := 252) hM260 rfl hM250 rfl rfl rfl rfl rfl rfl (c250 (d := d + 2) hG h3) rfl ?_
  refine z_ifne (pc' := 255) (t := 279) hM260 rfl rfl (fun h4 => ?_) (fun h4 => ?_)
  · replace hm := o_t hm h4
    refine z_aload_n (pc' := 256) hM260 rfl rfl rfl ?_
    refine z_iconst (pc' := 257) hM260 rfl rfl rfl ?_
    obtain ⟨z5, s6, h7, hm⟩ := o_c hm
    refine z_cv (d := d + 3) (pc' := 260) hM260 rfl hM250 rfl rfl rfl rfl rfl rfl (c250 (d := d + 2) hG h7) rfl ?_
    refine z_ifne (pc' := 263) (t := 279) hM260 rfl rfl (fun h8 => ?_) (fun h8 => ?_)
    · replace hm := o_t hm h8
      refine z_aload_n (pc' := 264) hM260 rfl rfl rfl ?_
      refine z_iconst (pc' := 265) hM260 rfl rfl rfl ?_
      obtain ⟨z9, s10, h11, hm⟩ := o_c hm
      refine z_cv (d := d + 3) (pc' := 268) hM260 rfl hM250 rfl rfl rfl rfl rfl rfl (c250 (d := d + 2) hG h11) rfl ?_
      refine z_ifne (pc' := 271) (t := 279) hM260 rfl rfl (fun h12 => ?_) (fun h12 => ?_)
      · replace hm := o_t hm h12
        refine z_aload_n (pc' := 272) hM260 rfl rfl rfl ?_
        refine z_iconst (pc' := 273) hM260 rfl rfl rfl ?_
        obtain ⟨z13, s14, h15, hm⟩ := o_c hm
        refine z_cv (d := d + 3) (pc' := 276) hM260 rfl hM250 rfl rfl rfl rfl rfl rfl (c250 (d := d + 2) hG h15) rfl ?_
        refine z_ifeq (pc' := 279) (t := 286) hM260 rfl rfl (fun h16 => ?_) (fun h16 => ?_)
        · replace hm := o_t hm h16
          refine z_aload_n (pc' := 287) hM260 rfl rfl rfl ?_
          refine z_fldR (pc' := 290) hM260 rfl (zf_12_101 hG) rfl rfl ?_
          refine z_aload_n (pc' := 291) hM260 rfl rfl rfl ?_
          obtain ⟨z17, ez17, hm⟩ := o_v hm
          refine z_fldI (pc' := 294) hM260 rfl rfl rfl ez17 ?_
          refine z_iload_n (pc' := 295) hM260 rfl rfl rfl ?_
          obtain ⟨h19, hm⟩ := o_x hm
          obtain ⟨s18, es18, hm⟩ := o_v hm
          refine z_iast (pc' := 296) hM260 rfl rfl h19 es18 ?_
          refine z_aload_n (pc' := 297) hM260 rfl rfl rfl ?_
          refine z_dupA (pc' := 298) hM260 rfl rfl ?_
          obtain ⟨z20, ez20, hm⟩ := o_v hm
          refine z_fldI (pc' := 301) hM260 rfl rfl rfl ez20 ?_
          refine z_iconst (pc' := 302) hM260 rfl rfl rfl ?_
          obtain ⟨z21, ez21, h22, hm⟩ := o_z hm
          refine z_iadd (pc' := 303) hM260 rfl rfl ez21 h22 ?_
          obtain ⟨s23, es23, hm⟩ := o_v hm
          refine z_putI (pc' := 306) hM260 rfl rfl rfl es23 ?_
          refine z_iconst (pc' := 307) hM260 rfl rfl rfl ?_
          cases hm
          exact z_retZ hM260 rfl rfl (Or.inr rfl) ⟨rfl, rfl⟩
        · replace hm := o_f hm h16
          refine z_aload_n (pc' := 280) hM260 rfl rfl rfl ?_
          obtain ⟨z24, s25, h26, hm⟩ := o_c hm
          refine z_cvV (d := d + 3) (pc' := 283) hM260 rfl hM251 rfl rfl rfl rfl rfl rfl (c251 (d := d + 1) hG h26) rfl ?_
          refine z_goto (t := 247) hM260 rfl ?_
          exact ih hm
      · replace hm := o_f hm h12
        refine z_aload_n (pc' := 280) hM260 rfl rfl rfl ?_
        obtain ⟨z27, s28, h29, hm⟩ := o_c hm
        refine z_cvV (d := d + 3) (pc' := 283) hM260 rfl hM251 rfl rfl rfl rfl rfl rfl (c251 (d := d + 1) hG h29) rfl ?_
        refine z_goto (t := 247) hM260 rfl ?_
        exact ih hm
    · replace hm := o_f hm h8
      refine z_aload_n (pc' := 280) hM260 rfl rfl rfl ?_
      obtain ⟨z30, s31, h32, hm⟩ := o_c hm
      refine z_cvV (d := d + 3) (pc' := 283) hM260 rfl hM251 rfl rfl rfl rfl rfl rfl (c251 (d := d + 1) hG h32) rfl ?_
      refine z_goto (t := 247) hM260 rfl ?_
      exact ih hm
  · replace hm := o_f hm h4
    refine z_aload_n (pc' := 280) hM260 rfl rfl rfl ?_
    obtain ⟨z33, s34, h35, hm⟩ := o_c hm
    refine z_cvV (d := d + 3) (pc' := 283) hM260 rfl hM251 rfl rfl rfl rfl rfl rfl (c251 (d := d + 1) hG h35) rfl ?_
    refine z_goto (t := 247) hM260 rfl ?_
    exact ih hm
def m260_225  (s : zS) : Option (Int × zS) := oV (s.1 209 2) fun z1 => oZ (z1 - (1 : Int)) fun z2 => oX z2 1600 (oV (s.1 210 z2) fun z4 => if z4 = (43 : Int) then m260_247 zFu (1 : Int) s else m260_247 zFu (2 : Int) s)
set_option maxHeartbeats 4000000 in
set_option maxRecDepth 20000 in
theorem c260_225 {G : aHp} {d : Nat} (hG : zG G) {d1 : Option zV} {s : zS} {r_ : Int} {s_ : zS} (hm : m260_225  s = some (r_, s_)) : Zp G (d + 4) 260 225 [some (zr 12 0 209), d1] [] s (zRet (some (zi r_)) s_) := by
  replace hm : (oV (s.1 209 2) fun z1 => oZ (z1 - (1 : Int)) fun z2 => oX z2 1600 (oV (s.1 210 z2) fun z4 => if z4 = (43 : Int) then m260_247 zFu (1 : Int) s else m260_247 zFu (2 : Int) s)) = some (r_, s_) := hm
  refine z_aload_n (pc' := 226) hM260 rfl rfl rfl ?_
  refine z_fldR (pc' := 229) hM260 rfl (zf_12_0 hG) rfl rfl ?_
  refine z_aload_n (pc' := 230) hM260 rfl rfl rfl ?_
  obtain ⟨z1, ez1, hm⟩ := o_v hm
  refine z_fldI (pc' := 233) hM260 rfl rfl rfl ez1 ?_
  refine z_iconst (pc' := 234) hM260 rfl rfl rfl ?_
  obtain ⟨z2, ez2, h3, hm⟩ := o_z hm
  refine z_isub (pc' := 235) hM260 rfl rfl ez2 h3 ?_
  obtain ⟨h5, hm⟩ := o_x hm
  obtain ⟨z4, ez4, hm⟩ := o_v hm
  refine z_iald (pc' := 236) (zGN hG) hM260 rfl rfl h5 ez4 ?_
  refine z_bipush (pc' := 238) hM260 rfl rfl rfl ?_
  refine z_cmpne (pc' := 241) (t := 245) hM260 rfl rfl (fun h6 => ?_) (fun h6 => ?_)
  · replace hm := o_t hm h6
    refine z_iconst (pc' := 242) hM260 rfl rfl rfl ?_
    refine z_goto (t := 246) hM260 rfl ?_
    refine z_istore_n (pc' := 247) (l' := [some (zr 12 0 209), some (zi (1 : Int))]) hM260 rfl rfl rfl rfl ?_
    exact c260_247 hG hm
  · replace hm := o_f hm h6
    refine z_iconst (pc' := 246) hM260 rfl rfl rfl ?_
    refine z_istore_n (pc' := 247) (l' := [some (zr 12 0 209), some (zi (2 : Int))]) hM260 rfl rfl rfl rfl ?_
    exact c260_247 hG hm
def m260_162 : Nat → Int → zS → Option (Int × zS)
  | 0, _, _ => none
  | n + 1, x1, s => oC (m250 (3 : Int) s) fun z1 s2 => if z1 = (0 : Int) then oC (m250 (4 : Int) s2) fun z5 s6 => if z5 = (0 : Int) then oV (s6.1 209 102) fun z9 => oX z9 1700 (oV (sI s6 286 z9 x1) fun s10 => oV (s10.1 209 102) fun z12 => oZ (z12 + (1 : Int)) fun z13 => oV (sI s10 209 102 z13) fun s15 => some ((1 : Int), s15)) else oC (m251 s6) fun z16 s17 => m260_162 n x1 s17 else oC (m251 s2) fun z19 s20 => m260_162 n x1 s20
set_option maxHeartbeats 4000000 in
set_option maxRecDepth 20000 in
theorem c260_162 {G : aHp} {d : Nat} (hG : zG G) : ∀ {n : Nat} {x1 : Int} {s : zS} {r_ : Int} {s_ : zS}, m260_162 n x1 s = some (r_, s_) → Zp G (d + 4) 260 162 [some (zr 12 0 209), some (zi x1)] [] s (zRet (some (zi r_)) s_) := by
  intro n
  induction n with
  | zero => intro x1 s r_ s_ hm; cases hm
  | succ n ih =>
  intro x1 s r_ s_ hm
  replace hm : (oC (m250 (3 : Int) s) fun z1 s2 => if z1 = (0 : Int) then oC (m250 (4 : Int) s2) fun z5 s6 => if z5 = (0 : Int) then oV (s6.1 209 102) fun z9 => oX z9 1700 (oV (sI s6 286 z9 x1) fun s10 => oV (s10.1 209 102) fun z12 => oZ (z12 + (1 : Int)) fun z13 => oV (sI s10 209 102 z13) fun s15 => some ((1 : Int), s15)) else oC (m251 s6) fun z16 s17 => m260_162 n x1 s17 else oC (m251 s2) fun z19 s20 => m260_162 n x1 s20) = some (r_, s_) := hm
  refine z_aload_n (pc' := 163) hM260 rfl rfl rfl ?_
  refine z_iconst (pc' := 164) hM260 rfl rfl rfl ?_
  obtain ⟨z1, s2, h3, hm⟩ := o_c hm
  refine z_cv (d := d + 3) (pc' := 167) hM260 rfl hM250 rfl rfl rfl rfl rfl rfl (c250 (d := d + 2) hG h3) rfl ?_
  refine z_ifne (pc' := 170) (t := 178) hM260 rfl rfl (fun h4 => ?_) (fun h4 => ?_)
  · replace hm := o_t hm h4
    refine z_aload_n (pc' := 171) hM260 rfl rfl rfl ?_
    refine z_iconst (pc' := 172) hM260 rfl rfl rfl ?_
    obtain ⟨z5, s6, h7, hm⟩ := o_c hm
    refine z_cv (d := d + 3) (pc' := 175) hM260 rfl hM250 rfl rfl rfl rfl rfl rfl (c250 (d := d + 2) hG h7) rfl ?_
    refine z_ifeq (pc' := 178) (t := 185) hM260 rfl rfl (fun h8 => ?_) (fun h8 => ?_)
    · replace hm := o_t hm h8
      refine z_aload_n (pc' := 186) hM260 rfl rfl rfl ?_
      refine z_fldR (pc' := 189) hM260 rfl (zf_12_101 hG) rfl rfl ?_
      refine z_aload_n (pc' := 190) hM260 rfl rfl rfl ?_
      obtain ⟨z9, ez9, hm⟩ := o_v hm
      refine z_fldI (pc' := 193) hM260 rfl rfl rfl ez9 ?_
      refine z_iload_n (pc' := 194) hM260 rfl rfl rfl ?_
      obtain ⟨h11, hm⟩ := o_x hm
      obtain ⟨s10, es10, hm⟩ := o_v hm
      refine z_iast (pc' := 195) hM260 rfl rfl h11 es10 ?_
      refine z_aload_n (pc' := 196) hM260 rfl rfl rfl ?_
      refine z_dupA (pc' := 197) hM260 rfl rfl ?_
      obtain ⟨z12, ez12, hm⟩ := o_v hm
      refine z_fldI (pc' := 200) hM260 rfl rfl rfl ez12 ?_
      refine z_iconst (pc' := 201) hM260 rfl rfl rfl ?_
      obtain ⟨z13, ez13, h14, hm⟩ := o_z hm
      refine z_iadd (pc' := 202) hM260 rfl rfl ez13 h14 ?_
      obtain ⟨s15, es15, hm⟩ := o_v hm
      refine z_putI (pc' := 205) hM260 rfl rfl rfl es15 ?_
      refine z_iconst (pc' := 206) hM260 rfl rfl rfl ?_
      cases hm
      exact z_retZ hM260 rfl rfl (Or.inr rfl) ⟨rfl, rfl⟩
    · replace hm := o_f hm h8
      refine z_aload_n (pc' := 179) hM260 rfl rfl rfl ?_
      obtain ⟨z16, s17, h18, hm⟩ := o_c hm
      refine z_cvV (d := d + 3) (pc' := 182) hM260 rfl hM251 rfl rfl rfl rfl rfl rfl (c251 (d := d + 1) hG h18) rfl ?_
      refine z_goto (t := 162) hM260 rfl ?_
      exact ih hm
  · replace hm := o_f hm h4
    refine z_aload_n (pc' := 179) hM260 rfl rfl rfl ?_
    obtain ⟨z19, s20, h21, hm⟩ := o_c hm
    refine z_cvV (d := d + 3) (pc' := 182) hM260 rfl hM251 rfl rfl rfl rfl rfl rfl (c251 (d := d + 1) hG h21) rfl ?_
    refine z_goto (t := 162) hM260 rfl ?_
    exact ih hm
def m260_140  (s : zS) : Option (Int × zS) := oV (s.1 209 2) fun z1 => oZ (z1 - (1 : Int)) fun z2 => oX z2 1600 (oV (s.1 210 z2) fun z4 => if z4 = (42 : Int) then m260_162 zFu (3 : Int) s else m260_162 zFu (4 : Int) s)
set_option maxHeartbeats 4000000 in
set_option maxRecDepth 20000 in
theorem c260_140 {G : aHp} {d : Nat} (hG : zG G) {d1 : Option zV} {s : zS} {r_ : Int} {s_ : zS} (hm : m260_140  s = some (r_, s_)) : Zp G (d + 4) 260 140 [some (zr 12 0 209), d1] [] s (zRet (some (zi r_)) s_) := by
  replace hm : (oV (s.1 209 2) fun z1 => oZ (z1 - (1 : Int)) fun z2 => oX z2 1600 (oV (s.1 210 z2) fun z4 => if z4 = (42 : Int) then m260_162 zFu (3 : Int) s else m260_162 zFu (4 : Int) s)) = some (r_, s_) := hm
  refine z_aload_n (pc' := 141) hM260 rfl rfl rfl ?_
  refine z_fldR (pc' := 144) hM260 rfl (zf_12_0 hG) rfl rfl ?_
  refine z_aload_n (pc' := 145) hM260 rfl rfl rfl ?_
  obtain ⟨z1, ez1, hm⟩ := o_v hm
  refine z_fldI (pc' := 148) hM260 rfl rfl rfl ez1 ?_
  refine z_iconst (pc' := 149) hM260 rfl rfl rfl ?_
  obtain ⟨z2, ez2, h3, hm⟩ := o_z hm
  refine z_isub (pc' := 150) hM260 rfl rfl ez2 h3 ?_
  obtain ⟨h5, hm⟩ := o_x hm
  obtain ⟨z4, ez4, hm⟩ := o_v hm
  refine z_iald (pc' := 151) (zGN hG) hM260 rfl rfl h5 ez4 ?_
  refine z_bipush (pc' := 153) hM260 rfl rfl rfl ?_
  refine z_cmpne (pc' := 156) (t := 160) hM260 rfl rfl (fun h6 => ?_) (fun h6 => ?_)
  · replace hm := o_t hm h6
    refine z_iconst (pc' := 157) hM260 rfl rfl rfl ?_
    refine z_goto (t := 161) hM260 rfl ?_
    refine z_istore_n (pc' := 162) (l' := [some (zr 12 0 209), some (zi (3 : Int))]) hM260 rfl rfl rfl rfl ?_
    exact c260_162 hG hm
  · replace hm := o_f hm h6
    refine z_iconst (pc' := 161) hM260 rfl rfl rfl ?_
    refine z_istore_n (pc' := 162) (l' := [some (zr 12 0 209), some (zi (4 : Int))]) hM260 rfl rfl rfl rfl ?_
    exact c260_162 hG hm
def m260_122  (s : zS) : Option (Int × zS) := oC (m160 (42 : Int) s) fun z1 s2 => if z1 = (0 : Int) then oC (m160 (47 : Int) s2) fun z5 s6 => if z5 = (0 : Int) then oC (m160 (43 : Int) s6) fun z9 s10 => if z9 = (0 : Int) then oC (m160 (45 : Int) s10) fun z13 s14 => if z13 = (0 : Int) then oC (m253 s14) fun z17 s18 => if z17 = (21 : Int) then m260_326 s18 else oC (m253 s18) fun z21 s22 => if z21 = (22 : Int) then m260_326 s22 else oC (m253 s22) fun z25 s26 => if z25 = (-1 : Int) then some ((0 : Int), s26) else oV (s26.1 209 5) fun z29 => if z29 = (0 : Int) then oV (s26.1 209 2) fun z31 => oC (m153 (1 : Int) z31 s26) fun z32 s33 => some ((0 : Int), s33) else some ((0 : Int), s26) else m260_225 s14 else m260_225 s10 else m260_140 s6 else m260_140 s2
set_option maxHeartbeats 4000000 in
set_option maxRecDepth 20000 in
theorem c260_122 {G : aHp} {d : Nat} (hG : zG G) {d1 : Option zV} {s : zS} {r_ : Int} {s_ : zS} (hm : m260_122  s = some (r_, s_)) : Zp G (d + 4) 260 122 [some (zr 12 0 209), d1] [] s (zRet (some (zi r_)) s_) := by
  replace hm : (oC (m160 (42 : Int) s) fun z1 s2 => if z1 = (0 : Int) then oC (m160 (47 : Int) s2) fun z5 s6 => if z5 = (0 : Int) then oC (m160 (43 : Int) s6) fun z9 s10 => if z9 = (0 : Int) then oC (m160 (45 : Int) s10) fun z13 s14 => if z13 = (0 : Int) then oC (m253 s14) fun z17 s18 => if z17 = (21 : Int) then m260_326 s18 else oC (m253 s18) fun z21 s22 => if z21 = (22 : Int) then m260_326 s22 else oC (m253 s22) fun z25 s26 => if z25 = (-1 : Int) then some ((0 : Int), s26) else oV (s26.1 209 5) fun z29 => if z29 = (0 : Int) then oV (s26.1 209 2) fun z31 => oC (m153 (1 : Int) z31 s26) fun z32 s33 => some ((0 : Int), s33) else some ((0 : Int), s26) else m260_225 s14 else m260_225 s10 else m260_140 s6 else m260_140 s2) = some (r_, s_) := hm
  refine z_aload_n (pc' := 123) hM260 rfl rfl rfl ?_
  refine z_bipush (pc' := 125) hM260 rfl rfl rfl ?_
  obtain ⟨z1, s2, h3, hm⟩ := o_c hm
  refine z_cv (d := d + 3) (pc' := 128) hM260 rfl hM160 rfl rfl rfl rfl rfl rfl (c160 (d := d + 1) hG h3) rfl ?_
  refine z_ifne (pc' := 131) (t := 140) hM260 rfl rfl (fun h4 => ?_) (fun h4 => ?_)
  · replace hm := o_t hm h4
    refine z_aload_n (pc' := 132) hM260 rfl rfl rfl ?_
    refine z_bipush (pc' := 134) hM260 rfl rfl rfl ?_
    obtain ⟨z5, s6, h7, hm⟩ := o_c hm
    refine z_cv (d := d + 3) (pc' := 137) hM260 rfl hM160 rfl rfl rfl rfl rfl rfl (c160 (d := d + 1) hG h7) rfl ?_
    refine z_ifeq (pc' := 140) (t := 207) hM260 rfl rfl (fun h8 => ?_) (fun h8 => ?_)
    · replace hm := o_t hm h8
      refine z_aload_n (pc' := 208) hM260 rfl rfl rfl ?_
      refine z_bipush (pc' := 210) hM260 rfl rfl rfl ?_
      obtain ⟨z9, s10, h11, hm⟩ := o_c hm
      refine z_cv (d := d + 3) (pc' := 213) hM260 rfl hM160 rfl rfl rfl rfl rfl rfl (c160 (d := d + 1) hG h11) rfl ?_
      refine z_ifne (pc' := 216) (t := 225) hM260 rfl rfl (fun h12 => ?_) (fun h12 => ?_)
      · replace hm := o_t hm h12
        refine z_aload_n (pc' := 217) hM260 rfl rfl rfl ?_
        refine z_bipush (pc' := 219) hM260 rfl rfl rfl ?_
        obtain ⟨z13, s14, h15, hm⟩ := o_c hm
        refine z_cv (d := d + 3) (pc' := 222) hM260 rfl hM160 rfl rfl rfl rfl rfl rfl (c160 (d := d + 1) hG h15) rfl ?_
        refine z_ifeq (pc' := 225) (t := 308) hM260 rfl rfl (fun h16 => ?_) (fun h16 => ?_)
        · replace hm := o_t hm h16
          refine z_aload_n (pc' := 309) hM260 rfl rfl rfl ?_
          obtain ⟨z17, s18, h19, hm⟩ := o_c hm
          refine z_cv (d := d + 3) (pc' := 312) hM260 rfl hM253 rfl rfl rfl rfl rfl rfl (c253 (d := d + 1) hG h19) rfl ?_
          refine z_bipush (pc' := 314) hM260 rfl rfl rfl ?_
          refine z_cmpeq (pc' := 317) (t := 326) hM260 rfl rfl (fun h20 => ?_) (fun h20 => ?_)
          · replace hm := o_t hm h20
            exact c260_326 hG hm
          · replace hm := o_f hm h20
            refine z_aload_n (pc' := 318) hM260 rfl rfl rfl ?_
            obtain ⟨z21, s22, h23, hm⟩ := o_c hm
            refine z_cv (d := d + 3) (pc' := 321) hM260 rfl hM253 rfl rfl rfl rfl rfl rfl (c253 (d := d + 1) hG h23) rfl ?_
            refine z_bipush (pc' := 323) hM260 rfl rfl rfl ?_
            refine z_cmpne (pc' := 326) (t := 362) hM260 rfl rfl (fun h24 => ?_) (fun h24 => ?_)
            · replace hm := o_t hm h24
              exact c260_326 hG hm
            · replace hm := o_f hm h24
              refine z_aload_n (pc' := 363) hM260 rfl rfl rfl ?_
              obtain ⟨z25, s26, h27, hm⟩ := o_c hm
              refine z_cv (d := d + 3) (pc' := 366) hM260 rfl hM253 rfl rfl rfl rfl rfl rfl (c253 (d := d + 1) hG h27) rfl ?_
              refine z_iconst (pc' := 367) hM260 rfl rfl rfl ?_
              refine z_cmpeq (pc' := 370) (t := 386) hM260 rfl rfl (fun h28 => ?_) (fun h28 => ?_)
              · replace hm := o_t hm h28
                refine z_iconst (pc' := 387) hM260 rfl rfl rfl ?_
                cases hm
                exact z_retZ hM260 rfl rfl (Or.inl rfl) ⟨rfl, rfl⟩
              · replace hm := o_f hm h28
                refine z_aload_n (pc' := 371) hM260 rfl rfl rfl ?_
                obtain ⟨z29, ez29, hm⟩ := o_v hm
                refine z_fldI (pc' := 374) hM260 rfl rfl rfl ez29 ?_
                refine z_ifne (pc' := 377) (t := 386) hM260 rfl rfl (fun h30 => ?_) (fun h30 => ?_)
                · replace hm := o_t hm h30
                  refine z_aload_n (pc' := 378) hM260 rfl rfl rfl ?_
                  refine z_iconst (pc' := 379) hM260 rfl rfl rfl ?_
                  refine z_aload_n (pc' := 380) hM260 rfl rfl rfl ?_
                  obtain ⟨z31, ez31, hm⟩ := o_v hm
                  refine z_fldI (pc' := 383) hM260 rfl rfl rfl ez31 ?_
                  obtain ⟨z32, s33, h34, hm⟩ := o_c hm
                  refine z_cvV (d := d + 3) (pc' := 386) hM260 rfl hM153 rfl rfl rfl rfl rfl rfl (c153 (d := d + 2) hG h34) rfl ?_
                  refine z_iconst (pc' := 387) hM260 rfl rfl rfl ?_
                  cases hm
                  exact z_retZ hM260 rfl rfl (Or.inl rfl) ⟨rfl, rfl⟩
                · replace hm := o_f hm h30
                  refine z_iconst (pc' := 387) hM260 rfl rfl rfl ?_
                  cases hm
                  exact z_retZ hM260 rfl rfl (Or.inl rfl) ⟨rfl, rfl⟩
        · replace hm := o_f hm h16
          exact c260_225 hG hm
      · replace hm := o_f hm h12
        exact c260_225 hG hm
    · replace hm := o_f hm h8
      exact c260_140 hG hm
  · replace hm := o_f hm h4
    exact c260_140 hG hm
def m260_43 (k0_ : zS → Option (Int × zS))  (s : zS) : Option (Int × zS) := oV (s.1 209 2) fun z1 => oZ (z1 + (1 : Int)) fun z2 => oV (sI s 209 2 z2) fun s4 => oC (m254 s4) fun z5 s6 => oV (s6.1 209 102) fun z8 => oZ (z8 - (1 : Int)) fun z9 => oV (sI s6 209 102 z9) fun s11 => oV (s11.1 209 103) fun z12 => oZ (z12 - (1 : Int)) fun z13 => oV (sI s11 209 103 z13) fun s15 => oV (s15.1 209 102) fun z16 => oX z16 1700 (oV (s15.1 286 z16) fun z17 => if z17 = (20 : Int) then oC (m258 s15) fun z20 s21 => k0_ s21 else oV (s15.1 209 102) fun z23 => oX z23 1700 (oV (s15.1 286 z23) fun z24 => if z24 = (23 : Int) then oC (m248 (5 : Int) s15) fun z27 s28 => oC (m258 s28) fun z30 s31 => k0_ s31 else oC (m248 (6 : Int) s15) fun z33 s34 => oC (m258 s34) fun z36 s37 => k0_ s37))
set_option maxHeartbeats 4000000 in
set_option maxRecDepth 20000 in
theorem c260_43 {G : aHp} {d : Nat} {k0_ : zS → Option (Int × zS)} (hG : zG G) (hk0 : ∀ {d1 : Option zV} {s : zS} {r_ : Int} {s_ : zS}, k0_  s = some (r_, s_) → Zp G (d + 4) 260 0 [some (zr 12 0 209), d1] [] s (zRet (some (zi r_)) s_)) {d1 : Option zV} {s : zS} {r_ : Int} {s_ : zS} (hm : m260_43 k0_  s = some (r_, s_)) : Zp G (d + 4) 260 43 [some (zr 12 0 209), d1] [] s (zRet (some (zi r_)) s_) := by
  replace hm : (oV (s.1 209 2) fun z1 => oZ (z1 + (1 : Int)) fun z2 => oV (sI s 209 2 z2) fun s4 => oC (m254 s4) fun z5 s6 => oV (s6.1 209 102) fun z8 => oZ (z8 - (1 : Int)) fun z9 => oV (sI s6 209 102 z9) fun s11 => oV (s11.1 209 103) fun z12 => oZ (z12 - (1 : Int)) fun z13 => oV (sI s11 209 103 z13) fun s15 => oV (s15.1 209 102) fun z16 => oX z16 1700 (oV (s15.1 286 z16) fun z17 => if z17 = (20 : Int) then oC (m258 s15) fun z20 s21 => k0_ s21 else oV (s15.1 209 102) fun z23 => oX z23 1700 (oV (s15.1 286 z23) fun z24 => if z24 = (23 : Int) then oC (m248 (5 : Int) s15) fun z27 s28 => oC (m258 s28) fun z30 s31 => k0_ s31 else oC (m248 (6 : Int) s15) fun z33 s34 => oC (m258 s34) fun z36 s37 => k0_ s37))) = some (r_, s_) := hm
  refine z_aload_n (pc' := 44) hM260 rfl rfl rfl ?_
  refine z_dupA (pc' := 45) hM260 rfl rfl ?_
  obtain ⟨z1, ez1, hm⟩ := o_v hm
  refine z_fldI (pc' := 48) hM260 rfl rfl rfl ez1 ?_
  refine z_iconst (pc' := 49) hM260 rfl rfl rfl ?_
  obtain ⟨z2, ez2, h3, hm⟩ := o_z hm
  refine z_iadd (pc' := 50) hM260 rfl rfl ez2 h3 ?_
  obtain ⟨s4, es4, hm⟩ := o_v hm
  refine z_putI (pc' := 53) hM260 rfl rfl rfl es4 ?_
  refine z_aload_n (pc' := 54) hM260 rfl rfl rfl ?_
  obtain ⟨z5, s6, h7, hm⟩ := o_c hm
  refine z_cvV (d := d + 3) (pc' := 57) hM260 rfl hM254 rfl rfl rfl rfl rfl rfl (c254 (d := d) hG h7) rfl ?_
  refine z_aload_n (pc' := 58) hM260 rfl rfl rfl ?_
  refine z_dupA (pc' := 59) hM260 rfl rfl ?_
  obtain ⟨z8, ez8, hm⟩ := o_v hm
  refine z_fldI (pc' := 62) hM260 rfl rfl rfl ez8 ?_
  refine z_iconst (pc' := 63) hM260 rfl rfl rfl ?_
  obtain ⟨z9, ez9, h10, hm⟩ := o_z hm
  refine z_isub (pc' := 64) hM260 rfl rfl ez9 h10 ?_
  obtain ⟨s11, es11, hm⟩ := o_v hm
  refine z_putI (pc' := 67) hM260 rfl rfl rfl es11 ?_
  refine z_aload_n (pc' := 68) hM260 rfl rfl rfl ?_
  refine z_dupA (pc' := 69) hM260 rfl rfl ?_
  obtain ⟨z12, ez12, hm⟩ := o_v hm
  refine z_fldI (pc' := 72) hM260 rfl rfl rfl ez12 ?_
  refine z_iconst (pc' := 73) hM260 rfl rfl rfl ?_
  obtain ⟨z13, ez13, h14, hm⟩ := o_z hm
  refine z_isub (pc' := 74) hM260 rfl rfl ez13 h14 ?_
  obtain ⟨s15, es15, hm⟩ := o_v hm
  refine z_putI (pc' := 77) hM260 rfl rfl rfl es15 ?_
  refine z_aload_n (pc' := 78) hM260 rfl rfl rfl ?_
  refine z_fldR (pc' := 81) hM260 rfl (zf_12_101 hG) rfl rfl ?_
  refine z_aload_n (pc' := 82) hM260 rfl rfl rfl ?_
  obtain ⟨z16, ez16, hm⟩ := o_v hm
  refine z_fldI (pc' := 85) hM260 rfl rfl rfl ez16 ?_
  obtain ⟨h18, hm⟩ := o_x hm
  obtain ⟨z17, ez17, hm⟩ := o_v hm
  refine z_iald (pc' := 86) (zGN hG) hM260 rfl rfl h18 ez17 ?_
  refine z_bipush (pc' := 88) hM260 rfl rfl rfl ?_
  refine z_cmpeq (pc' := 91) (t := 115) hM260 rfl rfl (fun h19 => ?_) (fun h19 => ?_)
  · replace hm := o_t hm h19
    refine z_aload_n (pc' := 116) hM260 rfl rfl rfl ?_
    obtain ⟨z20, s21, h22, hm⟩ := o_c hm
    refine z_cvV (d := d + 3) (pc' := 119) hM260 rfl hM258 rfl rfl rfl rfl rfl rfl (c258 (d := d) hG h22) rfl ?_
    refine z_goto (t := 0) hM260 rfl ?_
    exact hk0 hm
  · replace hm := o_f hm h19
    refine z_aload_n (pc' := 92) hM260 rfl rfl rfl ?_
    refine z_aload_n (pc' := 93) hM260 rfl rfl rfl ?_
    refine z_fldR (pc' := 96) hM260 rfl (zf_12_101 hG) rfl rfl ?_
    refine z_aload_n (pc' := 97) hM260 rfl rfl rfl ?_
    obtain ⟨z23, ez23, hm⟩ := o_v hm
    refine z_fldI (pc' := 100) hM260 rfl rfl rfl ez23 ?_
    obtain ⟨h25, hm⟩ := o_x hm
    obtain ⟨z24, ez24, hm⟩ := o_v hm
    refine z_iald (pc' := 101) (zGN hG) hM260 rfl rfl h25 ez24 ?_
    refine z_bipush (pc' := 103) hM260 rfl rfl rfl ?_
    refine z_cmpne (pc' := 106) (t := 110) hM260 rfl rfl (fun h26 => ?_) (fun h26 => ?_)
    · replace hm := o_t hm h26
      refine z_iconst (pc' := 107) hM260 rfl rfl rfl ?_
      refine z_goto (t := 112) hM260 rfl ?_
      obtain ⟨z27, s28, h29, hm⟩ := o_c hm
      refine z_cvV (d := d + 3) (pc' := 115) hM260 rfl hM248 rfl rfl rfl rfl rfl rfl (c248 (d := d + 2) hG h29) rfl ?_
      refine z_aload_n (pc' := 116) hM260 rfl rfl rfl ?_
      obtain ⟨z30, s31, h32, hm⟩ := o_c hm
      refine z_cvV (d := d + 3) (pc' := 119) hM260 rfl hM258 rfl rfl rfl rfl rfl rfl (c258 (d := d) hG h32) rfl ?_
      refine z_goto (t := 0) hM260 rfl ?_
      exact hk0 hm
    · replace hm := o_f hm h26
      refine z_bipush (pc' := 112) hM260 rfl rfl rfl ?_
      obtain ⟨z33, s34, h35, hm⟩ := o_c hm
      refine z_cvV (d := d + 3) (pc' := 115) hM260 rfl hM248 rfl rfl rfl rfl rfl rfl (c248 (d := d + 2) hG h35) rfl ?_
      refine z_aload_n (pc' := 116) hM260 rfl rfl rfl ?_
      obtain ⟨z36, s37, h38, hm⟩ := o_c hm
      refine z_cvV (d := d + 3) (pc' := 119) hM260 rfl hM258 rfl rfl rfl rfl rfl rfl (c258 (d := d) hG h38) rfl ?_
      refine z_goto (t := 0) hM260 rfl ?_
      exact hk0 hm
def m260_0 : Nat → zS → Option (Int × zS)
  | 0, _ => none
  | n + 1, s => oV (s.1 209 5) fun z1 => if z1 = (0 : Int) then oC (m156 s) fun z3 s4 => if z3 = (41 : Int) then oC (m253 s4) fun z7 s8 => if z7 = (20 : Int) then m260_43 (m260_0 n) s8 else oC (m253 s8) fun z11 s12 => if z11 = (23 : Int) then m260_43 (m260_0 n) s12 else oC (m253 s12) fun z15 s16 => if z15 = (24 : Int) then m260_43 (m260_0 n) s16 else m260_122 s16 else m260_122 s4 else m260_122 s
set_option maxHeartbeats 4000000 in
set_option maxRecDepth 20000 in
theorem c260_0 {G : aHp} {d : Nat} (hG : zG G) : ∀ {n : Nat} {d1 : Option zV} {s : zS} {r_ : Int} {s_ : zS}, m260_0 n  s = some (r_, s_) → Zp G (d + 4) 260 0 [some (zr 12 0 209), d1] [] s (zRet (some (zi r_)) s_) := by
  intro n
  induction n with
  | zero => intro d1 s r_ s_ hm; cases hm
  | succ n ih =>
  intro d1 s r_ s_ hm
  replace hm : (oV (s.1 209 5) fun z1 => if z1 = (0 : Int) then oC (m156 s) fun z3 s4 => if z3 = (41 : Int) then oC (m253 s4) fun z7 s8 => if z7 = (20 : Int) then m260_43 (m260_0 n) s8 else oC (m253 s8) fun z11 s12 => if z11 = (23 : Int) then m260_43 (m260_0 n) s12 else oC (m253 s12) fun z15 s16 => if z15 = (24 : Int) then m260_43 (m260_0 n) s16 else m260_122 s16 else m260_122 s4 else m260_122 s) = some (r_, s_) := hm
  refine z_aload_n (pc' := 1) hM260 rfl rfl rfl ?_
  obtain ⟨z1, ez1, hm⟩ := o_v hm
  refine z_fldI (pc' := 4) hM260 rfl rfl rfl ez1 ?_
  refine z_ifne (pc' := 7) (t := 122) hM260 rfl rfl (fun h2 => ?_) (fun h2 => ?_)
  · replace hm := o_t hm h2
    refine z_aload_n (pc' := 8) hM260 rfl rfl rfl ?_
    obtain ⟨z3, s4, h5, hm⟩ := o_c hm
    refine z_cv (d := d + 3) (pc' := 11) hM260 rfl hM156 rfl rfl rfl rfl rfl rfl (c156 (d := d + 2) hG h5) rfl ?_
    refine z_bipush (pc' := 13) hM260 rfl rfl rfl ?_
    refine z_cmpne (pc' := 16) (t := 122) hM260 rfl rfl (fun h6 => ?_) (fun h6 => ?_)
    · replace hm := o_t hm h6
      refine z_aload_n (pc' := 17) hM260 rfl rfl rfl ?_
      obtain ⟨z7, s8, h9, hm⟩ := o_c hm
      refine z_cv (d := d + 3) (pc' := 20) hM260 rfl hM253 rfl rfl rfl rfl rfl rfl (c253 (d := d + 1) hG h9) rfl ?_
      refine z_bipush (pc' := 22) hM260 rfl rfl rfl ?_
      refine z_cmpeq (pc' := 25) (t := 43) hM260 rfl rfl (fun h10 => ?_) (fun h10 => ?_)
      · replace hm := o_t hm h10
        exact c260_43 hG ih hm
      · replace hm := o_f hm h10
        refine z_aload_n (pc' := 26) hM260 rfl rfl rfl ?_
        obtain ⟨z11, s12, h13, hm⟩ := o_c hm
        refine z_cv (d := d + 3) (pc' := 29) hM260 rfl hM253 rfl rfl rfl rfl rfl rfl (c253 (d := d + 1) hG h13) rfl ?_
        refine z_bipush (pc' := 31) hM260 rfl rfl rfl ?_
        refine z_cmpeq (pc' := 34) (t := 43) hM260 rfl rfl (fun h14 => ?_) (fun h14 => ?_)
        · replace hm := o_t hm h14
          exact c260_43 hG ih hm
        · replace hm := o_f hm h14
          refine z_aload_n (pc' := 35) hM260 rfl rfl rfl ?_
          obtain ⟨z15, s16, h17, hm⟩ := o_c hm
          refine z_cv (d := d + 3) (pc' := 38) hM260 rfl hM253 rfl rfl rfl rfl rfl rfl (c253 (d := d + 1) hG h17) rfl ?_
          refine z_bipush (pc' := 40) hM260 rfl rfl rfl ?_
          refine z_cmpne (pc' := 43) (t := 122) hM260 rfl rfl (fun h18 => ?_) (fun h18 => ?_)
          · replace hm := o_t hm h18
            exact c260_43 hG ih hm
          · replace hm := o_f hm h18
            exact c260_122 hG hm
    · replace hm := o_f hm h6
      exact c260_122 hG hm
  · replace hm := o_f hm h2
    exact c260_122 hG hm
def m260  (s : zS) : Option (Int × zS) := m260_0 zFu s
set_option maxHeartbeats 4000000 in
set_option maxRecDepth 20000 in
theorem c260 {G : aHp} {d : Nat} (hG : zG G) {s : zS} {r_ : Int} {s_ : zS} (hm : m260  s = some (r_, s_)) : Zp G (d + 4) 260 0 [some (zr 12 0 209), none] [] s (zRet (some (zi r_)) s_) :=
  c260_0 hG hm
def m261_53 : Nat → Int → zS → Option (Int × zS)
  | 0, _, _ => none
  | n + 1, x1, s => oV (s.1 209 5) fun z1 => if z1 = (0 : Int) then oV (s.1 209 102) fun z3 => oV (s.1 209 104) fun z4 => if z4 < z3 then oC (m251 s) fun z6 s7 => m261_53 n x1 s7 else oV (sI s 209 104 x1) fun s9 => some (0, s9) else oV (sI s 209 104 x1) fun s10 => some (0, s10)
theorem c261_53 {G : aHp} {d : Nat} (hG : zG G) : ∀ {n : Nat} {x1 : Int} {d2 : Option zV} {s : zS} {r_ : Int} {s_ : zS}, m261_53 n x1 s = some (r_, s_) → Zp G (d + 7) 261 53 [some (zr 12 0 209), some (zi x1), d2] [] s (zRet none s_) := by
  intro n
  induction n with
  | zero => intro x1 d2 s r_ s_ hm; cases hm
  | succ n ih =>
  intro x1 d2 s r_ s_ hm
  replace hm : (oV (s.1 209 5) fun z1 => if z1 = (0 : Int) then oV (s.1 209 102) fun z3 => oV (s.1 209 104) fun z4 => if z4 < z3 then oC (m251 s) fun z6 s7 => m261_53 n x1 s7 else oV (sI s 209 104 x1) fun s9 => some (0, s9) else oV (sI s 209 104 x1) fun s10 => some (0, s10)) = some (r_, s_) := hm
  refine z_aload_n (pc' := 54) hM261 rfl rfl rfl ?_
  obtain ⟨z1, ez1, hm⟩ := o_v hm
  refine z_fldI (pc' := 57) hM261 rfl rfl rfl ez1 ?_
  refine z_ifne (pc' := 60) (t := 78) hM261 rfl rfl (fun h2 => ?_) (fun h2 => ?_)
  · replace hm := o_t hm h2
    refine z_aload_n (pc' := 61) hM261 rfl rfl rfl ?_
    obtain ⟨z3, ez3, hm⟩ := o_v hm
    refine z_fldI (pc' := 64) hM261 rfl rfl rfl ez3 ?_
    refine z_aload_n (pc' := 65) hM261 rfl rfl rfl ?_
    obtain ⟨z4, ez4, hm⟩ := o_v hm
    refine z_fldI (pc' := 68) hM261 rfl rfl rfl ez4 ?_
    refine z_cmple (pc' := 71) (t := 78) hM261 rfl rfl (fun h5 => ?_) (fun h5 => ?_)
    · replace hm := o_t hm h5
      refine z_aload_n (pc' := 72) hM261 rfl rfl rfl ?_
      obtain ⟨z6, s7, h8, hm⟩ := o_c hm
      refine z_cvV (d := d + 6) (pc' := 75) hM261 rfl hM251 rfl rfl rfl rfl rfl rfl (c251 (d := d + 4) hG h8) rfl ?_
      refine z_goto (t := 53) hM261 rfl ?_
      exact ih hm
    · replace hm := o_f hm h5
      refine z_aload_n (pc' := 79) hM261 rfl rfl rfl ?_
      refine z_iload_n (pc' := 80) hM261 rfl rfl rfl ?_
      obtain ⟨s9, es9, hm⟩ := o_v hm
      refine z_putI (pc' := 83) hM261 rfl rfl rfl es9 ?_
      cases hm
      exact z_retV hM261 rfl rfl ⟨rfl, rfl⟩
  · replace hm := o_f hm h2
    refine z_aload_n (pc' := 79) hM261 rfl rfl rfl ?_
    refine z_iload_n (pc' := 80) hM261 rfl rfl rfl ?_
    obtain ⟨s10, es10, hm⟩ := o_v hm
    refine z_putI (pc' := 83) hM261 rfl rfl rfl es10 ?_
    cases hm
    exact z_retV hM261 rfl rfl ⟨rfl, rfl⟩
def m261_15 : Nat → Int → Int → zS → Option (Int × zS)
  | 0, _, _, _ => none
  | n + 1, x1, x2, s => if x2 = (0 : Int) then m261_53 zFu x1 s else oV (s.1 209 5) fun z2 => if z2 = (0 : Int) then oC (m259 s) fun z4 s5 => oV (s5.1 209 5) fun z7 => if z7 = (0 : Int) then oC (m260 s5) fun z9 s10 => if z9 = (0 : Int) then m261_15 n x1 (0 : Int) s10 else m261_15 n x1 (1 : Int) s10 else m261_15 n x1 (0 : Int) s5 else m261_53 zFu x1 s
theorem c261_15 {G : aHp} {d : Nat} (hG : zG G) : ∀ {n : Nat} {x1 : Int} {x2 : Int} {s : zS} {r_ : Int} {s_ : zS}, m261_15 n x1 x2 s = some (r_, s_) → Zp G (d + 7) 261 15 [some (zr 12 0 209), some (zi x1), some (zi x2)] [] s (zRet none s_) := by
  intro n
  induction n with
  | zero => intro x1 x2 s r_ s_ hm; cases hm
  | succ n ih =>
  intro x1 x2 s r_ s_ hm
  replace hm : (if x2 = (0 : Int) then m261_53 zFu x1 s else oV (s.1 209 5) fun z2 => if z2 = (0 : Int) then oC (m259 s) fun z4 s5 => oV (s5.1 209 5) fun z7 => if z7 = (0 : Int) then oC (m260 s5) fun z9 s10 => if z9 = (0 : Int) then m261_15 n x1 (0 : Int) s10 else m261_15 n x1 (1 : Int) s10 else m261_15 n x1 (0 : Int) s5 else m261_53 zFu x1 s) = some (r_, s_) := hm
  refine z_iload_n (pc' := 16) hM261 rfl rfl rfl ?_
  refine z_ifeq (pc' := 19) (t := 53) hM261 rfl rfl (fun h1 => ?_) (fun h1 => ?_)
  · replace hm := o_t hm h1
    exact c261_53 hG hm
  · replace hm := o_f hm h1
    refine z_aload_n (pc' := 20) hM261 rfl rfl rfl ?_
    obtain ⟨z2, ez2, hm⟩ := o_v hm
    refine z_fldI (pc' := 23) hM261 rfl rfl rfl ez2 ?_
    refine z_ifne (pc' := 26) (t := 53) hM261 rfl rfl (fun h3 => ?_) (fun h3 => ?_)
    · replace hm := o_t hm h3
      refine z_aload_n (pc' := 27) hM261 rfl rfl rfl ?_
      obtain ⟨z4, s5, h6, hm⟩ := o_c hm
      refine z_cvV (d := d + 6) (pc' := 30) hM261 rfl hM259 rfl rfl rfl rfl rfl rfl (c259 (d := d) hG h6) rfl ?_
      refine z_aload_n (pc' := 31) hM261 rfl rfl rfl ?_
      obtain ⟨z7, ez7, hm⟩ := o_v hm
      refine z_fldI (pc' := 34) hM261 rfl rfl rfl ez7 ?_
      refine z_ifne (pc' := 37) (t := 48) hM261 rfl rfl (fun h8 => ?_) (fun h8 => ?_)
      · replace hm := o_t hm h8
        refine z_aload_n (pc' := 38) hM261 rfl rfl rfl ?_
        obtain ⟨z9, s10, h11, hm⟩ := o_c hm
        refine z_cv (d := d + 6) (pc' := 41) hM261 rfl hM260 rfl rfl rfl rfl rfl rfl (c260 (d := d + 2) hG h11) rfl ?_
        refine z_ifeq (pc' := 44) (t := 48) hM261 rfl rfl (fun h12 => ?_) (fun h12 => ?_)
        · replace hm := o_t hm h12
          refine z_iconst (pc' := 49) hM261 rfl rfl rfl ?_
          refine z_istore_n (pc' := 50) (l' := [some (zr 12 0 209), some (zi x1), some (zi (0 : Int))]) hM261 rfl rfl rfl rfl ?_
          refine z_goto (t := 15) hM261 rfl ?_
          exact ih hm
        · replace hm := o_f hm h12
          refine z_iconst (pc' := 45) hM261 rfl rfl rfl ?_
          refine z_goto (t := 49) hM261 rfl ?_
          refine z_istore_n (pc' := 50) (l' := [some (zr 12 0 209), some (zi x1), some (zi (1 : Int))]) hM261 rfl rfl rfl rfl ?_
          refine z_goto (t := 15) hM261 rfl ?_
          exact ih hm
      · replace hm := o_f hm h8
        refine z_iconst (pc' := 49) hM261 rfl rfl rfl ?_
        refine z_istore_n (pc' := 50) (l' := [some (zr 12 0 209), some (zi x1), some (zi (0 : Int))]) hM261 rfl rfl rfl rfl ?_
        refine z_goto (t := 15) hM261 rfl ?_
        exact ih hm
    · replace hm := o_f hm h3
      exact c261_53 hG hm
def m261  (s : zS) : Option (Int × zS) := oV (s.1 209 104) fun z1 => oV (s.1 209 102) fun z2 => oV (sI s 209 104 z2) fun s3 => m261_15 zFu z1 (1 : Int) s3
theorem c261 {G : aHp} {d : Nat} (hG : zG G) {s : zS} {r_ : Int} {s_ : zS} (hm : m261  s = some (r_, s_)) : Zp G (d + 7) 261 0 [some (zr 12 0 209), none, none] [] s (zRet none s_) := by
  replace hm : (oV (s.1 209 104) fun z1 => oV (s.1 209 102) fun z2 => oV (sI s 209 104 z2) fun s3 => m261_15 zFu z1 (1 : Int) s3) = some (r_, s_) := hm
  refine z_aload_n (pc' := 1) hM261 rfl rfl rfl ?_
  obtain ⟨z1, ez1, hm⟩ := o_v hm
  refine z_fldI (pc' := 4) hM261 rfl rfl rfl ez1 ?_
  refine z_istore_n (pc' := 5) (l' := [some (zr 12 0 209), some (zi z1), none]) hM261 rfl rfl rfl rfl ?_
  refine z_aload_n (pc' := 6) hM261 rfl rfl rfl ?_
  refine z_aload_n (pc' := 7) hM261 rfl rfl rfl ?_
  obtain ⟨z2, ez2, hm⟩ := o_v hm
  refine z_fldI (pc' := 10) hM261 rfl rfl rfl ez2 ?_
  obtain ⟨s3, es3, hm⟩ := o_v hm
  refine z_putI (pc' := 13) hM261 rfl rfl rfl es3 ?_
  refine z_iconst (pc' := 14) hM261 rfl rfl rfl ?_
  refine z_istore_n (pc' := 15) (l' := [some (zr 12 0 209), some (zi z1), some (zi (1 : Int))]) hM261 rfl rfl rfl rfl ?_
  exact c261_15 hG hm
def m175_80 : Nat → Int → Int → zS → Option (Int × zS)
  | 0, _, _, _ => none
  | n + 1, x1, x3, s => oV (s.1 209 100) fun z1 => if x3 < z1 then oV (s.1 209 51) fun z3 => oX x3 1700 (oV (s.1 285 x3) fun z4 => oX z3 3200 (oV (sI s 251 z3 z4) fun s6 => oV (s6.1 209 51) fun z8 => oZ (z8 + (1 : Int)) fun z9 => oV (sI s6 209 51 z9) fun s11 => oZ (x3 + (1 : Int)) fun z12 => m175_80 n x1 z12 s11)) else oV (s.1 209 51) fun z14 => oX x1 4 (oV (sI s 250 x1 z14) fun s15 => some (0, s15))
theorem c175_80 {G : aHp} {d : Nat} (hG : zG G) : ∀ {n : Nat} {x1 : Int} {x3 : Int} {d2 : Option zV} {s : zS} {r_ : Int} {s_ : zS}, m175_80 n x1 x3 s = some (r_, s_) → Zp G (d + 8) 175 80 [some (zr 12 0 209), some (zi x1), d2, some (zi x3)] [] s (zRet none s_) := by
  intro n
  induction n with
  | zero => intro x1 x3 d2 s r_ s_ hm; cases hm
  | succ n ih =>
  intro x1 x3 d2 s r_ s_ hm
  replace hm : (oV (s.1 209 100) fun z1 => if x3 < z1 then oV (s.1 209 51) fun z3 => oX x3 1700 (oV (s.1 285 x3) fun z4 => oX z3 3200 (oV (sI s 251 z3 z4) fun s6 => oV (s6.1 209 51) fun z8 => oZ (z8 + (1 : Int)) fun z9 => oV (sI s6 209 51 z9) fun s11 => oZ (x3 + (1 : Int)) fun z12 => m175_80 n x1 z12 s11)) else oV (s.1 209 51) fun z14 => oX x1 4 (oV (sI s 250 x1 z14) fun s15 => some (0, s15))) = some (r_, s_) := hm
  refine z_iload_n (pc' := 81) hM175 rfl rfl rfl ?_
  refine z_aload_n (pc' := 82) hM175 rfl rfl rfl ?_
  obtain ⟨z1, ez1, hm⟩ := o_v hm
  refine z_fldI (pc' := 85) hM175 rfl rfl rfl ez1 ?_
  refine z_cmpge (pc' := 88) (t := 119) hM175 rfl rfl (fun h2 => ?_) (fun h2 => ?_)
  · replace hm := o_t hm h2
    refine z_aload_n (pc' := 89) hM175 rfl rfl rfl ?_
    refine z_fldR (pc' := 92) hM175 rfl (zf_12_50 hG) rfl rfl ?_
    refine z_aload_n (pc' := 93) hM175 rfl rfl rfl ?_
    obtain ⟨z3, ez3, hm⟩ := o_v hm
    refine z_fldI (pc' := 96) hM175 rfl rfl rfl ez3 ?_
    refine z_aload_n (pc' := 97) hM175 rfl rfl rfl ?_
    refine z_fldR (pc' := 100) hM175 rfl (zf_12_99 hG) rfl rfl ?_
    refine z_iload_n (pc' := 101) hM175 rfl rfl rfl ?_
    obtain ⟨h5, hm⟩ := o_x hm
    obtain ⟨z4, ez4, hm⟩ := o_v hm
    refine z_iald (pc' := 102) (zGN hG) hM175 rfl rfl h5 ez4 ?_
    obtain ⟨h7, hm⟩ := o_x hm
    obtain ⟨s6, es6, hm⟩ := o_v hm
    refine z_iast (pc' := 103) hM175 rfl rfl h7 es6 ?_
    refine z_aload_n (pc' := 104) hM175 rfl rfl rfl ?_
    refine z_dupA (pc' := 105) hM175 rfl rfl ?_
    obtain ⟨z8, ez8, hm⟩ := o_v hm
    refine z_fldI (pc' := 108) hM175 rfl rfl rfl ez8 ?_
    refine z_iconst (pc' := 109) hM175 rfl rfl rfl ?_
    obtain ⟨z9, ez9, h10, hm⟩ := o_z hm
    refine z_iadd (pc' := 110) hM175 rfl rfl ez9 h10 ?_
    obtain ⟨s11, es11, hm⟩ := o_v hm
    refine z_putI (pc' := 113) hM175 rfl rfl rfl es11 ?_
    obtain ⟨z12, ez12, h13, hm⟩ := o_z hm
    refine z_iinc (pc' := 116) (l' := [some (zr 12 0 209), some (zi x1), zKd d2, some (zi z12)]) hM175 rfl rfl rfl ez12 h13 rfl rfl ?_
    refine z_goto (t := 80) hM175 rfl ?_
    exact ih hm
  · replace hm := o_f hm h2
    refine z_aload_n (pc' := 120) hM175 rfl rfl rfl ?_
    refine z_fldR (pc' := 123) hM175 rfl (zf_12_49 hG) rfl rfl ?_
    refine z_iload_n (pc' := 124) hM175 rfl rfl rfl ?_
    refine z_aload_n (pc' := 125) hM175 rfl rfl rfl ?_
    obtain ⟨z14, ez14, hm⟩ := o_v hm
    refine z_fldI (pc' := 128) hM175 rfl rfl rfl ez14 ?_
    obtain ⟨h16, hm⟩ := o_x hm
    obtain ⟨s15, es15, hm⟩ := o_v hm
    refine z_iast (pc' := 129) hM175 rfl rfl h16 es15 ?_
    cases hm
    exact z_retV hM175 rfl rfl ⟨rfl, rfl⟩
def m175_23 (x1 : Int) (s : zS) : Option (Int × zS) := oV (s.1 209 5) fun z1 => if z1 = (0 : Int) then oV (sI s 209 53 (1 : Int)) fun s3 => oV (sI s3 209 100 (0 : Int)) fun s4 => oV (sI s4 209 102 (0 : Int)) fun s5 => oV (sI s5 209 103 (0 : Int)) fun s6 => oV (sI s6 209 104 (0 : Int)) fun s7 => oC (m261 s7) fun z8 s9 => oV (s9.1 209 5) fun z11 => if z11 = (0 : Int) then oV (s9.1 209 51) fun z13 => oX x1 4 (oV (sI s9 249 x1 z13) fun s14 => m175_80 zFu x1 (0 : Int) s14) else some (0, s9) else some (0, s)
theorem c175_23 {G : aHp} {d : Nat} (hG : zG G) {x1 : Int} {d2 d3 : Option zV} {s : zS} {r_ : Int} {s_ : zS} (hm : m175_23 x1 s = some (r_, s_)) : Zp G (d + 8) 175 23 [some (zr 12 0 209), some (zi x1), d2, d3] [] s (zRet none s_) := by
  replace hm : (oV (s.1 209 5) fun z1 => if z1 = (0 : Int) then oV (sI s 209 53 (1 : Int)) fun s3 => oV (sI s3 209 100 (0 : Int)) fun s4 => oV (sI s4 209 102 (0 : Int)) fun s5 => oV (sI s5 209 103 (0 : Int)) fun s6 => oV (sI s6 209 104 (0 : Int)) fun s7 => oC (m261 s7) fun z8 s9 => oV (s9.1 209 5) fun z11 => if z11 = (0 : Int) then oV (s9.1 209 51) fun z13 => oX x1 4 (oV (sI s9 249 x1 z13) fun s14 => m175_80 zFu x1 (0 : Int) s14) else some (0, s9) else some (0, s)) = some (r_, s_) := hm
  refine z_aload_n (pc' := 24) hM175 rfl rfl rfl ?_
  obtain ⟨z1, ez1, hm⟩ := o_v hm
  refine z_fldI (pc' := 27) hM175 rfl rfl rfl ez1 ?_
  refine z_ifeq (pc' := 30) (t := 31) hM175 rfl rfl (fun h2 => ?_) (fun h2 => ?_)
  · replace hm := o_t hm h2
    refine z_aload_n (pc' := 32) hM175 rfl rfl rfl ?_
    refine z_iconst (pc' := 33) hM175 rfl rfl rfl ?_
    obtain ⟨s3, es3, hm⟩ := o_v hm
    refine z_putZ (pc' := 36) hM175 rfl (Or.inr rfl) rfl rfl es3 ?_
    refine z_aload_n (pc' := 37) hM175 rfl rfl rfl ?_
    refine z_iconst (pc' := 38) hM175 rfl rfl rfl ?_
    obtain ⟨s4, es4, hm⟩ := o_v hm
    refine z_putI (pc' := 41) hM175 rfl rfl rfl es4 ?_
    refine z_aload_n (pc' := 42) hM175 rfl rfl rfl ?_
    refine z_iconst (pc' := 43) hM175 rfl rfl rfl ?_
    obtain ⟨s5, es5, hm⟩ := o_v hm
    refine z_putI (pc' := 46) hM175 rfl rfl rfl es5 ?_
    refine z_aload_n (pc' := 47) hM175 rfl rfl rfl ?_
    refine z_iconst (pc' := 48) hM175 rfl rfl rfl ?_
    obtain ⟨s6, es6, hm⟩ := o_v hm
    refine z_putI (pc' := 51) hM175 rfl rfl rfl es6 ?_
    refine z_aload_n (pc' := 52) hM175 rfl rfl rfl ?_
    refine z_iconst (pc' := 53) hM175 rfl rfl rfl ?_
    obtain ⟨s7, es7, hm⟩ := o_v hm
    refine z_putI (pc' := 56) hM175 rfl rfl rfl es7 ?_
    refine z_aload_n (pc' := 57) hM175 rfl rfl rfl ?_
    obtain ⟨z8, s9, h10, hm⟩ := o_c hm
    refine z_cvV (d := d + 7) (pc' := 60) hM175 rfl hM261 rfl rfl rfl rfl rfl rfl (c261 (d := d) hG h10) rfl ?_
    refine z_aload_n (pc' := 61) hM175 rfl rfl rfl ?_
    obtain ⟨z11, ez11, hm⟩ := o_v hm
    refine z_fldI (pc' := 64) hM175 rfl rfl rfl ez11 ?_
    refine z_ifeq (pc' := 67) (t := 68) hM175 rfl rfl (fun h12 => ?_) (fun h12 => ?_)
    · replace hm := o_t hm h12
      refine z_aload_n (pc' := 69) hM175 rfl rfl rfl ?_
      refine z_fldR (pc' := 72) hM175 rfl (zf_12_48 hG) rfl rfl ?_
      refine z_iload_n (pc' := 73) hM175 rfl rfl rfl ?_
      refine z_aload_n (pc' := 74) hM175 rfl rfl rfl ?_
      obtain ⟨z13, ez13, hm⟩ := o_v hm
      refine z_fldI (pc' := 77) hM175 rfl rfl rfl ez13 ?_
      obtain ⟨h15, hm⟩ := o_x hm
      obtain ⟨s14, es14, hm⟩ := o_v hm
      refine z_iast (pc' := 78) hM175 rfl rfl h15 es14 ?_
      refine z_iconst (pc' := 79) hM175 rfl rfl rfl ?_
      refine z_istore_n (pc' := 80) (l' := [some (zr 12 0 209), some (zi x1), zKd d2, some (zi (0 : Int))]) hM175 rfl rfl rfl rfl ?_
      exact c175_80 hG hm
    · replace hm := o_f hm h12
      cases hm
      exact z_retV hM175 rfl rfl ⟨rfl, rfl⟩
  · replace hm := o_f hm h2
    cases hm
    exact z_retV hM175 rfl rfl ⟨rfl, rfl⟩
def m175 (x1 : Int) (x2 : Int) (s : zS) : Option (Int × zS) := oV (s.1 209 5) fun z1 => if z1 = (0 : Int) then oX x1 4 (oV (s.1 249 x1) fun z3 => if z3 = (-1 : Int) then m175_23 x1 s else oC (m153 (5 : Int) x2 s) fun z6 s7 => m175_23 x1 s7) else m175_23 x1 s
theorem c175 {G : aHp} {d : Nat} (hG : zG G) {x1 : Int} {x2 : Int} {s : zS} {r_ : Int} {s_ : zS} (hm : m175 x1 x2 s = some (r_, s_)) : Zp G (d + 8) 175 0 [some (zr 12 0 209), some (zi x1), some (zi x2), none] [] s (zRet none s_) := by
  replace hm : (oV (s.1 209 5) fun z1 => if z1 = (0 : Int) then oX x1 4 (oV (s.1 249 x1) fun z3 => if z3 = (-1 : Int) then m175_23 x1 s else oC (m153 (5 : Int) x2 s) fun z6 s7 => m175_23 x1 s7) else m175_23 x1 s) = some (r_, s_) := hm
  refine z_aload_n (pc' := 1) hM175 rfl rfl rfl ?_
  obtain ⟨z1, ez1, hm⟩ := o_v hm
  refine z_fldI (pc' := 4) hM175 rfl rfl rfl ez1 ?_
  refine z_ifne (pc' := 7) (t := 23) hM175 rfl rfl (fun h2 => ?_) (fun h2 => ?_)
  · replace hm := o_t hm h2
    refine z_aload_n (pc' := 8) hM175 rfl rfl rfl ?_
    refine z_fldR (pc' := 11) hM175 rfl (zf_12_48 hG) rfl rfl ?_
    refine z_iload_n (pc' := 12) hM175 rfl rfl rfl ?_
    obtain ⟨h4, hm⟩ := o_x hm
    obtain ⟨z3, ez3, hm⟩ := o_v hm
    refine z_iald (pc' := 13) (zGN hG) hM175 rfl rfl h4 ez3 ?_
    refine z_iconst (pc' := 14) hM175 rfl rfl rfl ?_
    refine z_cmpeq (pc' := 17) (t := 23) hM175 rfl rfl (fun h5 => ?_) (fun h5 => ?_)
    · replace hm := o_t hm h5
      exact c175_23 hG hm
    · replace hm := o_f hm h5
      refine z_aload_n (pc' := 18) hM175 rfl rfl rfl ?_
      refine z_iconst (pc' := 19) hM175 rfl rfl rfl ?_
      refine z_iload_n (pc' := 20) hM175 rfl rfl rfl ?_
      obtain ⟨z6, s7, h8, hm⟩ := o_c hm
      refine z_cvV (d := d + 7) (pc' := 23) hM175 rfl hM153 rfl rfl rfl rfl rfl rfl (c153 (d := d + 6) hG h8) rfl ?_
      exact c175_23 hG hm
  · replace hm := o_f hm h2
    exact c175_23 hG hm
def m176_211  (s : zS) : Option (Int × zS) := oC (m161 (59 : Int) s) fun z1 s2 => oV (s2.1 209 52) fun z4 => oZ (z4 + (1 : Int)) fun z5 => oV (sI s2 209 52 z5) fun s7 => some (0, s7)
set_option maxRecDepth 20000 in
theorem c176_211 {G : aHp} {d : Nat} (hG : zG G) {d1 : Option zV} {s : zS} {r_ : Int} {s_ : zS} (hm : m176_211  s = some (r_, s_)) : Zp G (d + 9) 176 211 [some (zr 12 0 209), d1] [] s (zRet none s_) := by
  replace hm : (oC (m161 (59 : Int) s) fun z1 s2 => oV (s2.1 209 52) fun z4 => oZ (z4 + (1 : Int)) fun z5 => oV (sI s2 209 52 z5) fun s7 => some (0, s7)) = some (r_, s_) := hm
  refine z_aload_n (pc' := 212) hM176 rfl rfl rfl ?_
  refine z_bipush (pc' := 214) hM176 rfl rfl rfl ?_
  obtain ⟨z1, s2, h3, hm⟩ := o_c hm
  refine z_cvV (d := d + 8) (pc' := 217) hM176 rfl hM161 rfl rfl rfl rfl rfl rfl (c161 (d := d + 5) hG h3) rfl ?_
  refine z_aload_n (pc' := 218) hM176 rfl rfl rfl ?_
  refine z_dupA (pc' := 219) hM176 rfl rfl ?_
  obtain ⟨z4, ez4, hm⟩ := o_v hm
  refine z_fldI (pc' := 222) hM176 rfl rfl rfl ez4 ?_
  refine z_iconst (pc' := 223) hM176 rfl rfl rfl ?_
  obtain ⟨z5, ez5, h6, hm⟩ := o_z hm
  refine z_iadd (pc' := 224) hM176 rfl rfl ez5 h6 ?_
  obtain ⟨s7, es7, hm⟩ := o_v hm
  refine z_putI (pc' := 227) hM176 rfl rfl rfl es7 ?_
  cases hm
  exact z_retV hM176 rfl rfl ⟨rfl, rfl⟩
def m176  (s : zS) : Option (Int × zS) := oV (s.1 209 2) fun z1 => oV (s.1 209 52) fun z2 => if z2 = (80 : Int) then oC (m153 (5 : Int) z1 s) fun z4 s5 => some (0, s5) else oC (m158 5 212 s) fun z7 s8 => if z7 = (0 : Int) then oC (m158 4 213 s8) fun z11 s12 => if z11 = (0 : Int) then oC (m158 4 215 s12) fun z15 s16 => if z15 = (0 : Int) then oC (m158 6 219 s16) fun z19 s20 => if z19 = (0 : Int) then oC (m158 4 223 s20) fun z23 s24 => if z23 = (0 : Int) then oC (m158 6 224 s24) fun z27 s28 => if z27 = (0 : Int) then oC (m158 3 225 s28) fun z31 s32 => if z31 = (0 : Int) then oC (m158 4 226 s32) fun z35 s36 => if z35 = (0 : Int) then oC (m159 4 227 s36) fun z39 s40 => oC (m162 (0 : Int) (100 : Int) s40) fun z42 s43 => oX (2 : Int) 6 (oV (sI s43 248 (2 : Int) z42) fun s45 => m176_211 s45) else oC (m162 (1 : Int) (9 : Int) s36) fun z47 s48 => oX (1 : Int) 6 (oV (sI s48 248 (1 : Int) z47) fun s50 => m176_211 s50) else oC (m162 (0 : Int) (2 : Int) s32) fun z52 s53 => oX (0 : Int) 6 (oV (sI s53 248 (0 : Int) z52) fun s55 => m176_211 s55) else oC (m175 (1 : Int) z1 s28) fun z57 s58 => m176_211 s58 else oC (m175 (0 : Int) z1 s24) fun z60 s61 => m176_211 s61 else oC (m174 z1 s20) fun z63 s64 => m176_211 s64 else oC (m173 z1 s16) fun z66 s67 => m176_211 s67 else oC (m172 z1 s12) fun z69 s70 => m176_211 s70 else oC (m171 z1 s8) fun z72 s73 => m176_211 s73
set_option maxRecDepth 20000 in
theorem c176 {G : aHp} {d : Nat} (hG : zG G) {s : zS} {r_ : Int} {s_ : zS} (hm : m176  s = some (r_, s_)) : Zp G (d + 9) 176 0 [some (zr 12 0 209), none] [] s (zRet none s_) := by
  replace hm : (oV (s.1 209 2) fun z1 => oV (s.1 209 52) fun z2 => if z2 = (80 : Int) then oC (m153 (5 : Int) z1 s) fun z4 s5 => some (0, s5) else oC (m158 5 212 s) fun z7 s8 => if z7 = (0 : Int) then oC (m158 4 213 s8) fun z11 s12 => if z11 = (0 : Int) then oC (m158 4 215 s12) fun z15 s16 => if z15 = (0 : Int) then oC (m158 6 219 s16) fun z19 s20 => if z19 = (0 : Int) then oC (m158 4 223 s20) fun z23 s24 => if z23 = (0 : Int) then oC (m158 6 224 s24) fun z27 s28 => if z27 = (0 : Int) then oC (m158 3 225 s28) fun z31 s32 => if z31 = (0 : Int) then oC (m158 4 226 s32) fun z35 s36 => if z35 = (0 : Int) then oC (m159 4 227 s36) fun z39 s40 => oC (m162 (0 : Int) (100 : Int) s40) fun z42 s43 => oX (2 : Int) 6 (oV (sI s43 248 (2 : Int) z42) fun s45 => m176_211 s45) else oC (m162 (1 : Int) (9 : Int) s36) fun z47 s48 => oX (1 : Int) 6 (oV (sI s48 248 (1 : Int) z47) fun s50 => m176_211 s50) else oC (m162 (0 : Int) (2 : Int) s32) fun z52 s53 => oX (0 : Int) 6 (oV (sI s53 248 (0 : Int) z52) fun s55 => m176_211 s55) else oC (m175 (1 : Int) z1 s28) fun z57 s58 => m176_211 s58 else oC (m175 (0 : Int) z1 s24) fun z60 s61 => m176_211 s61 else oC (m174 z1 s20) fun z63 s64 => m176_211 s64 else oC (m173 z1 s16) fun z66 s67 => m176_211 s67 else oC (m172 z1 s12) fun z69 s70 => m176_211 s70 else oC (m171 z1 s8) fun z72 s73 => m176_211 s73) = some (r_, s_) := hm
  refine z_aload_n (pc' := 1) hM176 rfl rfl rfl ?_
  obtain ⟨z1, ez1, hm⟩ := o_v hm
  refine z_fldI (pc' := 4) hM176 rfl rfl rfl ez1 ?_
  refine z_istore_n (pc' := 5) (l' := [some (zr 12 0 209), some (zi z1)]) hM176 rfl rfl rfl rfl ?_
  refine z_aload_n (pc' := 6) hM176 rfl rfl rfl ?_
  obtain ⟨z2, ez2, hm⟩ := o_v hm
  refine z_fldI (pc' := 9) hM176 rfl rfl rfl ez2 ?_
  refine z_bipush (pc' := 11) hM176 rfl rfl rfl ?_
  refine z_cmpne (pc' := 14) (t := 21) hM176 rfl rfl (fun h3 => ?_) (fun h3 => ?_)
  · replace hm := o_t hm h3
    refine z_aload_n (pc' := 15) hM176 rfl rfl rfl ?_
    refine z_iconst (pc' := 16) hM176 rfl rfl rfl ?_
    refine z_iload_n (pc' := 17) hM176 rfl rfl rfl ?_
    obtain ⟨z4, s5, h6, hm⟩ := o_c hm
    refine z_cvV (d := d + 8) (pc' := 20) hM176 rfl hM153 rfl rfl rfl rfl rfl rfl (c153 (d := d + 7) hG h6) rfl ?_
    cases hm
    exact z_retV hM176 rfl rfl ⟨rfl, rfl⟩
  · replace hm := o_f hm h3
    refine z_aload_n (pc' := 22) hM176 rfl rfl rfl ?_
    refine z_aload_n (pc' := 23) hM176 rfl rfl rfl ?_
    refine z_fldR (pc' := 26) hM176 rfl (zf_12_10 hG) rfl rfl ?_
    obtain ⟨z7, s8, h9, hm⟩ := o_c hm
    refine z_cv (d := d + 8) (pc' := 29) hM176 rfl hM158 rfl rfl rfl rfl rfl rfl (c158 (d := d + 5) hG h9) rfl ?_
    refine z_ifeq (pc' := 32) (t := 40) hM176 rfl rfl (fun h10 => ?_) (fun h10 => ?_)
    · replace hm := o_t hm h10
      refine z_aload_n (pc' := 41) hM176 rfl rfl rfl ?_
      refine z_aload_n (pc' := 42) hM176 rfl rfl rfl ?_
      refine z_fldR (pc' := 45) hM176 rfl (zf_12_11 hG) rfl rfl ?_
      obtain ⟨z11, s12, h13, hm⟩ := o_c hm
      refine z_cv (d := d + 8) (pc' := 48) hM176 rfl hM158 rfl rfl rfl rfl rfl rfl (c158 (d := d + 5) hG h13) rfl ?_
      refine z_ifeq (pc' := 51) (t := 59) hM176 rfl rfl (fun h14 => ?_) (fun h14 => ?_)
      · replace hm := o_t hm h14
        refine z_aload_n (pc' := 60) hM176 rfl rfl rfl ?_
        refine z_aload_n (pc' := 61) hM176 rfl rfl rfl ?_
        refine z_fldR (pc' := 64) hM176 rfl (zf_12_13 hG) rfl rfl ?_
        obtain ⟨z15, s16, h17, hm⟩ := o_c hm
        refine z_cv (d := d + 8) (pc' := 67) hM176 rfl hM158 rfl rfl rfl rfl rfl rfl (c158 (d := d + 5) hG h17) rfl ?_
        refine z_ifeq (pc' := 70) (t := 78) hM176 rfl rfl (fun h18 => ?_) (fun h18 => ?_)
        · replace hm := o_t hm h18
          refine z_aload_n (pc' := 79) hM176 rfl rfl rfl ?_
          refine z_aload_n (pc' := 80) hM176 rfl rfl rfl ?_
          refine z_fldR (pc' := 83) hM176 rfl (zf_12_17 hG) rfl rfl ?_
          obtain ⟨z19, s20, h21, hm⟩ := o_c hm
          refine z_cv (d := d + 8) (pc' := 86) hM176 rfl hM158 rfl rfl rfl rfl rfl rfl (c158 (d := d + 5) hG h21) rfl ?_
          refine z_ifeq (pc' := 89) (t := 97) hM176 rfl rfl (fun h22 => ?_) (fun h22 => ?_)
          · replace hm := o_t hm h22
            refine z_aload_n (pc' := 98) hM176 rfl rfl rfl ?_
            refine z_aload_n (pc' := 99) hM176 rfl rfl rfl ?_
            refine z_fldR (pc' := 102) hM176 rfl (zf_12_21 hG) rfl rfl ?_
            obtain ⟨z23, s24, h25, hm⟩ := o_c hm
            refine z_cv (d := d + 8) (pc' := 105) hM176 rfl hM158 rfl rfl rfl rfl rfl rfl (c158 (d := d + 5) hG h25) rfl ?_
            refine z_ifeq (pc' := 108) (t := 117) hM176 rfl rfl (fun h26 => ?_) (fun h26 => ?_)
            · replace hm := o_t hm h26
              refine z_aload_n (pc' := 118) hM176 rfl rfl rfl ?_
              refine z_aload_n (pc' := 119) hM176 rfl rfl rfl ?_
              refine z_fldR (pc' := 122) hM176 rfl (zf_12_22 hG) rfl rfl ?_
              obtain ⟨z27, s28, h29, hm⟩ := o_c hm
              refine z_cv (d := d + 8) (pc' := 125) hM176 rfl hM158 rfl rfl rfl rfl rfl rfl (c158 (d := d + 5) hG h29) rfl ?_
              refine z_ifeq (pc' := 128) (t := 137) hM176 rfl rfl (fun h30 => ?_) (fun h30 => ?_)
              · replace hm := o_t hm h30
                refine z_aload_n (pc' := 138) hM176 rfl rfl rfl ?_
                refine z_aload_n (pc' := 139) hM176 rfl rfl rfl ?_
                refine z_fldR (pc' := 142) hM176 rfl (zf_12_23 hG) rfl rfl ?_
                obtain ⟨z31, s32, h33, hm⟩ := o_c hm
                refine z_cv (d := d + 8) (pc' := 145) hM176 rfl hM158 rfl rfl rfl rfl rfl rfl (c158 (d := d + 5) hG h33) rfl ?_
                refine z_ifeq (pc' := 148) (t := 163) hM176 rfl rfl (fun h34 => ?_) (fun h34 => ?_)
                · replace hm := o_t hm h34
                  refine z_aload_n (pc' := 164) hM176 rfl rfl rfl ?_
                  refine z_aload_n (pc' := 165) hM176 rfl rfl rfl ?_
                  refine z_fldR (pc' := 168) hM176 rfl (zf_12_24 hG) rfl rfl ?_
                  obtain ⟨z35, s36, h37, hm⟩ := o_c hm
                  refine z_cv (d := d + 8) (pc' := 171) hM176 rfl hM158 rfl rfl rfl rfl rfl rfl (c158 (d := d + 5) hG h37) rfl ?_
                  refine z_ifeq (pc' := 174) (t := 190) hM176 rfl rfl (fun h38 => ?_) (fun h38 => ?_)
                  · replace hm := o_t hm h38
                    refine z_aload_n (pc' := 191) hM176 rfl rfl rfl ?_
                    refine z_aload_n (pc' := 192) hM176 rfl rfl rfl ?_
                    refine z_fldR (pc' := 195) hM176 rfl (zf_12_25 hG) rfl rfl ?_
                    obtain ⟨z39, s40, h41, hm⟩ := o_c hm
                    refine z_cvV (d := d + 8) (pc' := 198) hM176 rfl hM159 rfl rfl rfl rfl rfl rfl (c159 (d := d + 4) hG h41) rfl ?_
                    refine z_aload_n (pc' := 199) hM176 rfl rfl rfl ?_
                    refine z_fldR (pc' := 202) hM176 rfl (zf_12_47 hG) rfl rfl ?_
                    refine z_iconst (pc' := 203) hM176 rfl rfl rfl ?_
                    refine z_aload_n (pc' := 204) hM176 rfl rfl rfl ?_
                    refine z_iconst (pc' := 205) hM176 rfl rfl rfl ?_
                    refine z_bipush (pc' := 207) hM176 rfl rfl rfl ?_
                    obtain ⟨z42, s43, h44, hm⟩ := o_c hm
                    refine z_cv (d := d + 8) (pc' := 210) hM176 rfl hM162 rfl rfl rfl rfl rfl rfl (c162 (d := d + 6) hG h44) rfl ?_
                    obtain ⟨h46, hm⟩ := o_x hm
                    obtain ⟨s45, es45, hm⟩ := o_v hm
                    refine z_iast (pc' := 211) hM176 rfl rfl h46 es45 ?_
                    exact c176_211 hG hm
                  · replace hm := o_f hm h38
                    refine z_aload_n (pc' := 175) hM176 rfl rfl rfl ?_
                    refine z_fldR (pc' := 178) hM176 rfl (zf_12_47 hG) rfl rfl ?_
                    refine z_iconst (pc' := 179) hM176 rfl rfl rfl ?_
                    refine z_aload_n (pc' := 180) hM176 rfl rfl rfl ?_
                    refine z_iconst (pc' := 181) hM176 rfl rfl rfl ?_
                    refine z_bipush (pc' := 183) hM176 rfl rfl rfl ?_
                    obtain ⟨z47, s48, h49, hm⟩ := o_c hm
                    refine z_cv (d := d + 8) (pc' := 186) hM176 rfl hM162 rfl rfl rfl rfl rfl rfl (c162 (d := d + 6) hG h49) rfl ?_
                    obtain ⟨h51, hm⟩ := o_x hm
                    obtain ⟨s50, es50, hm⟩ := o_v hm
                    refine z_iast (pc' := 187) hM176 rfl rfl h51 es50 ?_
                    refine z_goto (t := 211) hM176 rfl ?_
                    exact c176_211 hG hm
                · replace hm := o_f hm h34
                  refine z_aload_n (pc' := 149) hM176 rfl rfl rfl ?_
                  refine z_fldR (pc' := 152) hM176 rfl (zf_12_47 hG) rfl rfl ?_
                  refine z_iconst (pc' := 153) hM176 rfl rfl rfl ?_
                  refine z_aload_n (pc' := 154) hM176 rfl rfl rfl ?_
                  refine z_iconst (pc' := 155) hM176 rfl rfl rfl ?_
                  refine z_iconst (pc' := 156) hM176 rfl rfl rfl ?_
                  obtain ⟨z52, s53, h54, hm⟩ := o_c hm
                  refine z_cv (d := d + 8) (pc' := 159) hM176 rfl hM162 rfl rfl rfl rfl rfl rfl (c162 (d := d + 6) hG h54) rfl ?_
                  obtain ⟨h56, hm⟩ := o_x hm
                  obtain ⟨s55, es55, hm⟩ := o_v hm
                  refine z_iast (pc' := 160) hM176 rfl rfl h56 es55 ?_
                  refine z_goto (t := 211) hM176 rfl ?_
                  exact c176_211 hG hm
              · replace hm := o_f hm h30
                refine z_aload_n (pc' := 129) hM176 rfl rfl rfl ?_
                refine z_iconst (pc' := 130) hM176 rfl rfl rfl ?_
                refine z_iload_n (pc' := 131) hM176 rfl rfl rfl ?_
                obtain ⟨z57, s58, h59, hm⟩ := o_c hm
                refine z_cvV (d := d + 8) (pc' := 134) hM176 rfl hM175 rfl rfl rfl rfl rfl rfl (c175 (d := d) hG h59) rfl ?_
                refine z_goto (t := 211) hM176 rfl ?_
                exact c176_211 hG hm
            · replace hm := o_f hm h26
              refine z_aload_n (pc' := 109) hM176 rfl rfl rfl ?_
              refine z_iconst (pc' := 110) hM176 rfl rfl rfl ?_
              refine z_iload_n (pc' := 111) hM176 rfl rfl rfl ?_
              obtain ⟨z60, s61, h62, hm⟩ := o_c hm
              refine z_cvV (d := d + 8) (pc' := 114) hM176 rfl hM175 rfl rfl rfl rfl rfl rfl (c175 (d := d) hG h62) rfl ?_
              refine z_goto (t := 211) hM176 rfl ?_
              exact c176_211 hG hm
          · replace hm := o_f hm h22
            refine z_aload_n (pc' := 90) hM176 rfl rfl rfl ?_
            refine z_iload_n (pc' := 91) hM176 rfl rfl rfl ?_
            obtain ⟨z63, s64, h65, hm⟩ := o_c hm
            refine z_cvV (d := d + 8) (pc' := 94) hM176 rfl hM174 rfl rfl rfl rfl rfl rfl (c174 (d := d + 2) hG h65) rfl ?_
            refine z_goto (t := 211) hM176 rfl ?_
            exact c176_211 hG hm
        · replace hm := o_f hm h18
          refine z_aload_n (pc' := 71) hM176 rfl rfl rfl ?_
          refine z_iload_n (pc' := 72) hM176 rfl rfl rfl ?_
          obtain ⟨z66, s67, h68, hm⟩ := o_c hm
          refine z_cvV (d := d + 8) (pc' := 75) hM176 rfl hM173 rfl rfl rfl rfl rfl rfl (c173 (d := d + 2) hG h68) rfl ?_
          refine z_goto (t := 211) hM176 rfl ?_
          exact c176_211 hG hm
      · replace hm := o_f hm h14
        refine z_aload_n (pc' := 52) hM176 rfl rfl rfl ?_
        refine z_iload_n (pc' := 53) hM176 rfl rfl rfl ?_
        obtain ⟨z69, s70, h71, hm⟩ := o_c hm
        refine z_cvV (d := d + 8) (pc' := 56) hM176 rfl hM172 rfl rfl rfl rfl rfl rfl (c172 (d := d + 2) hG h71) rfl ?_
        refine z_goto (t := 211) hM176 rfl ?_
        exact c176_211 hG hm
    · replace hm := o_f hm h10
      refine z_aload_n (pc' := 33) hM176 rfl rfl rfl ?_
      refine z_iload_n (pc' := 34) hM176 rfl rfl rfl ?_
      obtain ⟨z72, s73, h74, hm⟩ := o_c hm
      refine z_cvV (d := d + 8) (pc' := 37) hM176 rfl hM171 rfl rfl rfl rfl rfl rfl (c171 (d := d + 2) hG h74) rfl ?_
      refine z_goto (t := 211) hM176 rfl ?_
      exact c176_211 hG hm
def m183  (s : zS) : Option (Int × zS) := oX (6 : Int) 8 (oV (s.1 242 (6 : Int)) fun z1 => some (z1, s))
theorem c183 {G : aHp} {d : Nat} (hG : zG G) {s : zS} {r_ : Int} {s_ : zS} (hm : m183  s = some (r_, s_)) : Zp G (d + 1) 183 0 [some (zr 12 0 209)] [] s (zRet (some (zi r_)) s_) := by
  replace hm : (oX (6 : Int) 8 (oV (s.1 242 (6 : Int)) fun z1 => some (z1, s))) = some (r_, s_) := hm
  refine z_aload_n (pc' := 1) hM183 rfl rfl rfl ?_
  refine z_fldR (pc' := 4) hM183 rfl (zf_12_41 hG) rfl rfl ?_
  refine z_bipush (pc' := 6) hM183 rfl rfl rfl ?_
  obtain ⟨h2, hm⟩ := o_x hm
  obtain ⟨z1, ez1, hm⟩ := o_v hm
  refine z_iald (pc' := 7) (zGN hG) hM183 rfl rfl h2 ez1 ?_
  cases hm
  exact z_retI hM183 rfl rfl ⟨rfl, rfl⟩
def m188 (x1 : Int) (s : zS) : Option (Int × zS) := oZ ((3 : Int) * x1) fun z1 => oZ ((10 : Int) + z1) fun z3 => oX z3 37 (oV (s.1 254 z3) fun z5 => some (z5, s))
theorem c188 {G : aHp} {d : Nat} (hG : zG G) {x1 : Int} {s : zS} {r_ : Int} {s_ : zS} (hm : m188 x1 s = some (r_, s_)) : Zp G (d + 1) 188 0 [some (zr 12 0 209), some (zi x1)] [] s (zRet (some (zi r_)) s_) := by
  replace hm : (oZ ((3 : Int) * x1) fun z1 => oZ ((10 : Int) + z1) fun z3 => oX z3 37 (oV (s.1 254 z3) fun z5 => some (z5, s))) = some (r_, s_) := hm
  refine z_aload_n (pc' := 1) hM188 rfl rfl rfl ?_
  refine z_fldR (pc' := 4) hM188 rfl (zf_12_56 hG) rfl rfl ?_
  refine z_bipush (pc' := 6) hM188 rfl rfl rfl ?_
  refine z_iconst (pc' := 7) hM188 rfl rfl rfl ?_
  refine z_iload_n (pc' := 8) hM188 rfl rfl rfl ?_
  obtain ⟨z1, ez1, h2, hm⟩ := o_z hm
  refine z_imul (pc' := 9) hM188 rfl rfl ez1 h2 ?_
  obtain ⟨z3, ez3, h4, hm⟩ := o_z hm
  refine z_iadd (pc' := 10) hM188 rfl rfl ez3 h4 ?_
  obtain ⟨h6, hm⟩ := o_x hm
  obtain ⟨z5, ez5, hm⟩ := o_v hm
  refine z_iald (pc' := 11) (zGN hG) hM188 rfl rfl h6 ez5 ?_
  cases hm
  exact z_retI hM188 rfl rfl ⟨rfl, rfl⟩
def m192_2 : Nat → Int → Int → zS → Option (Int × zS)
  | 0, _, _, _ => none
  | n + 1, x1, x2, s => oC (m183 s) fun z1 s2 => if x2 < z1 then oC (m188 x2 s2) fun z5 s6 => if z5 = x1 then some (x2, s6) else oZ (x2 + (1 : Int)) fun z9 => m192_2 n x1 z9 s6 else some ((-1 : Int), s2)
theorem c192_2 {G : aHp} {d : Nat} (hG : zG G) : ∀ {n : Nat} {x1 : Int} {x2 : Int} {s : zS} {r_ : Int} {s_ : zS}, m192_2 n x1 x2 s = some (r_, s_) → Zp G (d + 2) 192 2 [some (zr 12 0 209), some (zi x1), some (zi x2)] [] s (zRet (some (zi r_)) s_) := by
  intro n
  induction n with
  | zero => intro x1 x2 s r_ s_ hm; cases hm
  | succ n ih =>
  intro x1 x2 s r_ s_ hm
  replace hm : (oC (m183 s) fun z1 s2 => if x2 < z1 then oC (m188 x2 s2) fun z5 s6 => if z5 = x1 then some (x2, s6) else oZ (x2 + (1 : Int)) fun z9 => m192_2 n x1 z9 s6 else some ((-1 : Int), s2)) = some (r_, s_) := hm
  refine z_iload_n (pc' := 3) hM192 rfl rfl rfl ?_
  refine z_aload_n (pc' := 4) hM192 rfl rfl rfl ?_
  obtain ⟨z1, s2, h3, hm⟩ := o_c hm
  refine z_cv (d := d + 1) (pc' := 7) hM192 rfl hM183 rfl rfl rfl rfl rfl rfl (c183 (d := d) hG h3) rfl ?_
  refine z_cmpge (pc' := 10) (t := 27) hM192 rfl rfl (fun h4 => ?_) (fun h4 => ?_)
  · replace hm := o_t hm h4
    refine z_aload_n (pc' := 11) hM192 rfl rfl rfl ?_
    refine z_iload_n (pc' := 12) hM192 rfl rfl rfl ?_
    obtain ⟨z5, s6, h7, hm⟩ := o_c hm
    refine z_cv (d := d + 1) (pc' := 15) hM192 rfl hM188 rfl rfl rfl rfl rfl rfl (c188 (d := d) hG h7) rfl ?_
    refine z_iload_n (pc' := 16) hM192 rfl rfl rfl ?_
    refine z_cmpne (pc' := 19) (t := 21) hM192 rfl rfl (fun h8 => ?_) (fun h8 => ?_)
    · replace hm := o_t hm h8
      refine z_iload_n (pc' := 20) hM192 rfl rfl rfl ?_
      cases hm
      exact z_retI hM192 rfl rfl ⟨rfl, rfl⟩
    · replace hm := o_f hm h8
      obtain ⟨z9, ez9, h10, hm⟩ := o_z hm
      refine z_iinc (pc' := 24) (l' := [some (zr 12 0 209), some (zi x1), some (zi z9)]) hM192 rfl rfl rfl ez9 h10 rfl rfl ?_
      refine z_goto (t := 2) hM192 rfl ?_
      exact ih hm
  · replace hm := o_f hm h4
    refine z_iconst (pc' := 28) hM192 rfl rfl rfl ?_
    cases hm
    exact z_retI hM192 rfl rfl ⟨rfl, rfl⟩
def m192 (x1 : Int) (s : zS) : Option (Int × zS) := m192_2 zFu x1 (0 : Int) s
theorem c192 {G : aHp} {d : Nat} (hG : zG G) {x1 : Int} {s : zS} {r_ : Int} {s_ : zS} (hm : m192 x1 s = some (r_, s_)) : Zp G (d + 2) 192 0 [some (zr 12 0 209), some (zi x1), none] [] s (zRet (some (zi r_)) s_) := by
  replace hm : (m192_2 zFu x1 (0 : Int) s) = some (r_, s_) := hm
  refine z_iconst (pc' := 1) hM192 rfl rfl rfl ?_
  refine z_istore_n (pc' := 2) (l' := [some (zr 12 0 209), some (zi x1), some (zi (0 : Int))]) hM192 rfl rfl rfl rfl ?_
  exact c192_2 hG hm
def m195 (x1 : Int) (s : zS) : Option (Int × zS) := oX (28 : Int) 37 (oV (s.1 254 (28 : Int)) fun z1 => oZ ((29 : Int) + z1) fun z3 => oX z3 37 (oV (sI s 254 z3 x1) fun s5 => oX (28 : Int) 37 (oV (s5.1 254 (28 : Int)) fun z7 => oZ (z7 + (1 : Int)) fun z9 => oX (28 : Int) 37 (oV (sI s5 254 (28 : Int) z9) fun s11 => some (0, s11)))))
theorem c195 {G : aHp} {d : Nat} (hG : zG G) {x1 : Int} {s : zS} {r_ : Int} {s_ : zS} (hm : m195 x1 s = some (r_, s_)) : Zp G (d + 1) 195 0 [some (zr 12 0 209), some (zi x1)] [] s (zRet none s_) := by
  replace hm : (oX (28 : Int) 37 (oV (s.1 254 (28 : Int)) fun z1 => oZ ((29 : Int) + z1) fun z3 => oX z3 37 (oV (sI s 254 z3 x1) fun s5 => oX (28 : Int) 37 (oV (s5.1 254 (28 : Int)) fun z7 => oZ (z7 + (1 : Int)) fun z9 => oX (28 : Int) 37 (oV (sI s5 254 (28 : Int) z9) fun s11 => some (0, s11)))))) = some (r_, s_) := hm
  refine z_aload_n (pc' := 1) hM195 rfl rfl rfl ?_
  refine z_fldR (pc' := 4) hM195 rfl (zf_12_56 hG) rfl rfl ?_
  refine z_bipush (pc' := 6) hM195 rfl rfl rfl ?_
  refine z_aload_n (pc' := 7) hM195 rfl rfl rfl ?_
  refine z_fldR (pc' := 10) hM195 rfl (zf_12_56 hG) rfl rfl ?_
  refine z_bipush (pc' := 12) hM195 rfl rfl rfl ?_
  obtain ⟨h2, hm⟩ := o_x hm
  obtain ⟨z1, ez1, hm⟩ := o_v hm
  refine z_iald (pc' := 13) (zGN hG) hM195 rfl rfl h2 ez1 ?_
  obtain ⟨z3, ez3, h4, hm⟩ := o_z hm
  refine z_iadd (pc' := 14) hM195 rfl rfl ez3 h4 ?_
  refine z_iload_n (pc' := 15) hM195 rfl rfl rfl ?_
  obtain ⟨h6, hm⟩ := o_x hm
  obtain ⟨s5, es5, hm⟩ := o_v hm
  refine z_iast (pc' := 16) hM195 rfl rfl h6 es5 ?_
  refine z_aload_n (pc' := 17) hM195 rfl rfl rfl ?_
  refine z_fldR (pc' := 20) hM195 rfl (zf_12_56 hG) rfl rfl ?_
  refine z_bipush (pc' := 22) hM195 rfl rfl rfl ?_
  refine z_dup2A (pc' := 23) hM195 rfl rfl ?_
  obtain ⟨h8, hm⟩ := o_x hm
  obtain ⟨z7, ez7, hm⟩ := o_v hm
  refine z_iald (pc' := 24) (zGN hG) hM195 rfl rfl h8 ez7 ?_
  refine z_iconst (pc' := 25) hM195 rfl rfl rfl ?_
  obtain ⟨z9, ez9, h10, hm⟩ := o_z hm
  refine z_iadd (pc' := 26) hM195 rfl rfl ez9 h10 ?_
  obtain ⟨h12, hm⟩ := o_x hm
  obtain ⟨s11, es11, hm⟩ := o_v hm
  refine z_iast (pc' := 27) hM195 rfl rfl h12 es11 ?_
  cases hm
  exact z_retV hM195 rfl rfl ⟨rfl, rfl⟩
def m181  (s : zS) : Option (Int × zS) := oX (4 : Int) 8 (oV (s.1 242 (4 : Int)) fun z1 => some (z1, s))
theorem c181 {G : aHp} {d : Nat} (hG : zG G) {s : zS} {r_ : Int} {s_ : zS} (hm : m181  s = some (r_, s_)) : Zp G (d + 1) 181 0 [some (zr 12 0 209)] [] s (zRet (some (zi r_)) s_) := by
  replace hm : (oX (4 : Int) 8 (oV (s.1 242 (4 : Int)) fun z1 => some (z1, s))) = some (r_, s_) := hm
  refine z_aload_n (pc' := 1) hM181 rfl rfl rfl ?_
  refine z_fldR (pc' := 4) hM181 rfl (zf_12_41 hG) rfl rfl ?_
  refine z_iconst (pc' := 5) hM181 rfl rfl rfl ?_
  obtain ⟨h2, hm⟩ := o_x hm
  obtain ⟨z1, ez1, hm⟩ := o_v hm
  refine z_iald (pc' := 6) (zGN hG) hM181 rfl rfl h2 ez1 ?_
  cases hm
  exact z_retI hM181 rfl rfl ⟨rfl, rfl⟩
def m180_237 (k227_ : Int → Int → Int → zS → Option (Int × zS)) : Nat → Int → Int → Int → Int → zS → Option (Int × zS)
  | 0, _, _, _, _, _ => none
  | n + 1, x1, x2, x3, x4, s => if x4 < (0 : Int) then oZ (x3 + (1 : Int)) fun z2 => k227_ x1 x2 z2 s else oZ ((7 : Int) * x2) fun z4 => oZ ((49 : Int) + z4) fun z6 => oZ (z6 + x4) fun z8 => oX z8 98 (oV (s.1 244 z8) fun z10 => oZ ((7 : Int) * x4) fun z12 => oZ (z12 + x3) fun z14 => oX z14 49 (oV (s.1 252 z14) fun z16 => if x2 = x3 then oZ (x4 + (-1 : Int)) fun z19 => m180_237 k227_ n x1 x2 x3 z19 s else if (0 : Int) < z10 then if z16 = (-1 : Int) then oZ (x4 + (-1 : Int)) fun z23 => m180_237 k227_ n x1 x2 x3 z23 s else oZ (z10 + z16) fun z25 => oZ ((7 : Int) * x2) fun z27 => oZ (z27 + x3) fun z29 => oX z29 49 (oV (s.1 252 z29) fun z31 => if z25 = z31 then oZ ((7 : Int) * x2) fun z34 => oZ (z34 + x3) fun z36 => oX z36 49 (oV (sI s 253 z36 x4) fun s38 => oZ (x4 + (-1 : Int)) fun z40 => m180_237 k227_ n x1 x2 x3 z40 s38) else oZ (x4 + (-1 : Int)) fun z42 => m180_237 k227_ n x1 x2 x3 z42 s) else oZ (x4 + (-1 : Int)) fun z44 => m180_237 k227_ n x1 x2 x3 z44 s))
set_option maxHeartbeats 4000000 in
set_option maxRecDepth 20000 in
theorem c180_237 {G : aHp} {d : Nat} {k227_ : Int → Int → Int → zS → Option (Int × zS)} (hG : zG G) (hk227 : ∀ {x1 : Int} {x2 : Int} {x3 : Int} {d4 d5 d6 : Option zV} {s : zS} {r_ : Int} {s_ : zS}, k227_ x1 x2 x3 s = some (r_, s_) → Zp G (d + 2) 180 227 [some (zr 12 0 209), some (zi x1), some (zi x2), some (zi x3), d4, d5, d6] [] s (zRet none s_)) : ∀ {n : Nat} {x1 : Int} {x2 : Int} {x3 : Int} {x4 : Int} {d5 d6 : Option zV} {s : zS} {r_ : Int} {s_ : zS}, m180_237 k227_ n x1 x2 x3 x4 s = some (r_, s_) → Zp G (d + 2) 180 237 [some (zr 12 0 209), some (zi x1), some (zi x2), some (zi x3), some (zi x4), d5, d6] [] s (zRet none s_) := by
  intro n
  induction n with
  | zero => intro x1 x2 x3 x4 d5 d6 s r_ s_ hm; cases hm
  | succ n ih =>
  intro x1 x2 x3 x4 d5 d6 s r_ s_ hm
  replace hm : (if x4 < (0 : Int) then oZ (x3 + (1 : Int)) fun z2 => k227_ x1 x2 z2 s else oZ ((7 : Int) * x2) fun z4 => oZ ((49 : Int) + z4) fun z6 => oZ (z6 + x4) fun z8 => oX z8 98 (oV (s.1 244 z8) fun z10 => oZ ((7 : Int) * x4) fun z12 => oZ (z12 + x3) fun z14 => oX z14 49 (oV (s.1 252 z14) fun z16 => if x2 = x3 then oZ (x4 + (-1 : Int)) fun z19 => m180_237 k227_ n x1 x2 x3 z19 s else if (0 : Int) < z10 then if z16 = (-1 : Int) then oZ (x4 + (-1 : Int)) fun z23 => m180_237 k227_ n x1 x2 x3 z23 s else oZ (z10 + z16) fun z25 => oZ ((7 : Int) * x2) fun z27 => oZ (z27 + x3) fun z29 => oX z29 49 (oV (s.1 252 z29) fun z31 => if z25 = z31 then oZ ((7 : Int) * x2) fun z34 => oZ (z34 + x3) fun z36 => oX z36 49 (oV (sI s 253 z36 x4) fun s38 => oZ (x4 + (-1 : Int)) fun z40 => m180_237 k227_ n x1 x2 x3 z40 s38) else oZ (x4 + (-1 : Int)) fun z42 => m180_237 k227_ n x1 x2 x3 z42 s) else oZ (x4 + (-1 : Int)) fun z44 => m180_237 k227_ n x1 x2 x3 z44 s))) = some (r_, s_) := hm
  refine z_iload (pc' := 239) hM180 rfl rfl rfl ?_
  refine z_iflt (pc' := 242) (t := 327) hM180 rfl rfl (fun h1 => ?_) (fun h1 => ?_)
  · replace hm := o_t hm h1
    obtain ⟨z2, ez2, h3, hm⟩ := o_z hm
    refine z_iinc (pc' := 330) (l' := [some (zr 12 0 209), some (zi x1), some (zi x2), some (zi z2), some (zi x4), d5, d6]) hM180 rfl rfl rfl ez2 h3 rfl rfl ?_
    refine z_goto (t := 227) hM180 rfl ?_
    exact hk227 hm
  · replace hm := o_f hm h1
    refine z_aload_n (pc' := 243) hM180 rfl rfl rfl ?_
    refine z_fldR (pc' := 246) hM180 rfl (zf_12_43 hG) rfl rfl ?_
    refine z_bipush (pc' := 248) hM180 rfl rfl rfl ?_
    refine z_bipush (pc' := 250) hM180 rfl rfl rfl ?_
    refine z_iload_n (pc' := 251) hM180 rfl rfl rfl ?_
    obtain ⟨z4, ez4, h5, hm⟩ := o_z hm
    refine z_imul (pc' := 252) hM180 rfl rfl ez4 h5 ?_
    obtain ⟨z6, ez6, h7, hm⟩ := o_z hm
    refine z_iadd (pc' := 253) hM180 rfl rfl ez6 h7 ?_
    refine z_iload (pc' := 255) hM180 rfl rfl rfl ?_
    obtain ⟨z8, ez8, h9, hm⟩ := o_z hm
    refine z_iadd (pc' := 256) hM180 rfl rfl ez8 h9 ?_
    obtain ⟨h11, hm⟩ := o_x hm
    obtain ⟨z10, ez10, hm⟩ := o_v hm
    refine z_iald (pc' := 257) (zGN hG) hM180 rfl rfl h11 ez10 ?_
    refine z_istore (pc' := 259) (l' := [some (zr 12 0 209), some (zi x1), some (zi x2), some (zi x3), some (zi x4), some (zi z10), d6]) hM180 rfl rfl rfl rfl ?_
    refine z_aload_n (pc' := 260) hM180 rfl rfl rfl ?_
    refine z_fldR (pc' := 263) hM180 rfl (zf_12_54 hG) rfl rfl ?_
    refine z_bipush (pc' := 265) hM180 rfl rfl rfl ?_
    refine z_iload (pc' := 267) hM180 rfl rfl rfl ?_
    obtain ⟨z12, ez12, h13, hm⟩ := o_z hm
    refine z_imul (pc' := 268) hM180 rfl rfl ez12 h13 ?_
    refine z_iload_n (pc' := 269) hM180 rfl rfl rfl ?_
    obtain ⟨z14, ez14, h15, hm⟩ := o_z hm
    refine z_iadd (pc' := 270) hM180 rfl rfl ez14 h15 ?_
    obtain ⟨h17, hm⟩ := o_x hm
    obtain ⟨z16, ez16, hm⟩ := o_v hm
    refine z_iald (pc' := 271) (zGN hG) hM180 rfl rfl h17 ez16 ?_
    refine z_istore (pc' := 273) (l' := [some (zr 12 0 209), some (zi x1), some (zi x2), some (zi x3), some (zi x4), some (zi z10), some (zi z16)]) hM180 rfl rfl rfl rfl ?_
    refine z_iload_n (pc' := 274) hM180 rfl rfl rfl ?_
    refine z_iload_n (pc' := 275) hM180 rfl rfl rfl ?_
    refine z_cmpeq (pc' := 278) (t := 321) hM180 rfl rfl (fun h18 => ?_) (fun h18 => ?_)
    · replace hm := o_t hm h18
      obtain ⟨z19, ez19, h20, hm⟩ := o_z hm
      refine z_iinc (pc' := 324) (l' := [some (zr 12 0 209), some (zi x1), some (zi x2), some (zi x3), some (zi z19), some (zi z10), some (zi z16)]) hM180 rfl rfl rfl ez19 h20 rfl rfl ?_
      refine z_goto (t := 237) hM180 rfl ?_
      exact ih hm
    · replace hm := o_f hm h18
      refine z_iload (pc' := 280) hM180 rfl rfl rfl ?_
      refine z_ifle (pc' := 283) (t := 321) hM180 rfl rfl (fun h21 => ?_) (fun h21 => ?_)
      · replace hm := o_t hm h21
        refine z_iload (pc' := 285) hM180 rfl rfl rfl ?_
        refine z_iconst (pc' := 286) hM180 rfl rfl rfl ?_
        refine z_cmpeq (pc' := 289) (t := 321) hM180 rfl rfl (fun h22 => ?_) (fun h22 => ?_)
        · replace hm := o_t hm h22
          obtain ⟨z23, ez23, h24, hm⟩ := o_z hm
          refine z_iinc (pc' := 324) (l' := [some (zr 12 0 209), some (zi x1), some (zi x2), some (zi x3), some (zi z23), some (zi z10), some (zi z16)]) hM180 rfl rfl rfl ez23 h24 rfl rfl ?_
          refine z_goto (t := 237) hM180 rfl ?_
          exact ih hm
        · replace hm := o_f hm h22
          refine z_iload (pc' := 291) hM180 rfl rfl rfl ?_
          refine z_iload (pc' := 293) hM180 rfl rfl rfl ?_
          obtain ⟨z25, ez25, h26, hm⟩ := o_z hm
          refine z_iadd (pc' := 294) hM180 rfl rfl ez25 h26 ?_
          refine z_aload_n (pc' := 295) hM180 rfl rfl rfl ?_
          refine z_fldR (pc' := 298) hM180 rfl (zf_12_54 hG) rfl rfl ?_
          refine z_bipush (pc' := 300) hM180 rfl rfl rfl ?_
          refine z_iload_n (pc' := 301) hM180 rfl rfl rfl ?_
          obtain ⟨z27, ez27, h28, hm⟩ := o_z hm
          refine z_imul (pc' := 302) hM180 rfl rfl ez27 h28 ?_
          refine z_iload_n (pc' := 303) hM180 rfl rfl rfl ?_
          obtain ⟨z29, ez29, h30, hm⟩ := o_z hm
          refine z_iadd (pc' := 304) hM180 rfl rfl ez29 h30 ?_
          obtain ⟨h32, hm⟩ := o_x hm
          obtain ⟨z31, ez31, hm⟩ := o_v hm
          refine z_iald (pc' := 305) (zGN hG) hM180 rfl rfl h32 ez31 ?_
          refine z_cmpne (pc' := 308) (t := 321) hM180 rfl rfl (fun h33 => ?_) (fun h33 => ?_)
          · replace hm := o_t hm h33
            refine z_aload_n (pc' := 309) hM180 rfl rfl rfl ?_
            refine z_fldR (pc' := 312) hM180 rfl (zf_12_55 hG) rfl rfl ?_
            refine z_bipush (pc' := 314) hM180 rfl rfl rfl ?_
            refine z_iload_n (pc' := 315) hM180 rfl rfl rfl ?_
            obtain ⟨z34, ez34, h35, hm⟩ := o_z hm
            refine z_imul (pc' := 316) hM180 rfl rfl ez34 h35 ?_
            refine z_iload_n (pc' := 317) hM180 rfl rfl rfl ?_
            obtain ⟨z36, ez36, h37, hm⟩ := o_z hm
            refine z_iadd (pc' := 318) hM180 rfl rfl ez36 h37 ?_
            refine z_iload (pc' := 320) hM180 rfl rfl rfl ?_
            obtain ⟨h39, hm⟩ := o_x hm
            obtain ⟨s38, es38, hm⟩ := o_v hm
            refine z_iast (pc' := 321) hM180 rfl rfl h39 es38 ?_
            obtain ⟨z40, ez40, h41, hm⟩ := o_z hm
            refine z_iinc (pc' := 324) (l' := [some (zr 12 0 209), some (zi x1), some (zi x2), some (zi x3), some (zi z40), some (zi z10), some (zi z16)]) hM180 rfl rfl rfl ez40 h41 rfl rfl ?_
            refine z_goto (t := 237) hM180 rfl ?_
            exact ih hm
          · replace hm := o_f hm h33
            obtain ⟨z42, ez42, h43, hm⟩ := o_z hm
            refine z_iinc (pc' := 324) (l' := [some (zr 12 0 209), some (zi x1), some (zi x2), some (zi x3), some (zi z42), some (zi z10), some (zi z16)]) hM180 rfl rfl rfl ez42 h43 rfl rfl ?_
            refine z_goto (t := 237) hM180 rfl ?_
            exact ih hm
      · replace hm := o_f hm h21
        obtain ⟨z44, ez44, h45, hm⟩ := o_z hm
        refine z_iinc (pc' := 324) (l' := [some (zr 12 0 209), some (zi x1), some (zi x2), some (zi x3), some (zi z44), some (zi z10), some (zi z16)]) hM180 rfl rfl rfl ez44 h45 rfl rfl ?_
        refine z_goto (t := 237) hM180 rfl ?_
        exact ih hm
def m180_227 (k220_ : Int → Int → zS → Option (Int × zS)) : Nat → Int → Int → Int → zS → Option (Int × zS)
  | 0, _, _, _, _ => none
  | n + 1, x1, x2, x3, s => if x3 < x1 then oZ (x1 - (1 : Int)) fun z2 => m180_237 (m180_227 k220_ n) zFu x1 x2 x3 z2 s else oZ (x2 + (1 : Int)) fun z4 => k220_ x1 z4 s
set_option maxHeartbeats 4000000 in
set_option maxRecDepth 20000 in
theorem c180_227 {G : aHp} {d : Nat} {k220_ : Int → Int → zS → Option (Int × zS)} (hG : zG G) (hk220 : ∀ {x1 : Int} {x2 : Int} {d3 d4 d5 d6 : Option zV} {s : zS} {r_ : Int} {s_ : zS}, k220_ x1 x2 s = some (r_, s_) → Zp G (d + 2) 180 220 [some (zr 12 0 209), some (zi x1), some (zi x2), d3, d4, d5, d6] [] s (zRet none s_)) : ∀ {n : Nat} {x1 : Int} {x2 : Int} {x3 : Int} {d4 d5 d6 : Option zV} {s : zS} {r_ : Int} {s_ : zS}, m180_227 k220_ n x1 x2 x3 s = some (r_, s_) → Zp G (d + 2) 180 227 [some (zr 12 0 209), some (zi x1), some (zi x2), some (zi x3), d4, d5, d6] [] s (zRet none s_) := by
  intro n
  induction n with
  | zero => intro x1 x2 x3 d4 d5 d6 s r_ s_ hm; cases hm
  | succ n ih =>
  intro x1 x2 x3 d4 d5 d6 s r_ s_ hm
  replace hm : (if x3 < x1 then oZ (x1 - (1 : Int)) fun z2 => m180_237 (m180_227 k220_ n) zFu x1 x2 x3 z2 s else oZ (x2 + (1 : Int)) fun z4 => k220_ x1 z4 s) = some (r_, s_) := hm
  refine z_iload_n (pc' := 228) hM180 rfl rfl rfl ?_
  refine z_iload_n (pc' := 229) hM180 rfl rfl rfl ?_
  refine z_cmpge (pc' := 232) (t := 333) hM180 rfl rfl (fun h1 => ?_) (fun h1 => ?_)
  · replace hm := o_t hm h1
    refine z_iload_n (pc' := 233) hM180 rfl rfl rfl ?_
    refine z_iconst (pc' := 234) hM180 rfl rfl rfl ?_
    obtain ⟨z2, ez2, h3, hm⟩ := o_z hm
    refine z_isub (pc' := 235) hM180 rfl rfl ez2 h3 ?_
    refine z_istore (pc' := 237) (l' := [some (zr 12 0 209), some (zi x1), some (zi x2), some (zi x3), some (zi z2), d5, d6]) hM180 rfl rfl rfl rfl ?_
    exact c180_237 hG ih hm
  · replace hm := o_f hm h1
    obtain ⟨z4, ez4, h5, hm⟩ := o_z hm
    refine z_iinc (pc' := 336) (l' := [some (zr 12 0 209), some (zi x1), some (zi z4), some (zi x3), d4, d5, d6]) hM180 rfl rfl rfl ez4 h5 rfl rfl ?_
    refine z_goto (t := 220) hM180 rfl ?_
    exact hk220 hm
def m180_220 : Nat → Int → Int → zS → Option (Int × zS)
  | 0, _, _, _ => none
  | n + 1, x1, x2, s => if x2 < x1 then m180_227 (m180_220 n) zFu x1 x2 (0 : Int) s else some (0, s)
set_option maxHeartbeats 4000000 in
set_option maxRecDepth 20000 in
theorem c180_220 {G : aHp} {d : Nat} (hG : zG G) : ∀ {n : Nat} {x1 : Int} {x2 : Int} {d3 d4 d5 d6 : Option zV} {s : zS} {r_ : Int} {s_ : zS}, m180_220 n x1 x2 s = some (r_, s_) → Zp G (d + 2) 180 220 [some (zr 12 0 209), some (zi x1), some (zi x2), d3, d4, d5, d6] [] s (zRet none s_) := by
  intro n
  induction n with
  | zero => intro x1 x2 d3 d4 d5 d6 s r_ s_ hm; cases hm
  | succ n ih =>
  intro x1 x2 d3 d4 d5 d6 s r_ s_ hm
  replace hm : (if x2 < x1 then m180_227 (m180_220 n) zFu x1 x2 (0 : Int) s else some (0, s)) = some (r_, s_) := hm
  refine z_iload_n (pc' := 221) hM180 rfl rfl rfl ?_
  refine z_iload_n (pc' := 222) hM180 rfl rfl rfl ?_
  refine z_cmpge (pc' := 225) (t := 339) hM180 rfl rfl (fun h1 => ?_) (fun h1 => ?_)
  · replace hm := o_t hm h1
    refine z_iconst (pc' := 226) hM180 rfl rfl rfl ?_
    refine z_istore_n (pc' := 227) (l' := [some (zr 12 0 209), some (zi x1), some (zi x2), some (zi (0 : Int)), d4, d5, d6]) hM180 rfl rfl rfl rfl ?_
    exact c180_227 hG ih hm
  · replace hm := o_f hm h1
    cases hm
    exact z_retV hM180 rfl rfl ⟨rfl, rfl⟩
def m180_183 (k99_ : Int → Int → Int → Int → zS → Option (Int × zS)) (x1 : Int) (x2 : Int) (x3 : Int) (x4 : Int) (x5 : Int) (x6 : Int) (s : zS) : Option (Int × zS) := oZ ((7 : Int) * x3) fun z1 => oZ (z1 + x4) fun z3 => oZ (x5 + x6) fun z5 => oX z3 49 (oV (sI s 252 z3 z5) fun s7 => oZ (x4 + (1 : Int)) fun z9 => k99_ x1 x2 x3 z9 s7)
set_option maxHeartbeats 4000000 in
set_option maxRecDepth 20000 in
theorem c180_183 {G : aHp} {d : Nat} {k99_ : Int → Int → Int → Int → zS → Option (Int × zS)} (hG : zG G) (hk99 : ∀ {x1 : Int} {x2 : Int} {x3 : Int} {x4 : Int} {d5 d6 : Option zV} {s : zS} {r_ : Int} {s_ : zS}, k99_ x1 x2 x3 x4 s = some (r_, s_) → Zp G (d + 2) 180 99 [some (zr 12 0 209), some (zi x1), some (zi x2), some (zi x3), some (zi x4), d5, d6] [] s (zRet none s_)) {x1 : Int} {x2 : Int} {x3 : Int} {x4 : Int} {x5 : Int} {x6 : Int} {s : zS} {r_ : Int} {s_ : zS} (hm : m180_183 k99_ x1 x2 x3 x4 x5 x6 s = some (r_, s_)) : Zp G (d + 2) 180 183 [some (zr 12 0 209), some (zi x1), some (zi x2), some (zi x3), some (zi x4), some (zi x5), some (zi x6)] [] s (zRet none s_) := by
  replace hm : (oZ ((7 : Int) * x3) fun z1 => oZ (z1 + x4) fun z3 => oZ (x5 + x6) fun z5 => oX z3 49 (oV (sI s 252 z3 z5) fun s7 => oZ (x4 + (1 : Int)) fun z9 => k99_ x1 x2 x3 z9 s7)) = some (r_, s_) := hm
  refine z_aload_n (pc' := 184) hM180 rfl rfl rfl ?_
  refine z_fldR (pc' := 187) hM180 rfl (zf_12_54 hG) rfl rfl ?_
  refine z_bipush (pc' := 189) hM180 rfl rfl rfl ?_
  refine z_iload_n (pc' := 190) hM180 rfl rfl rfl ?_
  obtain ⟨z1, ez1, h2, hm⟩ := o_z hm
  refine z_imul (pc' := 191) hM180 rfl rfl ez1 h2 ?_
  refine z_iload (pc' := 193) hM180 rfl rfl rfl ?_
  obtain ⟨z3, ez3, h4, hm⟩ := o_z hm
  refine z_iadd (pc' := 194) hM180 rfl rfl ez3 h4 ?_
  refine z_iload (pc' := 196) hM180 rfl rfl rfl ?_
  refine z_iload (pc' := 198) hM180 rfl rfl rfl ?_
  obtain ⟨z5, ez5, h6, hm⟩ := o_z hm
  refine z_iadd (pc' := 199) hM180 rfl rfl ez5 h6 ?_
  obtain ⟨h8, hm⟩ := o_x hm
  obtain ⟨s7, es7, hm⟩ := o_v hm
  refine z_iast (pc' := 200) hM180 rfl rfl h8 es7 ?_
  obtain ⟨z9, ez9, h10, hm⟩ := o_z hm
  refine z_iinc (pc' := 203) (l' := [some (zr 12 0 209), some (zi x1), some (zi x2), some (zi x3), some (zi z9), some (zi x5), some (zi x6)]) hM180 rfl rfl rfl ez9 h10 rfl rfl ?_
  refine z_goto (t := 99) hM180 rfl ?_
  exact hk99 hm
def m180_99 (k91_ : Int → Int → Int → zS → Option (Int × zS)) : Nat → Int → Int → Int → Int → zS → Option (Int × zS)
  | 0, _, _, _, _, _ => none
  | n + 1, x1, x2, x3, x4, s => if x4 < x1 then oZ ((7 : Int) * x3) fun z2 => oZ (z2 + x2) fun z4 => oX z4 49 (oV (s.1 252 z4) fun z6 => oZ ((7 : Int) * x2) fun z8 => oZ (z8 + x4) fun z10 => oX z10 49 (oV (s.1 252 z10) fun z12 => if z6 = (-1 : Int) then oZ (x4 + (1 : Int)) fun z15 => m180_99 k91_ n x1 x2 x3 z15 s else if z12 = (-1 : Int) then oZ (x4 + (1 : Int)) fun z18 => m180_99 k91_ n x1 x2 x3 z18 s else oZ ((7 : Int) * x3) fun z20 => oZ (z20 + x4) fun z22 => oX z22 49 (oV (s.1 252 z22) fun z24 => if z24 = (-1 : Int) then m180_183 (m180_99 k91_ n) x1 x2 x3 x4 z6 z12 s else oZ (z6 + z12) fun z27 => oZ ((7 : Int) * x3) fun z29 => oZ (z29 + x4) fun z31 => oX z31 49 (oV (s.1 252 z31) fun z33 => if z27 < z33 then m180_183 (m180_99 k91_ n) x1 x2 x3 x4 z6 z12 s else oZ (x4 + (1 : Int)) fun z36 => m180_99 k91_ n x1 x2 x3 z36 s)))) else oZ (x3 + (1 : Int)) fun z38 => k91_ x1 x2 z38 s
set_option maxHeartbeats 4000000 in
set_option maxRecDepth 20000 in
theorem c180_99 {G : aHp} {d : Nat} {k91_ : Int → Int → Int → zS → Option (Int × zS)} (hG : zG G) (hk91 : ∀ {x1 : Int} {x2 : Int} {x3 : Int} {d4 d5 d6 : Option zV} {s : zS} {r_ : Int} {s_ : zS}, k91_ x1 x2 x3 s = some (r_, s_) → Zp G (d + 2) 180 91 [some (zr 12 0 209), some (zi x1), some (zi x2), some (zi x3), d4, d5, d6] [] s (zRet none s_)) : ∀ {n : Nat} {x1 : Int} {x2 : Int} {x3 : Int} {x4 : Int} {d5 d6 : Option zV} {s : zS} {r_ : Int} {s_ : zS}, m180_99 k91_ n x1 x2 x3 x4 s = some (r_, s_) → Zp G (d + 2) 180 99 [some (zr 12 0 209), some (zi x1), some (zi x2), some (zi x3), some (zi x4), d5, d6] [] s (zRet none s_) := by
  intro n
  induction n with
  | zero => intro x1 x2 x3 x4 d5 d6 s r_ s_ hm; cases hm
  | succ n ih =>
  intro x1 x2 x3 x4 d5 d6 s r_ s_ hm
  replace hm : (if x4 < x1 then oZ ((7 : Int) * x3) fun z2 => oZ (z2 + x2) fun z4 => oX z4 49 (oV (s.1 252 z4) fun z6 => oZ ((7 : Int) * x2) fun z8 => oZ (z8 + x4) fun z10 => oX z10 49 (oV (s.1 252 z10) fun z12 => if z6 = (-1 : Int) then oZ (x4 + (1 : Int)) fun z15 => m180_99 k91_ n x1 x2 x3 z15 s else if z12 = (-1 : Int) then oZ (x4 + (1 : Int)) fun z18 => m180_99 k91_ n x1 x2 x3 z18 s else oZ ((7 : Int) * x3) fun z20 => oZ (z20 + x4) fun z22 => oX z22 49 (oV (s.1 252 z22) fun z24 => if z24 = (-1 : Int) then m180_183 (m180_99 k91_ n) x1 x2 x3 x4 z6 z12 s else oZ (z6 + z12) fun z27 => oZ ((7 : Int) * x3) fun z29 => oZ (z29 + x4) fun z31 => oX z31 49 (oV (s.1 252 z31) fun z33 => if z27 < z33 then m180_183 (m180_99 k91_ n) x1 x2 x3 x4 z6 z12 s else oZ (x4 + (1 : Int)) fun z36 => m180_99 k91_ n x1 x2 x3 z36 s)))) else oZ (x3 + (1 : Int)) fun z38 => k91_ x1 x2 z38 s) = some (r_, s_) := hm
  refine z_iload (pc' := 101) hM180 rfl rfl rfl ?_
  refine z_iload_n (pc' := 102) hM180 rfl rfl rfl ?_
  refine z_cmpge (pc' := 105) (t := 206) hM180 rfl rfl (fun h1 => ?_) (fun h1 => ?_)
  · replace hm := o_t hm h1
    refine z_aload_n (pc' := 106) hM180 rfl rfl rfl ?_
    refine z_fldR (pc' := 109) hM180 rfl (zf_12_54 hG) rfl rfl ?_
    refine z_bipush (pc' := 111) hM180 rfl rfl rfl ?_
    refine z_iload_n (pc' := 112) hM180 rfl rfl rfl ?_
    obtain ⟨z2, ez2, h3, hm⟩ := o_z hm
    refine z_imul (pc' := 113) hM180 rfl rfl ez2 h3 ?_
    refine z_iload_n (pc' := 114) hM180 rfl rfl rfl ?_
    obtain ⟨z4, ez4, h5, hm⟩ := o_z hm
    refine z_iadd (pc' := 115) hM180 rfl rfl ez4 h5 ?_
    obtain ⟨h7, hm⟩ := o_x hm
    obtain ⟨z6, ez6, hm⟩ := o_v hm
    refine z_iald (pc' := 116) (zGN hG) hM180 rfl rfl h7 ez6 ?_
    refine z_istore (pc' := 118) (l' := [some (zr 12 0 209), some (zi x1), some (zi x2), some (zi x3), some (zi x4), some (zi z6), d6]) hM180 rfl rfl rfl rfl ?_
    refine z_aload_n (pc' := 119) hM180 rfl rfl rfl ?_
    refine z_fldR (pc' := 122) hM180 rfl (zf_12_54 hG) rfl rfl ?_
    refine z_bipush (pc' := 124) hM180 rfl rfl rfl ?_
    refine z_iload_n (pc' := 125) hM180 rfl rfl rfl ?_
    obtain ⟨z8, ez8, h9, hm⟩ := o_z hm
    refine z_imul (pc' := 126) hM180 rfl rfl ez8 h9 ?_
    refine z_iload (pc' := 128) hM180 rfl rfl rfl ?_
    obtain ⟨z10, ez10, h11, hm⟩ := o_z hm
    refine z_iadd (pc' := 129) hM180 rfl rfl ez10 h11 ?_
    obtain ⟨h13, hm⟩ := o_x hm
    obtain ⟨z12, ez12, hm⟩ := o_v hm
    refine z_iald (pc' := 130) (zGN hG) hM180 rfl rfl h13 ez12 ?_
    refine z_istore (pc' := 132) (l' := [some (zr 12 0 209), some (zi x1), some (zi x2), some (zi x3), some (zi x4), some (zi z6), some (zi z12)]) hM180 rfl rfl rfl rfl ?_
    refine z_iload (pc' := 134) hM180 rfl rfl rfl ?_
    refine z_iconst (pc' := 135) hM180 rfl rfl rfl ?_
    refine z_cmpeq (pc' := 138) (t := 200) hM180 rfl rfl (fun h14 => ?_) (fun h14 => ?_)
    · replace hm := o_t hm h14
      obtain ⟨z15, ez15, h16, hm⟩ := o_z hm
      refine z_iinc (pc' := 203) (l' := [some (zr 12 0 209), some (zi x1), some (zi x2), some (zi x3), some (zi z15), some (zi z6), some (zi z12)]) hM180 rfl rfl rfl ez15 h16 rfl rfl ?_
      refine z_goto (t := 99) hM180 rfl ?_
      exact ih hm
    · replace hm := o_f hm h14
      refine z_iload (pc' := 140) hM180 rfl rfl rfl ?_
      refine z_iconst (pc' := 141) hM180 rfl rfl rfl ?_
      refine z_cmpne (pc' := 144) (t := 147) hM180 rfl rfl (fun h17 => ?_) (fun h17 => ?_)
      · replace hm := o_t hm h17
        refine z_goto (t := 200) hM180 rfl ?_
        obtain ⟨z18, ez18, h19, hm⟩ := o_z hm
        refine z_iinc (pc' := 203) (l' := [some (zr 12 0 209), some (zi x1), some (zi x2), some (zi x3), some (zi z18), some (zi z6), some (zi z12)]) hM180 rfl rfl rfl ez18 h19 rfl rfl ?_
        refine z_goto (t := 99) hM180 rfl ?_
        exact ih hm
      · replace hm := o_f hm h17
        refine z_aload_n (pc' := 148) hM180 rfl rfl rfl ?_
        refine z_fldR (pc' := 151) hM180 rfl (zf_12_54 hG) rfl rfl ?_
        refine z_bipush (pc' := 153) hM180 rfl rfl rfl ?_
        refine z_iload_n (pc' := 154) hM180 rfl rfl rfl ?_
        obtain ⟨z20, ez20, h21, hm⟩ := o_z hm
        refine z_imul (pc' := 155) hM180 rfl rfl ez20 h21 ?_
        refine z_iload (pc' := 157) hM180 rfl rfl rfl ?_
        obtain ⟨z22, ez22, h23, hm⟩ := o_z hm
        refine z_iadd (pc' := 158) hM180 rfl rfl ez22 h23 ?_
        obtain ⟨h25, hm⟩ := o_x hm
        obtain ⟨z24, ez24, hm⟩ := o_v hm
        refine z_iald (pc' := 159) (zGN hG) hM180 rfl rfl h25 ez24 ?_
        refine z_iconst (pc' := 160) hM180 rfl rfl rfl ?_
        refine z_cmpeq (pc' := 163) (t := 183) hM180 rfl rfl (fun h26 => ?_) (fun h26 => ?_)
        · replace hm := o_t hm h26
          exact c180_183 hG ih hm
        · replace hm := o_f hm h26
          refine z_iload (pc' := 165) hM180 rfl rfl rfl ?_
          refine z_iload (pc' := 167) hM180 rfl rfl rfl ?_
          obtain ⟨z27, ez27, h28, hm⟩ := o_z hm
          refine z_iadd (pc' := 168) hM180 rfl rfl ez27 h28 ?_
          refine z_aload_n (pc' := 169) hM180 rfl rfl rfl ?_
          refine z_fldR (pc' := 172) hM180 rfl (zf_12_54 hG) rfl rfl ?_
          refine z_bipush (pc' := 174) hM180 rfl rfl rfl ?_
          refine z_iload_n (pc' := 175) hM180 rfl rfl rfl ?_
          obtain ⟨z29, ez29, h30, hm⟩ := o_z hm
          refine z_imul (pc' := 176) hM180 rfl rfl ez29 h30 ?_
          refine z_iload (pc' := 178) hM180 rfl rfl rfl ?_
          obtain ⟨z31, ez31, h32, hm⟩ := o_z hm
          refine z_iadd (pc' := 179) hM180 rfl rfl ez31 h32 ?_
          obtain ⟨h34, hm⟩ := o_x hm
          obtain ⟨z33, ez33, hm⟩ := o_v hm
          refine z_iald (pc' := 180) (zGN hG) hM180 rfl rfl h34 ez33 ?_
          refine z_cmpge (pc' := 183) (t := 200) hM180 rfl rfl (fun h35 => ?_) (fun h35 => ?_)
          · replace hm := o_t hm h35
            exact c180_183 hG ih hm
          · replace hm := o_f hm h35
            obtain ⟨z36, ez36, h37, hm⟩ := o_z hm
            refine z_iinc (pc' := 203) (l' := [some (zr 12 0 209), some (zi x1), some (zi x2), some (zi x3), some (zi z36), some (zi z6), some (zi z12)]) hM180 rfl rfl rfl ez36 h37 rfl rfl ?_
            refine z_goto (t := 99) hM180 rfl ?_
            exact ih hm
  · replace hm := o_f hm h1
    obtain ⟨z38, ez38, h39, hm⟩ := o_z hm
    refine z_iinc (pc' := 209) (l' := [some (zr 12 0 209), some (zi x1), some (zi x2), some (zi z38), some (zi x4), d5, d6]) hM180 rfl rfl rfl ez38 h39 rfl rfl ?_
    refine z_goto (t := 91) hM180 rfl ?_
    exact hk91 hm
def m180_91 (k84_ : Int → Int → zS → Option (Int × zS)) : Nat → Int → Int → Int → zS → Option (Int × zS)
  | 0, _, _, _, _ => none
  | n + 1, x1, x2, x3, s => if x3 < x1 then m180_99 (m180_91 k84_ n) zFu x1 x2 x3 (0 : Int) s else oZ (x2 + (1 : Int)) fun z2 => k84_ x1 z2 s
set_option maxHeartbeats 4000000 in
set_option maxRecDepth 20000 in
theorem c180_91 {G : aHp} {d : Nat} {k84_ : Int → Int → zS → Option (Int × zS)} (hG : zG G) (hk84 : ∀ {x1 : Int} {x2 : Int} {d3 d4 d5 d6 : Option zV} {s : zS} {r_ : Int} {s_ : zS}, k84_ x1 x2 s = some (r_, s_) → Zp G (d + 2) 180 84 [some (zr 12 0 209), some (zi x1), some (zi x2), d3, d4, d5, d6] [] s (zRet none s_)) : ∀ {n : Nat} {x1 : Int} {x2 : Int} {x3 : Int} {d4 d5 d6 : Option zV} {s : zS} {r_ : Int} {s_ : zS}, m180_91 k84_ n x1 x2 x3 s = some (r_, s_) → Zp G (d + 2) 180 91 [some (zr 12 0 209), some (zi x1), some (zi x2), some (zi x3), d4, d5, d6] [] s (zRet none s_) := by
  intro n
  induction n with
  | zero => intro x1 x2 x3 d4 d5 d6 s r_ s_ hm; cases hm
  | succ n ih =>
  intro x1 x2 x3 d4 d5 d6 s r_ s_ hm
  replace hm : (if x3 < x1 then m180_99 (m180_91 k84_ n) zFu x1 x2 x3 (0 : Int) s else oZ (x2 + (1 : Int)) fun z2 => k84_ x1 z2 s) = some (r_, s_) := hm
  refine z_iload_n (pc' := 92) hM180 rfl rfl rfl ?_
  refine z_iload_n (pc' := 93) hM180 rfl rfl rfl ?_
  refine z_cmpge (pc' := 96) (t := 212) hM180 rfl rfl (fun h1 => ?_) (fun h1 => ?_)
  · replace hm := o_t hm h1
    refine z_iconst (pc' := 97) hM180 rfl rfl rfl ?_
    refine z_istore (pc' := 99) (l' := [some (zr 12 0 209), some (zi x1), some (zi x2), some (zi x3), some (zi (0 : Int)), d5, d6]) hM180 rfl rfl rfl rfl ?_
    exact c180_99 hG ih hm
  · replace hm := o_f hm h1
    obtain ⟨z2, ez2, h3, hm⟩ := o_z hm
    refine z_iinc (pc' := 215) (l' := [some (zr 12 0 209), some (zi x1), some (zi z2), some (zi x3), d4, d5, d6]) hM180 rfl rfl rfl ez2 h3 rfl rfl ?_
    refine z_goto (t := 84) hM180 rfl ?_
    exact hk84 hm
def m180_84 : Nat → Int → Int → zS → Option (Int × zS)
  | 0, _, _, _ => none
  | n + 1, x1, x2, s => if x2 < x1 then m180_91 (m180_84 n) zFu x1 x2 (0 : Int) s else m180_220 zFu x1 (0 : Int) s
set_option maxHeartbeats 4000000 in
set_option maxRecDepth 20000 in
theorem c180_84 {G : aHp} {d : Nat} (hG : zG G) : ∀ {n : Nat} {x1 : Int} {x2 : Int} {d3 d4 d5 d6 : Option zV} {s : zS} {r_ : Int} {s_ : zS}, m180_84 n x1 x2 s = some (r_, s_) → Zp G (d + 2) 180 84 [some (zr 12 0 209), some (zi x1), some (zi x2), d3, d4, d5, d6] [] s (zRet none s_) := by
  intro n
  induction n with
  | zero => intro x1 x2 d3 d4 d5 d6 s r_ s_ hm; cases hm
  | succ n ih =>
  intro x1 x2 d3 d4 d5 d6 s r_ s_ hm
  replace hm : (if x2 < x1 then m180_91 (m180_84 n) zFu x1 x2 (0 : Int) s else m180_220 zFu x1 (0 : Int) s) = some (r_, s_) := hm
  refine z_iload_n (pc' := 85) hM180 rfl rfl rfl ?_
  refine z_iload_n (pc' := 86) hM180 rfl rfl rfl ?_
  refine z_cmpge (pc' := 89) (t := 218) hM180 rfl rfl (fun h1 => ?_) (fun h1 => ?_)
  · replace hm := o_t hm h1
    refine z_iconst (pc' := 90) hM180 rfl rfl rfl ?_
    refine z_istore_n (pc' := 91) (l' := [some (zr 12 0 209), some (zi x1), some (zi x2), some (zi (0 : Int)), d4, d5, d6]) hM180 rfl rfl rfl rfl ?_
    exact c180_91 hG ih hm
  · replace hm := o_f hm h1
    refine z_iconst (pc' := 219) hM180 rfl rfl rfl ?_
    refine z_istore_n (pc' := 220) (l' := [some (zr 12 0 209), some (zi x1), some (zi (0 : Int)), d3, d4, d5, d6]) hM180 rfl rfl rfl rfl ?_
    exact c180_220 hG hm
def m180_59 : Nat → Int → Int → zS → Option (Int × zS)
  | 0, _, _, _ => none
  | n + 1, x1, x2, s => if x2 < x1 then oZ ((7 : Int) * x2) fun z2 => oZ (z2 + x2) fun z4 => oX z4 49 (oV (sI s 252 z4 (0 : Int)) fun s6 => oZ (x2 + (1 : Int)) fun z8 => m180_59 n x1 z8 s6) else m180_84 zFu x1 (0 : Int) s
set_option maxHeartbeats 4000000 in
set_option maxRecDepth 20000 in
theorem c180_59 {G : aHp} {d : Nat} (hG : zG G) : ∀ {n : Nat} {x1 : Int} {x2 : Int} {d3 d4 d5 d6 : Option zV} {s : zS} {r_ : Int} {s_ : zS}, m180_59 n x1 x2 s = some (r_, s_) → Zp G (d + 2) 180 59 [some (zr 12 0 209), some (zi x1), some (zi x2), d3, d4, d5, d6] [] s (zRet none s_) := by
  intro n
  induction n with
  | zero => intro x1 x2 d3 d4 d5 d6 s r_ s_ hm; cases hm
  | succ n ih =>
  intro x1 x2 d3 d4 d5 d6 s r_ s_ hm
  replace hm : (if x2 < x1 then oZ ((7 : Int) * x2) fun z2 => oZ (z2 + x2) fun z4 => oX z4 49 (oV (sI s 252 z4 (0 : Int)) fun s6 => oZ (x2 + (1 : Int)) fun z8 => m180_59 n x1 z8 s6) else m180_84 zFu x1 (0 : Int) s) = some (r_, s_) := hm
  refine z_iload_n (pc' := 60) hM180 rfl rfl rfl ?_
  refine z_iload_n (pc' := 61) hM180 rfl rfl rfl ?_
  refine z_cmpge (pc' := 64) (t := 82) hM180 rfl rfl (fun h1 => ?_) (fun h1 => ?_)
  · replace hm := o_t hm h1
    refine z_aload_n (pc' := 65) hM180 rfl rfl rfl ?_
    refine z_fldR (pc' := 68) hM180 rfl (zf_12_54 hG) rfl rfl ?_
    refine z_bipush (pc' := 70) hM180 rfl rfl rfl ?_
    refine z_iload_n (pc' := 71) hM180 rfl rfl rfl ?_
    obtain ⟨z2, ez2, h3, hm⟩ := o_z hm
    refine z_imul (pc' := 72) hM180 rfl rfl ez2 h3 ?_
    refine z_iload_n (pc' := 73) hM180 rfl rfl rfl ?_
    obtain ⟨z4, ez4, h5, hm⟩ := o_z hm
    refine z_iadd (pc' := 74) hM180 rfl rfl ez4 h5 ?_
    refine z_iconst (pc' := 75) hM180 rfl rfl rfl ?_
    obtain ⟨h7, hm⟩ := o_x hm
    obtain ⟨s6, es6, hm⟩ := o_v hm
    refine z_iast (pc' := 76) hM180 rfl rfl h7 es6 ?_
    obtain ⟨z8, ez8, h9, hm⟩ := o_z hm
    refine z_iinc (pc' := 79) (l' := [some (zr 12 0 209), some (zi x1), some (zi z8), d3, d4, d5, d6]) hM180 rfl rfl rfl ez8 h9 rfl rfl ?_
    refine z_goto (t := 59) hM180 rfl ?_
    exact ih hm
  · replace hm := o_f hm h1
    refine z_iconst (pc' := 83) hM180 rfl rfl rfl ?_
    refine z_istore_n (pc' := 84) (l' := [some (zr 12 0 209), some (zi x1), some (zi (0 : Int)), d3, d4, d5, d6]) hM180 rfl rfl rfl rfl ?_
    exact c180_84 hG hm
def m180_43 (k7_ : Int → Int → zS → Option (Int × zS)) (x1 : Int) (x2 : Int) (y1 : Int) (y2 : Int) (s : zS) : Option (Int × zS) := oX y1 49 (oV (sI s 252 y1 y2) fun s1 => oX x2 49 (oV (sI s1 253 x2 (-1 : Int)) fun s3 => oZ (x2 + (1 : Int)) fun z5 => k7_ x1 z5 s3))
set_option maxHeartbeats 4000000 in
set_option maxRecDepth 20000 in
theorem c180_43 {G : aHp} {d : Nat} {k7_ : Int → Int → zS → Option (Int × zS)} (hG : zG G) (hk7 : ∀ {x1 : Int} {x2 : Int} {d3 d4 d5 d6 : Option zV} {s : zS} {r_ : Int} {s_ : zS}, k7_ x1 x2 s = some (r_, s_) → Zp G (d + 2) 180 7 [some (zr 12 0 209), some (zi x1), some (zi x2), d3, d4, d5, d6] [] s (zRet none s_)) {x1 : Int} {x2 : Int} {y1 : Int} {y2 : Int} {d3 d4 d5 d6 : Option zV} {s : zS} {r_ : Int} {s_ : zS} (hm : m180_43 k7_ x1 x2 y1 y2 s = some (r_, s_)) : Zp G (d + 2) 180 43 [some (zr 12 0 209), some (zi x1), some (zi x2), d3, d4, d5, d6] [zi y2, zi y1, zr 100 49 252] s (zRet none s_) := by
  replace hm : (oX y1 49 (oV (sI s 252 y1 y2) fun s1 => oX x2 49 (oV (sI s1 253 x2 (-1 : Int)) fun s3 => oZ (x2 + (1 : Int)) fun z5 => k7_ x1 z5 s3))) = some (r_, s_) := hm
  obtain ⟨h2, hm⟩ := o_x hm
  obtain ⟨s1, es1, hm⟩ := o_v hm
  refine z_iast (pc' := 44) hM180 rfl rfl h2 es1 ?_
  refine z_aload_n (pc' := 45) hM180 rfl rfl rfl ?_
  refine z_fldR (pc' := 48) hM180 rfl (zf_12_55 hG) rfl rfl ?_
  refine z_iload_n (pc' := 49) hM180 rfl rfl rfl ?_
  refine z_iconst (pc' := 50) hM180 rfl rfl rfl ?_
  obtain ⟨h4, hm⟩ := o_x hm
  obtain ⟨s3, es3, hm⟩ := o_v hm
  refine z_iast (pc' := 51) hM180 rfl rfl h4 es3 ?_
  obtain ⟨z5, ez5, h6, hm⟩ := o_z hm
  refine z_iinc (pc' := 54) (l' := [some (zr 12 0 209), some (zi x1), some (zi z5), d3, d4, d5, d6]) hM180 rfl rfl rfl ez5 h6 rfl rfl ?_
  refine z_goto (t := 7) hM180 rfl ?_
  exact hk7 hm
def m180_7 : Nat → Int → Int → zS → Option (Int × zS)
  | 0, _, _, _ => none
  | n + 1, x1, x2, s => if x2 < (49 : Int) then oZ ((49 : Int) + x2) fun z2 => oX z2 98 (oV (s.1 244 z2) fun z4 => if (0 : Int) < z4 then oZ ((49 : Int) + x2) fun z7 => oX z7 98 (oV (s.1 244 z7) fun z9 => m180_43 (m180_7 n) x1 x2 x2 z9 s) else m180_43 (m180_7 n) x1 x2 x2 (-1 : Int) s) else m180_59 zFu x1 (0 : Int) s
set_option maxHeartbeats 4000000 in
set_option maxRecDepth 20000 in
theorem c180_7 {G : aHp} {d : Nat} (hG : zG G) : ∀ {n : Nat} {x1 : Int} {x2 : Int} {d3 d4 d5 d6 : Option zV} {s : zS} {r_ : Int} {s_ : zS}, m180_7 n x1 x2 s = some (r_, s_) → Zp G (d + 2) 180 7 [some (zr 12 0 209), some (zi x1), some (zi x2), d3, d4, d5, d6] [] s (zRet none s_) := by
  intro n
  induction n with
  | zero => intro x1 x2 d3 d4 d5 d6 s r_ s_ hm; cases hm
  | succ n ih =>
  intro x1 x2 d3 d4 d5 d6 s r_ s_ hm
  replace hm : (if x2 < (49 : Int) then oZ ((49 : Int) + x2) fun z2 => oX z2 98 (oV (s.1 244 z2) fun z4 => if (0 : Int) < z4 then oZ ((49 : Int) + x2) fun z7 => oX z7 98 (oV (s.1 244 z7) fun z9 => m180_43 (m180_7 n) x1 x2 x2 z9 s) else m180_43 (m180_7 n) x1 x2 x2 (-1 : Int) s) else m180_59 zFu x1 (0 : Int) s) = some (r_, s_) := hm
  refine z_iload_n (pc' := 8) hM180 rfl rfl rfl ?_
  refine z_bipush (pc' := 10) hM180 rfl rfl rfl ?_
  refine z_cmpge (pc' := 13) (t := 57) hM180 rfl rfl (fun h1 => ?_) (fun h1 => ?_)
  · replace hm := o_t hm h1
    refine z_aload_n (pc' := 14) hM180 rfl rfl rfl ?_
    refine z_fldR (pc' := 17) hM180 rfl (zf_12_54 hG) rfl rfl ?_
    refine z_iload_n (pc' := 18) hM180 rfl rfl rfl ?_
    refine z_aload_n (pc' := 19) hM180 rfl rfl rfl ?_
    refine z_fldR (pc' := 22) hM180 rfl (zf_12_43 hG) rfl rfl ?_
    refine z_bipush (pc' := 24) hM180 rfl rfl rfl ?_
    refine z_iload_n (pc' := 25) hM180 rfl rfl rfl ?_
    obtain ⟨z2, ez2, h3, hm⟩ := o_z hm
    refine z_iadd (pc' := 26) hM180 rfl rfl ez2 h3 ?_
    obtain ⟨h5, hm⟩ := o_x hm
    obtain ⟨z4, ez4, hm⟩ := o_v hm
    refine z_iald (pc' := 27) (zGN hG) hM180 rfl rfl h5 ez4 ?_
    refine z_ifle (pc' := 30) (t := 42) hM180 rfl rfl (fun h6 => ?_) (fun h6 => ?_)
    · replace hm := o_t hm h6
      refine z_aload_n (pc' := 31) hM180 rfl rfl rfl ?_
      refine z_fldR (pc' := 34) hM180 rfl (zf_12_43 hG) rfl rfl ?_
      refine z_bipush (pc' := 36) hM180 rfl rfl rfl ?_
      refine z_iload_n (pc' := 37) hM180 rfl rfl rfl ?_
      obtain ⟨z7, ez7, h8, hm⟩ := o_z hm
      refine z_iadd (pc' := 38) hM180 rfl rfl ez7 h8 ?_
      obtain ⟨h10, hm⟩ := o_x hm
      obtain ⟨z9, ez9, hm⟩ := o_v hm
      refine z_iald (pc' := 39) (zGN hG) hM180 rfl rfl h10 ez9 ?_
      refine z_goto (t := 43) hM180 rfl ?_
      exact c180_43 hG ih hm
    · replace hm := o_f hm h6
      refine z_iconst (pc' := 43) hM180 rfl rfl rfl ?_
      exact c180_43 hG ih hm
  · replace hm := o_f hm h1
    refine z_iconst (pc' := 58) hM180 rfl rfl rfl ?_
    refine z_istore_n (pc' := 59) (l' := [some (zr 12 0 209), some (zi x1), some (zi (0 : Int)), d3, d4, d5, d6]) hM180 rfl rfl rfl rfl ?_
    exact c180_59 hG hm
def m180  (s : zS) : Option (Int × zS) := oC (m181 s) fun z1 s2 => m180_7 zFu z1 (0 : Int) s2
set_option maxHeartbeats 4000000 in
set_option maxRecDepth 20000 in
theorem c180 {G : aHp} {d : Nat} (hG : zG G) {s : zS} {r_ : Int} {s_ : zS} (hm : m180  s = some (r_, s_)) : Zp G (d + 2) 180 0 [some (zr 12 0 209), none, none, none, none, none, none] [] s (zRet none s_) := by
  replace hm : (oC (m181 s) fun z1 s2 => m180_7 zFu z1 (0 : Int) s2) = some (r_, s_) := hm
  refine z_aload_n (pc' := 1) hM180 rfl rfl rfl ?_
  obtain ⟨z1, s2, h3, hm⟩ := o_c hm
  refine z_cv (d := d + 1) (pc' := 4) hM180 rfl hM181 rfl rfl rfl rfl rfl rfl (c181 (d := d) hG h3) rfl ?_
  refine z_istore_n (pc' := 5) (l' := [some (zr 12 0 209), some (zi z1), none, none, none, none, none]) hM180 rfl rfl rfl rfl ?_
  refine z_iconst (pc' := 6) hM180 rfl rfl rfl ?_
  refine z_istore_n (pc' := 7) (l' := [some (zr 12 0 209), some (zi z1), some (zi (0 : Int)), none, none, none, none]) hM180 rfl rfl rfl rfl ?_
  exact c180_7 hG hm
