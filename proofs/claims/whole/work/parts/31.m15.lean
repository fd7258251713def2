/-! ===== methods (by gen_mir.py) ===== -/
def m238_71 (x1 : Int) (x2 : Int) (x3 : Int) (s : zS) : Option (Int × zS) := if x2 = (-1 : Int) then some ((-1 : Int), s) else if x1 = (0 : Int) then some (x2, s) else some (x3, s)
theorem c238_71 {G : aHp} {d : Nat} (hG : zG G) {x1 : Int} {x2 : Int} {x3 : Int} {d0 d4 d5 : Option zV} {s : zS} {r_ : Int} {s_ : zS} (hm : m238_71 x1 x2 x3 s = some (r_, s_)) : Zp G (d + 9) 238 71 [d0, some (zi x1), some (zi x2), some (zi x3), d4, d5] [] s (zRet (some (zi r_)) s_) := by
  replace hm : (if x2 = (-1 : Int) then some ((-1 : Int), s) else if x1 = (0 : Int) then some (x2, s) else some (x3, s)) = some (r_, s_) := hm
  refine z_iload_n (pc' := 72) hM238 rfl rfl rfl ?_
  refine z_iconst (pc' := 73) hM238 rfl rfl rfl ?_
  refine z_cmpne (pc' := 76) (t := 80) hM238 rfl rfl (fun h1 => ?_) (fun h1 => ?_)
  · replace hm := o_t hm h1
    refine z_iconst (pc' := 77) hM238 rfl rfl rfl ?_
    refine z_goto (t := 89) hM238 rfl ?_
    cases hm
    exact z_retI hM238 rfl rfl ⟨rfl, rfl⟩
  · replace hm := o_f hm h1
    refine z_iload_n (pc' := 81) hM238 rfl rfl rfl ?_
    refine z_ifne (pc' := 84) (t := 88) hM238 rfl rfl (fun h2 => ?_) (fun h2 => ?_)
    · replace hm := o_t hm h2
      refine z_iload_n (pc' := 85) hM238 rfl rfl rfl ?_
      refine z_goto (t := 89) hM238 rfl ?_
      cases hm
      exact z_retI hM238 rfl rfl ⟨rfl, rfl⟩
    · replace hm := o_f hm h2
      refine z_iload_n (pc' := 89) hM238 rfl rfl rfl ?_
      cases hm
      exact z_retI hM238 rfl rfl ⟨rfl, rfl⟩
def m238_23 : Nat → Int → Int → Int → Int → zS → Option (Int × zS)
  | 0, _, _, _, _, _ => none
  | n + 1, x1, x2, x3, x4, s => if (30 : Int) < x4 then m238_71 x1 x2 x3 s else oV (s.1 209 70) fun z2 => if (0 : Int) < z2 then oC (m237 x4 s) fun z4 s5 => if x2 = (-1 : Int) then oZ (x4 + (1 : Int)) fun z8 => m238_23 n x1 x4 z4 z8 s5 else if z4 < x3 then oZ (x4 + (1 : Int)) fun z11 => m238_23 n x1 x4 z4 z11 s5 else oZ (x4 + (1 : Int)) fun z13 => m238_23 n x1 x2 x3 z13 s5 else m238_71 x1 x2 x3 s
theorem c238_23 {G : aHp} {d : Nat} (hG : zG G) : ∀ {n : Nat} {x1 : Int} {x2 : Int} {x3 : Int} {x4 : Int} {d5 : Option zV} {s : zS} {r_ : Int} {s_ : zS}, m238_23 n x1 x2 x3 x4 s = some (r_, s_) → Zp G (d + 9) 238 23 [some (zr 12 0 209), some (zi x1), some (zi x2), some (zi x3), some (zi x4), d5] [] s (zRet (some (zi r_)) s_) := by
  intro n
  induction n with
  | zero => intro x1 x2 x3 x4 d5 s r_ s_ hm; cases hm
  | succ n ih =>
  intro x1 x2 x3 x4 d5 s r_ s_ hm
  replace hm : (if (30 : Int) < x4 then m238_71 x1 x2 x3 s else oV (s.1 209 70) fun z2 => if (0 : Int) < z2 then oC (m237 x4 s) fun z4 s5 => if x2 = (-1 : Int) then oZ (x4 + (1 : Int)) fun z8 => m238_23 n x1 x4 z4 z8 s5 else if z4 < x3 then oZ (x4 + (1 : Int)) fun z11 => m238_23 n x1 x4 z4 z11 s5 else oZ (x4 + (1 : Int)) fun z13 => m238_23 n x1 x2 x3 z13 s5 else m238_71 x1 x2 x3 s) = some (r_, s_) := hm
  refine z_iload (pc' := 25) hM238 rfl rfl rfl ?_
  refine z_bipush (pc' := 27) hM238 rfl rfl rfl ?_
  refine z_cmpgt (pc' := 30) (t := 71) hM238 rfl rfl (fun h1 => ?_) (fun h1 => ?_)
  · replace hm := o_t hm h1
    exact c238_71 hG hm
  · replace hm := o_f hm h1
    refine z_aload_n (pc' := 31) hM238 rfl rfl rfl ?_
    obtain ⟨z2, ez2, hm⟩ := o_v hm
    refine z_fldI (pc' := 34) hM238 rfl rfl rfl ez2 ?_
    refine z_ifle (pc' := 37) (t := 71) hM238 rfl rfl (fun h3 => ?_) (fun h3 => ?_)
    · replace hm := o_t hm h3
      refine z_aload_n (pc' := 38) hM238 rfl rfl rfl ?_
      refine z_iload (pc' := 40) hM238 rfl rfl rfl ?_
      obtain ⟨z4, s5, h6, hm⟩ := o_c hm
      refine z_cv (d := d + 8) (pc' := 43) hM238 rfl hM237 rfl rfl rfl rfl rfl rfl (c237 (d := d + 6) hG h6) rfl ?_
      refine z_istore (pc' := 45) (l' := [some (zr 12 0 209), some (zi x1), some (zi x2), some (zi x3), some (zi x4), some (zi z4)]) hM238 rfl rfl rfl rfl ?_
      refine z_iload_n (pc' := 46) hM238 rfl rfl rfl ?_
      refine z_iconst (pc' := 47) hM238 rfl rfl rfl ?_
      refine z_cmpeq (pc' := 50) (t := 59) hM238 rfl rfl (fun h7 => ?_) (fun h7 => ?_)
      · replace hm := o_t hm h7
        refine z_iload (pc' := 61) hM238 rfl rfl rfl ?_
        refine z_istore_n (pc' := 62) (l' := [some (zr 12 0 209), some (zi x1), some (zi x4), some (zi x3), some (zi x4), some (zi z4)]) hM238 rfl rfl rfl rfl ?_
        refine z_iload (pc' := 64) hM238 rfl rfl rfl ?_
        refine z_istore_n (pc' := 65) (l' := [some (zr 12 0 209), some (zi x1), some (zi x4), some (zi z4), some (zi x4), some (zi z4)]) hM238 rfl rfl rfl rfl ?_
        obtain ⟨z8, ez8, h9, hm⟩ := o_z hm
        refine z_iinc (pc' := 68) (l' := [some (zr 12 0 209), some (zi x1), some (zi x4), some (zi z4), some (zi z8), some (zi z4)]) hM238 rfl rfl rfl ez8 h9 rfl rfl ?_
        refine z_goto (t := 23) hM238 rfl ?_
        exact ih hm
      · replace hm := o_f hm h7
        refine z_iload (pc' := 52) hM238 rfl rfl rfl ?_
        refine z_iload_n (pc' := 53) hM238 rfl rfl rfl ?_
        refine z_cmplt (pc' := 56) (t := 59) hM238 rfl rfl (fun h10 => ?_) (fun h10 => ?_)
        · replace hm := o_t hm h10
          refine z_iload (pc' := 61) hM238 rfl rfl rfl ?_
          refine z_istore_n (pc' := 62) (l' := [some (zr 12 0 209), some (zi x1), some (zi x4), some (zi x3), some (zi x4), some (zi z4)]) hM238 rfl rfl rfl rfl ?_
          refine z_iload (pc' := 64) hM238 rfl rfl rfl ?_
          refine z_istore_n (pc' := 65) (l' := [some (zr 12 0 209), some (zi x1), some (zi x4), some (zi z4), some (zi x4), some (zi z4)]) hM238 rfl rfl rfl rfl ?_
          obtain ⟨z11, ez11, h12, hm⟩ := o_z hm
          refine z_iinc (pc' := 68) (l' := [some (zr 12 0 209), some (zi x1), some (zi x4), some (zi z4), some (zi z11), some (zi z4)]) hM238 rfl rfl rfl ez11 h12 rfl rfl ?_
          refine z_goto (t := 23) hM238 rfl ?_
          exact ih hm
        · replace hm := o_f hm h10
          refine z_goto (t := 65) hM238 rfl ?_
          obtain ⟨z13, ez13, h14, hm⟩ := o_z hm
          refine z_iinc (pc' := 68) (l' := [some (zr 12 0 209), some (zi x1), some (zi x2), some (zi x3), some (zi z13), some (zi z4)]) hM238 rfl rfl rfl ez13 h14 rfl rfl ?_
          refine z_goto (t := 23) hM238 rfl ?_
          exact ih hm
    · replace hm := o_f hm h3
      exact c238_71 hG hm
def m238 (x1 : Int) (s : zS) : Option (Int × zS) := oC (m150 x1 (0 : Int) (1 : Int) s) fun z1 s2 => if z1 = (0 : Int) then some ((-1 : Int), s2) else oC (m235 s2) fun z5 s6 => m238_23 zFu x1 (-1 : Int) (0 : Int) (0 : Int) s6
theorem c238 {G : aHp} {d : Nat} (hG : zG G) {x1 : Int} {s : zS} {r_ : Int} {s_ : zS} (hm : m238 x1 s = some (r_, s_)) : Zp G (d + 9) 238 0 [some (zr 12 0 209), some (zi x1), none, none, none, none] [] s (zRet (some (zi r_)) s_) := by
  replace hm : (oC (m150 x1 (0 : Int) (1 : Int) s) fun z1 s2 => if z1 = (0 : Int) then some ((-1 : Int), s2) else oC (m235 s2) fun z5 s6 => m238_23 zFu x1 (-1 : Int) (0 : Int) (0 : Int) s6) = some (r_, s_) := hm
  refine z_iload_n (pc' := 1) hM238 rfl rfl rfl ?_
  refine z_i2l (pc' := 2) hM238 rfl rfl ?_
  refine z_lconst (pc' := 3) (x := (0 : Int)) hM238 rfl rfl rfl rfl ?_
  refine z_lconst (pc' := 4) (x := (1 : Int)) hM238 rfl rfl rfl rfl ?_
  obtain ⟨z1, s2, h3, hm⟩ := o_c hm
  refine z_cs (d := d + 8) (pc' := 7) hM238 rfl hM150 rfl rfl rfl rfl (c150 (d := d + 7) hG h3) rfl ?_
  refine z_ifne (pc' := 10) (t := 12) hM238 rfl rfl (fun h4 => ?_) (fun h4 => ?_)
  · replace hm := o_t hm h4
    refine z_iconst (pc' := 11) hM238 rfl rfl rfl ?_
    cases hm
    exact z_retI hM238 rfl rfl ⟨rfl, rfl⟩
  · replace hm := o_f hm h4
    refine z_aload_n (pc' := 13) hM238 rfl rfl rfl ?_
    obtain ⟨z5, s6, h7, hm⟩ := o_c hm
    refine z_cvV (d := d + 8) (pc' := 16) hM238 rfl hM235 rfl rfl rfl rfl rfl rfl (c235 (d := d) hG h7) rfl ?_
    refine z_iconst (pc' := 17) hM238 rfl rfl rfl ?_
    refine z_istore_n (pc' := 18) (l' := [some (zr 12 0 209), some (zi x1), some (zi (-1 : Int)), none, none, none]) hM238 rfl rfl rfl rfl ?_
    refine z_iconst (pc' := 19) hM238 rfl rfl rfl ?_
    refine z_istore_n (pc' := 20) (l' := [some (zr 12 0 209), some (zi x1), some (zi (-1 : Int)), some (zi (0 : Int)), none, none]) hM238 rfl rfl rfl rfl ?_
    refine z_iconst (pc' := 21) hM238 rfl rfl rfl ?_
    refine z_istore (pc' := 23) (l' := [some (zr 12 0 209), some (zi x1), some (zi (-1 : Int)), some (zi (0 : Int)), some (zi (0 : Int)), none]) hM238 rfl rfl rfl rfl ?_
    exact c238_23 hG hm
def m239_15 : Nat → Int → zS → Option (Int × zS)
  | 0, _, _ => none
  | n + 1, x1, s => if x1 < (37 : Int) then oV (s.1 209 75) fun z2 => oZ ((37 : Int) * z2) fun z3 => oZ (z3 + x1) fun z5 => oX x1 37 (oV (s.1 254 x1) fun z7 => oX z5 740 (oV (sI s 262 z5 z7) fun s9 => oZ (x1 + (1 : Int)) fun z11 => m239_15 n z11 s9)) else oV (s.1 209 74) fun z13 => if z13 < (20 : Int) then oV (s.1 209 74) fun z15 => oZ (z15 + (1 : Int)) fun z16 => oV (sI s 209 74 z16) fun s18 => some (0, s18) else some (0, s)
theorem c239_15 {G : aHp} {d : Nat} (hG : zG G) : ∀ {n : Nat} {x1 : Int} {s : zS} {r_ : Int} {s_ : zS}, m239_15 n x1 s = some (r_, s_) → Zp G (d + 1) 239 15 [some (zr 12 0 209), some (zi x1)] [] s (zRet none s_) := by
  intro n
  induction n with
  | zero => intro x1 s r_ s_ hm; cases hm
  | succ n ih =>
  intro x1 s r_ s_ hm
  replace hm : (if x1 < (37 : Int) then oV (s.1 209 75) fun z2 => oZ ((37 : Int) * z2) fun z3 => oZ (z3 + x1) fun z5 => oX x1 37 (oV (s.1 254 x1) fun z7 => oX z5 740 (oV (sI s 262 z5 z7) fun s9 => oZ (x1 + (1 : Int)) fun z11 => m239_15 n z11 s9)) else oV (s.1 209 74) fun z13 => if z13 < (20 : Int) then oV (s.1 209 74) fun z15 => oZ (z15 + (1 : Int)) fun z16 => oV (sI s 209 74 z16) fun s18 => some (0, s18) else some (0, s)) = some (r_, s_) := hm
  refine z_iload_n (pc' := 16) hM239 rfl rfl rfl ?_
  refine z_bipush (pc' := 18) hM239 rfl rfl rfl ?_
  refine z_cmpge (pc' := 21) (t := 47) hM239 rfl rfl (fun h1 => ?_) (fun h1 => ?_)
  · replace hm := o_t hm h1
    refine z_aload_n (pc' := 22) hM239 rfl rfl rfl ?_
    refine z_fldR (pc' := 25) hM239 rfl (zf_12_73 hG) rfl rfl ?_
    refine z_bipush (pc' := 27) hM239 rfl rfl rfl ?_
    refine z_aload_n (pc' := 28) hM239 rfl rfl rfl ?_
    obtain ⟨z2, ez2, hm⟩ := o_v hm
    refine z_fldI (pc' := 31) hM239 rfl rfl rfl ez2 ?_
    obtain ⟨z3, ez3, h4, hm⟩ := o_z hm
    refine z_imul (pc' := 32) hM239 rfl rfl ez3 h4 ?_
    refine z_iload_n (pc' := 33) hM239 rfl rfl rfl ?_
    obtain ⟨z5, ez5, h6, hm⟩ := o_z hm
    refine z_iadd (pc' := 34) hM239 rfl rfl ez5 h6 ?_
    refine z_aload_n (pc' := 35) hM239 rfl rfl rfl ?_
    refine z_fldR (pc' := 38) hM239 rfl (zf_12_56 hG) rfl rfl ?_
    refine z_iload_n (pc' := 39) hM239 rfl rfl rfl ?_
    obtain ⟨h8, hm⟩ := o_x hm
    obtain ⟨z7, ez7, hm⟩ := o_v hm
    refine z_iald (pc' := 40) (zGN hG) hM239 rfl rfl h8 ez7 ?_
    obtain ⟨h10, hm⟩ := o_x hm
    obtain ⟨s9, es9, hm⟩ := o_v hm
    refine z_iast (pc' := 41) hM239 rfl rfl h10 es9 ?_
    obtain ⟨z11, ez11, h12, hm⟩ := o_z hm
    refine z_iinc (pc' := 44) (l' := [some (zr 12 0 209), some (zi z11)]) hM239 rfl rfl rfl ez11 h12 rfl rfl ?_
    refine z_goto (t := 15) hM239 rfl ?_
    exact ih hm
  · replace hm := o_f hm h1
    refine z_aload_n (pc' := 48) hM239 rfl rfl rfl ?_
    obtain ⟨z13, ez13, hm⟩ := o_v hm
    refine z_fldI (pc' := 51) hM239 rfl rfl rfl ez13 ?_
    refine z_bipush (pc' := 53) hM239 rfl rfl rfl ?_
    refine z_cmpge (pc' := 56) (t := 66) hM239 rfl rfl (fun h14 => ?_) (fun h14 => ?_)
    · replace hm := o_t hm h14
      refine z_aload_n (pc' := 57) hM239 rfl rfl rfl ?_
      refine z_dupA (pc' := 58) hM239 rfl rfl ?_
      obtain ⟨z15, ez15, hm⟩ := o_v hm
      refine z_fldI (pc' := 61) hM239 rfl rfl rfl ez15 ?_
      refine z_iconst (pc' := 62) hM239 rfl rfl rfl ?_
      obtain ⟨z16, ez16, h17, hm⟩ := o_z hm
      refine z_iadd (pc' := 63) hM239 rfl rfl ez16 h17 ?_
      obtain ⟨s18, es18, hm⟩ := o_v hm
      refine z_putI (pc' := 66) hM239 rfl rfl rfl es18 ?_
      cases hm
      exact z_retV hM239 rfl rfl ⟨rfl, rfl⟩
    · replace hm := o_f hm h14
      cases hm
      exact z_retV hM239 rfl rfl ⟨rfl, rfl⟩
def m239  (s : zS) : Option (Int × zS) := oV (s.1 209 75) fun z1 => oZ (z1 + (1 : Int)) fun z2 => oN (20 : Int) (oV (Int.tmod z2 (20 : Int)) fun z4 => oV (sI s 209 75 z4) fun s5 => m239_15 zFu (0 : Int) s5)
theorem c239 {G : aHp} {d : Nat} (hG : zG G) {s : zS} {r_ : Int} {s_ : zS} (hm : m239  s = some (r_, s_)) : Zp G (d + 1) 239 0 [some (zr 12 0 209), none] [] s (zRet none s_) := by
  replace hm : (oV (s.1 209 75) fun z1 => oZ (z1 + (1 : Int)) fun z2 => oN (20 : Int) (oV (Int.tmod z2 (20 : Int)) fun z4 => oV (sI s 209 75 z4) fun s5 => m239_15 zFu (0 : Int) s5)) = some (r_, s_) := hm
  refine z_aload_n (pc' := 1) hM239 rfl rfl rfl ?_
  refine z_aload_n (pc' := 2) hM239 rfl rfl rfl ?_
  obtain ⟨z1, ez1, hm⟩ := o_v hm
  refine z_fldI (pc' := 5) hM239 rfl rfl rfl ez1 ?_
  refine z_iconst (pc' := 6) hM239 rfl rfl rfl ?_
  obtain ⟨z2, ez2, h3, hm⟩ := o_z hm
  refine z_iadd (pc' := 7) hM239 rfl rfl ez2 h3 ?_
  refine z_bipush (pc' := 9) hM239 rfl rfl rfl ?_
  obtain ⟨nz4, hm⟩ := o_n hm
  obtain ⟨z4, ez4, hm⟩ := o_v hm
  refine z_irem (pc' := 10) hM239 rfl rfl nz4 ez4 ?_
  obtain ⟨s5, es5, hm⟩ := o_v hm
  refine z_putI (pc' := 13) hM239 rfl rfl rfl es5 ?_
  refine z_iconst (pc' := 14) hM239 rfl rfl rfl ?_
  refine z_istore_n (pc' := 15) (l' := [some (zr 12 0 209), some (zi (0 : Int))]) hM239 rfl rfl rfl rfl ?_
  exact c239_15 hG hm
def m240_21 : Nat → Int → zS → Option (Int × zS)
  | 0, _, _ => none
  | n + 1, x1, s => if x1 < (37 : Int) then oV (s.1 209 75) fun z2 => oZ ((37 : Int) * z2) fun z3 => oZ (z3 + x1) fun z5 => oX z5 740 (oV (s.1 262 z5) fun z7 => oX x1 37 (oV (sI s 254 x1 z7) fun s9 => oZ (x1 + (1 : Int)) fun z11 => m240_21 n z11 s9)) else oV (s.1 209 75) fun z13 => oZ (z13 + (20 : Int)) fun z14 => oZ (z14 - (1 : Int)) fun z16 => oN (20 : Int) (oV (Int.tmod z16 (20 : Int)) fun z18 => oV (sI s 209 75 z18) fun s19 => oV (s19.1 209 74) fun z20 => oZ (z20 - (1 : Int)) fun z21 => oV (sI s19 209 74 z21) fun s23 => some ((1 : Int), s23))
theorem c240_21 {G : aHp} {d : Nat} (hG : zG G) : ∀ {n : Nat} {x1 : Int} {s : zS} {r_ : Int} {s_ : zS}, m240_21 n x1 s = some (r_, s_) → Zp G (d + 1) 240 21 [some (zr 12 0 209), some (zi x1)] [] s (zRet (some (zi r_)) s_) := by
  intro n
  induction n with
  | zero => intro x1 s r_ s_ hm; cases hm
  | succ n ih =>
  intro x1 s r_ s_ hm
  replace hm : (if x1 < (37 : Int) then oV (s.1 209 75) fun z2 => oZ ((37 : Int) * z2) fun z3 => oZ (z3 + x1) fun z5 => oX z5 740 (oV (s.1 262 z5) fun z7 => oX x1 37 (oV (sI s 254 x1 z7) fun s9 => oZ (x1 + (1 : Int)) fun z11 => m240_21 n z11 s9)) else oV (s.1 209 75) fun z13 => oZ (z13 + (20 : Int)) fun z14 => oZ (z14 - (1 : Int)) fun z16 => oN (20 : Int) (oV (Int.tmod z16 (20 : Int)) fun z18 => oV (sI s 209 75 z18) fun s19 => oV (s19.1 209 74) fun z20 => oZ (z20 - (1 : Int)) fun z21 => oV (sI s19 209 74 z21) fun s23 => some ((1 : Int), s23))) = some (r_, s_) := hm
  refine z_iload_n (pc' := 22) hM240 rfl rfl rfl ?_
  refine z_bipush (pc' := 24) hM240 rfl rfl rfl ?_
  refine z_cmpge (pc' := 27) (t := 53) hM240 rfl rfl (fun h1 => ?_) (fun h1 => ?_)
  · replace hm := o_t hm h1
    refine z_aload_n (pc' := 28) hM240 rfl rfl rfl ?_
    refine z_fldR (pc' := 31) hM240 rfl (zf_12_56 hG) rfl rfl ?_
    refine z_iload_n (pc' := 32) hM240 rfl rfl rfl ?_
    refine z_aload_n (pc' := 33) hM240 rfl rfl rfl ?_
    refine z_fldR (pc' := 36) hM240 rfl (zf_12_73 hG) rfl rfl ?_
    refine z_bipush (pc' := 38) hM240 rfl rfl rfl ?_
    refine z_aload_n (pc' := 39) hM240 rfl rfl rfl ?_
    obtain ⟨z2, ez2, hm⟩ := o_v hm
    refine z_fldI (pc' := 42) hM240 rfl rfl rfl ez2 ?_
    obtain ⟨z3, ez3, h4, hm⟩ := o_z hm
    refine z_imul (pc' := 43) hM240 rfl rfl ez3 h4 ?_
    refine z_iload_n (pc' := 44) hM240 rfl rfl rfl ?_
    obtain ⟨z5, ez5, h6, hm⟩ := o_z hm
    refine z_iadd (pc' := 45) hM240 rfl rfl ez5 h6 ?_
    obtain ⟨h8, hm⟩ := o_x hm
    obtain ⟨z7, ez7, hm⟩ := o_v hm
    refine z_iald (pc' := 46) (zGN hG) hM240 rfl rfl h8 ez7 ?_
    obtain ⟨h10, hm⟩ := o_x hm
    obtain ⟨s9, es9, hm⟩ := o_v hm
    refine z_iast (pc' := 47) hM240 rfl rfl h10 es9 ?_
    obtain ⟨z11, ez11, h12, hm⟩ := o_z hm
    refine z_iinc (pc' := 50) (l' := [some (zr 12 0 209), some (zi z11)]) hM240 rfl rfl rfl ez11 h12 rfl rfl ?_
    refine z_goto (t := 21) hM240 rfl ?_
    exact ih hm
  · replace hm := o_f hm h1
    refine z_aload_n (pc' := 54) hM240 rfl rfl rfl ?_
    refine z_aload_n (pc' := 55) hM240 rfl rfl rfl ?_
    obtain ⟨z13, ez13, hm⟩ := o_v hm
    refine z_fldI (pc' := 58) hM240 rfl rfl rfl ez13 ?_
    refine z_bipush (pc' := 60) hM240 rfl rfl rfl ?_
    obtain ⟨z14, ez14, h15, hm⟩ := o_z hm
    refine z_iadd (pc' := 61) hM240 rfl rfl ez14 h15 ?_
    refine z_iconst (pc' := 62) hM240 rfl rfl rfl ?_
    obtain ⟨z16, ez16, h17, hm⟩ := o_z hm
    refine z_isub (pc' := 63) hM240 rfl rfl ez16 h17 ?_
    refine z_bipush (pc' := 65) hM240 rfl rfl rfl ?_
    obtain ⟨nz18, hm⟩ := o_n hm
    obtain ⟨z18, ez18, hm⟩ := o_v hm
    refine z_irem (pc' := 66) hM240 rfl rfl nz18 ez18 ?_
    obtain ⟨s19, es19, hm⟩ := o_v hm
    refine z_putI (pc' := 69) hM240 rfl rfl rfl es19 ?_
    refine z_aload_n (pc' := 70) hM240 rfl rfl rfl ?_
    refine z_dupA (pc' := 71) hM240 rfl rfl ?_
    obtain ⟨z20, ez20, hm⟩ := o_v hm
    refine z_fldI (pc' := 74) hM240 rfl rfl rfl ez20 ?_
    refine z_iconst (pc' := 75) hM240 rfl rfl rfl ?_
    obtain ⟨z21, ez21, h22, hm⟩ := o_z hm
    refine z_isub (pc' := 76) hM240 rfl rfl ez21 h22 ?_
    obtain ⟨s23, es23, hm⟩ := o_v hm
    refine z_putI (pc' := 79) hM240 rfl rfl rfl es23 ?_
    refine z_iconst (pc' := 80) hM240 rfl rfl rfl ?_
    cases hm
    exact z_retZ hM240 rfl rfl (Or.inr rfl) ⟨rfl, rfl⟩
def m240  (s : zS) : Option (Int × zS) := oV (s.1 209 74) fun z1 => if z1 = (0 : Int) then oX (4 : Int) 6 (oV (s.1 211 (4 : Int)) fun z3 => oZ (z3 + (1 : Int)) fun z5 => oX (4 : Int) 6 (oV (sI s 211 (4 : Int) z5) fun s7 => some ((0 : Int), s7))) else m240_21 zFu (0 : Int) s
theorem c240 {G : aHp} {d : Nat} (hG : zG G) {s : zS} {r_ : Int} {s_ : zS} (hm : m240  s = some (r_, s_)) : Zp G (d + 1) 240 0 [some (zr 12 0 209), none] [] s (zRet (some (zi r_)) s_) := by
  replace hm : (oV (s.1 209 74) fun z1 => if z1 = (0 : Int) then oX (4 : Int) 6 (oV (s.1 211 (4 : Int)) fun z3 => oZ (z3 + (1 : Int)) fun z5 => oX (4 : Int) 6 (oV (sI s 211 (4 : Int) z5) fun s7 => some ((0 : Int), s7))) else m240_21 zFu (0 : Int) s) = some (r_, s_) := hm
  refine z_aload_n (pc' := 1) hM240 rfl rfl rfl ?_
  obtain ⟨z1, ez1, hm⟩ := o_v hm
  refine z_fldI (pc' := 4) hM240 rfl rfl rfl ez1 ?_
  refine z_ifne (pc' := 7) (t := 19) hM240 rfl rfl (fun h2 => ?_) (fun h2 => ?_)
  · replace hm := o_t hm h2
    refine z_aload_n (pc' := 8) hM240 rfl rfl rfl ?_
    refine z_fldR (pc' := 11) hM240 rfl (zf_12_9 hG) rfl rfl ?_
    refine z_iconst (pc' := 12) hM240 rfl rfl rfl ?_
    refine z_dup2A (pc' := 13) hM240 rfl rfl ?_
    obtain ⟨h4, hm⟩ := o_x hm
    obtain ⟨z3, ez3, hm⟩ := o_v hm
    refine z_iald (pc' := 14) (zGN hG) hM240 rfl rfl h4 ez3 ?_
    refine z_iconst (pc' := 15) hM240 rfl rfl rfl ?_
    obtain ⟨z5, ez5, h6, hm⟩ := o_z hm
    refine z_iadd (pc' := 16) hM240 rfl rfl ez5 h6 ?_
    obtain ⟨h8, hm⟩ := o_x hm
    obtain ⟨s7, es7, hm⟩ := o_v hm
    refine z_iast (pc' := 17) hM240 rfl rfl h8 es7 ?_
    refine z_iconst (pc' := 18) hM240 rfl rfl rfl ?_
    cases hm
    exact z_retZ hM240 rfl rfl (Or.inl rfl) ⟨rfl, rfl⟩
  · replace hm := o_f hm h2
    refine z_iconst (pc' := 20) hM240 rfl rfl rfl ?_
    refine z_istore_n (pc' := 21) (l' := [some (zr 12 0 209), some (zi (0 : Int))]) hM240 rfl rfl rfl rfl ?_
    exact c240_21 hG hm
def m241 (x1 : Int) (s : zS) : Option (Int × zS) := oC (m215 x1 s) fun z1 s2 => if z1 = (0 : Int) then oC (m232 (2 : Int) s2) fun z5 s6 => some (z5, s6) else oC (m239 s2) fun z8 s9 => oX (1 : Int) 37 (oV (s9.1 254 (1 : Int)) fun z11 => oC (m228 x1 z11 s9) fun z13 s14 => some (z13, s14))
theorem c241 {G : aHp} {d : Nat} (hG : zG G) {x1 : Int} {s : zS} {r_ : Int} {s_ : zS} (hm : m241 x1 s = some (r_, s_)) : Zp G (d + 4) 241 0 [some (zr 12 0 209), some (zi x1)] [] s (zRet (some (zi r_)) s_) := by
  replace hm : (oC (m215 x1 s) fun z1 s2 => if z1 = (0 : Int) then oC (m232 (2 : Int) s2) fun z5 s6 => some (z5, s6) else oC (m239 s2) fun z8 s9 => oX (1 : Int) 37 (oV (s9.1 254 (1 : Int)) fun z11 => oC (m228 x1 z11 s9) fun z13 s14 => some (z13, s14))) = some (r_, s_) := hm
  refine z_aload_n (pc' := 1) hM241 rfl rfl rfl ?_
  refine z_iload_n (pc' := 2) hM241 rfl rfl rfl ?_
  obtain ⟨z1, s2, h3, hm⟩ := o_c hm
  refine z_cv (d := d + 3) (pc' := 5) hM241 rfl hM215 rfl rfl rfl rfl rfl rfl (c215 (d := d) hG h3) rfl ?_
  refine z_ifne (pc' := 8) (t := 14) hM241 rfl rfl (fun h4 => ?_) (fun h4 => ?_)
  · replace hm := o_t hm h4
    refine z_aload_n (pc' := 9) hM241 rfl rfl rfl ?_
    refine z_iconst (pc' := 10) hM241 rfl rfl rfl ?_
    obtain ⟨z5, s6, h7, hm⟩ := o_c hm
    refine z_cv (d := d + 3) (pc' := 13) hM241 rfl hM232 rfl rfl rfl rfl rfl rfl (c232 (d := d + 2) hG h7) rfl ?_
    cases hm
    exact z_retI hM241 rfl rfl ⟨rfl, rfl⟩
  · replace hm := o_f hm h4
    refine z_aload_n (pc' := 15) hM241 rfl rfl rfl ?_
    obtain ⟨z8, s9, h10, hm⟩ := o_c hm
    refine z_cvV (d := d + 3) (pc' := 18) hM241 rfl hM239 rfl rfl rfl rfl rfl rfl (c239 (d := d + 2) hG h10) rfl ?_
    refine z_aload_n (pc' := 19) hM241 rfl rfl rfl ?_
    refine z_iload_n (pc' := 20) hM241 rfl rfl rfl ?_
    refine z_aload_n (pc' := 21) hM241 rfl rfl rfl ?_
    refine z_fldR (pc' := 24) hM241 rfl (zf_12_56 hG) rfl rfl ?_
    refine z_iconst (pc' := 25) hM241 rfl rfl rfl ?_
    obtain ⟨h12, hm⟩ := o_x hm
    obtain ⟨z11, ez11, hm⟩ := o_v hm
    refine z_iald (pc' := 26) (zGN hG) hM241 rfl rfl h12 ez11 ?_
    obtain ⟨z13, s14, h15, hm⟩ := o_c hm
    refine z_cv (d := d + 3) (pc' := 29) hM241 rfl hM228 rfl rfl rfl rfl rfl rfl (c228 (d := d) hG h15) rfl ?_
    cases hm
    exact z_retI hM241 rfl rfl ⟨rfl, rfl⟩
def m242 (x1 : Int) (s : zS) : Option (Int × zS) := oC (m186 x1 s) fun z1 s2 => if z1 = (0 : Int) then oC (m232 (2 : Int) s2) fun z5 s6 => some (z5, s6) else oC (m189 x1 s2) fun z8 s9 => if z8 = (-1 : Int) then oC (m232 (2 : Int) s9) fun z12 s13 => some (z12, s13) else oC (m239 s9) fun z15 s16 => oC (m188 x1 s16) fun z18 s19 => oC (m195 z18 s19) fun z21 s22 => oC (m196 (0 : Int) s22) fun z24 s25 => oZ ((3 : Int) * x1) fun z27 => oZ ((10 : Int) + z27) fun z29 => oX z29 37 (oV (sI s25 254 z29 z24) fun s31 => oZ ((3 : Int) * x1) fun z33 => oZ ((10 : Int) + z33) fun z35 => oZ (z35 + (1 : Int)) fun z37 => oX z37 37 (oV (sI s31 254 z37 (0 : Int)) fun s39 => oZ ((3 : Int) * x1) fun z41 => oZ ((10 : Int) + z41) fun z43 => oZ (z43 + (2 : Int)) fun z45 => oX z45 37 (oV (sI s39 254 z45 (0 : Int)) fun s47 => some (z24, s47))))
theorem c242 {G : aHp} {d : Nat} (hG : zG G) {x1 : Int} {s : zS} {r_ : Int} {s_ : zS} (hm : m242 x1 s = some (r_, s_)) : Zp G (d + 3) 242 0 [some (zr 12 0 209), some (zi x1), none] [] s (zRet (some (zi r_)) s_) := by
  replace hm : (oC (m186 x1 s) fun z1 s2 => if z1 = (0 : Int) then oC (m232 (2 : Int) s2) fun z5 s6 => some (z5, s6) else oC (m189 x1 s2) fun z8 s9 => if z8 = (-1 : Int) then oC (m232 (2 : Int) s9) fun z12 s13 => some (z12, s13) else oC (m239 s9) fun z15 s16 => oC (m188 x1 s16) fun z18 s19 => oC (m195 z18 s19) fun z21 s22 => oC (m196 (0 : Int) s22) fun z24 s25 => oZ ((3 : Int) * x1) fun z27 => oZ ((10 : Int) + z27) fun z29 => oX z29 37 (oV (sI s25 254 z29 z24) fun s31 => oZ ((3 : Int) * x1) fun z33 => oZ ((10 : Int) + z33) fun z35 => oZ (z35 + (1 : Int)) fun z37 => oX z37 37 (oV (sI s31 254 z37 (0 : Int)) fun s39 => oZ ((3 : Int) * x1) fun z41 => oZ ((10 : Int) + z41) fun z43 => oZ (z43 + (2 : Int)) fun z45 => oX z45 37 (oV (sI s39 254 z45 (0 : Int)) fun s47 => some (z24, s47))))) = some (r_, s_) := hm
  refine z_aload_n (pc' := 1) hM242 rfl rfl rfl ?_
  refine z_iload_n (pc' := 2) hM242 rfl rfl rfl ?_
  obtain ⟨z1, s2, h3, hm⟩ := o_c hm
  refine z_cv (d := d + 2) (pc' := 5) hM242 rfl hM186 rfl rfl rfl rfl rfl rfl (c186 (d := d) hG h3) rfl ?_
  refine z_ifeq (pc' := 8) (t := 17) hM242 rfl rfl (fun h4 => ?_) (fun h4 => ?_)
  · replace hm := o_t hm h4
    refine z_aload_n (pc' := 18) hM242 rfl rfl rfl ?_
    refine z_iconst (pc' := 19) hM242 rfl rfl rfl ?_
    obtain ⟨z5, s6, h7, hm⟩ := o_c hm
    refine z_cv (d := d + 2) (pc' := 22) hM242 rfl hM232 rfl rfl rfl rfl rfl rfl (c232 (d := d + 1) hG h7) rfl ?_
    cases hm
    exact z_retI hM242 rfl rfl ⟨rfl, rfl⟩
  · replace hm := o_f hm h4
    refine z_aload_n (pc' := 9) hM242 rfl rfl rfl ?_
    refine z_iload_n (pc' := 10) hM242 rfl rfl rfl ?_
    obtain ⟨z8, s9, h10, hm⟩ := o_c hm
    refine z_cv (d := d + 2) (pc' := 13) hM242 rfl hM189 rfl rfl rfl rfl rfl rfl (c189 (d := d + 1) hG h10) rfl ?_
    refine z_iconst (pc' := 14) hM242 rfl rfl rfl ?_
    refine z_cmpne (pc' := 17) (t := 23) hM242 rfl rfl (fun h11 => ?_) (fun h11 => ?_)
    · replace hm := o_t hm h11
      refine z_aload_n (pc' := 18) hM242 rfl rfl rfl ?_
      refine z_iconst (pc' := 19) hM242 rfl rfl rfl ?_
      obtain ⟨z12, s13, h14, hm⟩ := o_c hm
      refine z_cv (d := d + 2) (pc' := 22) hM242 rfl hM232 rfl rfl rfl rfl rfl rfl (c232 (d := d + 1) hG h14) rfl ?_
      cases hm
      exact z_retI hM242 rfl rfl ⟨rfl, rfl⟩
    · replace hm := o_f hm h11
      refine z_aload_n (pc' := 24) hM242 rfl rfl rfl ?_
      obtain ⟨z15, s16, h17, hm⟩ := o_c hm
      refine z_cvV (d := d + 2) (pc' := 27) hM242 rfl hM239 rfl rfl rfl rfl rfl rfl (c239 (d := d + 1) hG h17) rfl ?_
      refine z_aload_n (pc' := 28) hM242 rfl rfl rfl ?_
      refine z_aload_n (pc' := 29) hM242 rfl rfl rfl ?_
      refine z_iload_n (pc' := 30) hM242 rfl rfl rfl ?_
      obtain ⟨z18, s19, h20, hm⟩ := o_c hm
      refine z_cv (d := d + 2) (pc' := 33) hM242 rfl hM188 rfl rfl rfl rfl rfl rfl (c188 (d := d + 1) hG h20) rfl ?_
      obtain ⟨z21, s22, h23, hm⟩ := o_c hm
      refine z_cvV (d := d + 2) (pc' := 36) hM242 rfl hM195 rfl rfl rfl rfl rfl rfl (c195 (d := d + 1) hG h23) rfl ?_
      refine z_aload_n (pc' := 37) hM242 rfl rfl rfl ?_
      refine z_iconst (pc' := 38) hM242 rfl rfl rfl ?_
      obtain ⟨z24, s25, h26, hm⟩ := o_c hm
      refine z_cv (d := d + 2) (pc' := 41) hM242 rfl hM196 rfl rfl rfl rfl rfl rfl (c196 (d := d + 1) hG h26) rfl ?_
      refine z_istore_n (pc' := 42) (l' := [some (zr 12 0 209), some (zi x1), some (zi z24)]) hM242 rfl rfl rfl rfl ?_
      refine z_aload_n (pc' := 43) hM242 rfl rfl rfl ?_
      refine z_fldR (pc' := 46) hM242 rfl (zf_12_56 hG) rfl rfl ?_
      refine z_bipush (pc' := 48) hM242 rfl rfl rfl ?_
      refine z_iconst (pc' := 49) hM242 rfl rfl rfl ?_
      refine z_iload_n (pc' := 50) hM242 rfl rfl rfl ?_
      obtain ⟨z27, ez27, h28, hm⟩ := o_z hm
      refine z_imul (pc' := 51) hM242 rfl rfl ez27 h28 ?_
      obtain ⟨z29, ez29, h30, hm⟩ := o_z hm
      refine z_iadd (pc' := 52) hM242 rfl rfl ez29 h30 ?_
      refine z_iload_n (pc' := 53) hM242 rfl rfl rfl ?_
      obtain ⟨h32, hm⟩ := o_x hm
      obtain ⟨s31, es31, hm⟩ := o_v hm
      refine z_iast (pc' := 54) hM242 rfl rfl h32 es31 ?_
      refine z_aload_n (pc' := 55) hM242 rfl rfl rfl ?_
      refine z_fldR (pc' := 58) hM242 rfl (zf_12_56 hG) rfl rfl ?_
      refine z_bipush (pc' := 60) hM242 rfl rfl rfl ?_
      refine z_iconst (pc' := 61) hM242 rfl rfl rfl ?_
      refine z_iload_n (pc' := 62) hM242 rfl rfl rfl ?_
      obtain ⟨z33, ez33, h34, hm⟩ := o_z hm
      refine z_imul (pc' := 63) hM242 rfl rfl ez33 h34 ?_
      obtain ⟨z35, ez35, h36, hm⟩ := o_z hm
      refine z_iadd (pc' := 64) hM242 rfl rfl ez35 h36 ?_
      refine z_iconst (pc' := 65) hM242 rfl rfl rfl ?_
      obtain ⟨z37, ez37, h38, hm⟩ := o_z hm
      refine z_iadd (pc' := 66) hM242 rfl rfl ez37 h38 ?_
      refine z_iconst (pc' := 67) hM242 rfl rfl rfl ?_
      obtain ⟨h40, hm⟩ := o_x hm
      obtain ⟨s39, es39, hm⟩ := o_v hm
      refine z_iast (pc' := 68) hM242 rfl rfl h40 es39 ?_
      refine z_aload_n (pc' := 69) hM242 rfl rfl rfl ?_
      refine z_fldR (pc' := 72) hM242 rfl (zf_12_56 hG) rfl rfl ?_
      refine z_bipush (pc' := 74) hM242 rfl rfl rfl ?_
      refine z_iconst (pc' := 75) hM242 rfl rfl rfl ?_
      refine z_iload_n (pc' := 76) hM242 rfl rfl rfl ?_
      obtain ⟨z41, ez41, h42, hm⟩ := o_z hm
      refine z_imul (pc' := 77) hM242 rfl rfl ez41 h42 ?_
      obtain ⟨z43, ez43, h44, hm⟩ := o_z hm
      refine z_iadd (pc' := 78) hM242 rfl rfl ez43 h44 ?_
      refine z_iconst (pc' := 79) hM242 rfl rfl rfl ?_
      obtain ⟨z45, ez45, h46, hm⟩ := o_z hm
      refine z_iadd (pc' := 80) hM242 rfl rfl ez45 h46 ?_
      refine z_iconst (pc' := 81) hM242 rfl rfl rfl ?_
      obtain ⟨h48, hm⟩ := o_x hm
      obtain ⟨s47, es47, hm⟩ := o_v hm
      refine z_iast (pc' := 82) hM242 rfl rfl h48 es47 ?_
      refine z_iload_n (pc' := 83) hM242 rfl rfl rfl ?_
      cases hm
      exact z_retI hM242 rfl rfl ⟨rfl, rfl⟩
def m243_22  (s : zS) : Option (Int × zS) := oX (2 : Int) 6 (oV (s.1 211 (2 : Int)) fun z1 => oZ (z1 + (1 : Int)) fun z3 => oX (2 : Int) 6 (oV (sI s 211 (2 : Int) z3) fun s5 => some ((0 : Int), s5)))
theorem c243_22 {G : aHp} {d : Nat} (hG : zG G) {d1 : Option zV} {s : zS} {r_ : Int} {s_ : zS} (hm : m243_22  s = some (r_, s_)) : Zp G (d + 2) 243 22 [some (zr 12 0 209), d1] [] s (zRet (some (zi r_)) s_) := by
  replace hm : (oX (2 : Int) 6 (oV (s.1 211 (2 : Int)) fun z1 => oZ (z1 + (1 : Int)) fun z3 => oX (2 : Int) 6 (oV (sI s 211 (2 : Int) z3) fun s5 => some ((0 : Int), s5)))) = some (r_, s_) := hm
  refine z_aload_n (pc' := 23) hM243 rfl rfl rfl ?_
  refine z_fldR (pc' := 26) hM243 rfl (zf_12_9 hG) rfl rfl ?_
  refine z_iconst (pc' := 27) hM243 rfl rfl rfl ?_
  refine z_dup2A (pc' := 28) hM243 rfl rfl ?_
  obtain ⟨h2, hm⟩ := o_x hm
  obtain ⟨z1, ez1, hm⟩ := o_v hm
  refine z_iald (pc' := 29) (zGN hG) hM243 rfl rfl h2 ez1 ?_
  refine z_iconst (pc' := 30) hM243 rfl rfl rfl ?_
  obtain ⟨z3, ez3, h4, hm⟩ := o_z hm
  refine z_iadd (pc' := 31) hM243 rfl rfl ez3 h4 ?_
  obtain ⟨h6, hm⟩ := o_x hm
  obtain ⟨s5, es5, hm⟩ := o_v hm
  refine z_iast (pc' := 32) hM243 rfl rfl h6 es5 ?_
  refine z_iconst (pc' := 33) hM243 rfl rfl rfl ?_
  cases hm
  exact z_retZ hM243 rfl rfl (Or.inl rfl) ⟨rfl, rfl⟩
def m243 (x1 : Int) (s : zS) : Option (Int × zS) := oC (m150 x1 (0 : Int) (2 : Int) s) fun z1 s2 => if z1 = (0 : Int) then m243_22 s2 else oX (1 : Int) 37 (oV (s2.1 254 (1 : Int)) fun z5 => if z5 = x1 then m243_22 s2 else oC (m239 s2) fun z8 s9 => oX (1 : Int) 37 (oV (sI s9 254 (1 : Int) x1) fun s11 => some ((1 : Int), s11)))
theorem c243 {G : aHp} {d : Nat} (hG : zG G) {x1 : Int} {s : zS} {r_ : Int} {s_ : zS} (hm : m243 x1 s = some (r_, s_)) : Zp G (d + 2) 243 0 [some (zr 12 0 209), some (zi x1)] [] s (zRet (some (zi r_)) s_) := by
  replace hm : (oC (m150 x1 (0 : Int) (2 : Int) s) fun z1 s2 => if z1 = (0 : Int) then m243_22 s2 else oX (1 : Int) 37 (oV (s2.1 254 (1 : Int)) fun z5 => if z5 = x1 then m243_22 s2 else oC (m239 s2) fun z8 s9 => oX (1 : Int) 37 (oV (sI s9 254 (1 : Int) x1) fun s11 => some ((1 : Int), s11)))) = some (r_, s_) := hm
  refine z_iload_n (pc' := 1) hM243 rfl rfl rfl ?_
  refine z_i2l (pc' := 2) hM243 rfl rfl ?_
  refine z_lconst (pc' := 3) (x := (0 : Int)) hM243 rfl rfl rfl rfl ?_
  refine z_ldc2 (pc' := 6) hM243 rfl rfl rfl ?_
  obtain ⟨z1, s2, h3, hm⟩ := o_c hm
  refine z_cs (d := d + 1) (pc' := 9) hM243 rfl hM150 rfl rfl rfl rfl (c150 (d := d) hG h3) rfl ?_
  refine z_ifeq (pc' := 12) (t := 22) hM243 rfl rfl (fun h4 => ?_) (fun h4 => ?_)
  · replace hm := o_t hm h4
    exact c243_22 hG hm
  · replace hm := o_f hm h4
    refine z_aload_n (pc' := 13) hM243 rfl rfl rfl ?_
    refine z_fldR (pc' := 16) hM243 rfl (zf_12_56 hG) rfl rfl ?_
    refine z_iconst (pc' := 17) hM243 rfl rfl rfl ?_
    obtain ⟨h6, hm⟩ := o_x hm
    obtain ⟨z5, ez5, hm⟩ := o_v hm
    refine z_iald (pc' := 18) (zGN hG) hM243 rfl rfl h6 ez5 ?_
    refine z_iload_n (pc' := 19) hM243 rfl rfl rfl ?_
    refine z_cmpne (pc' := 22) (t := 34) hM243 rfl rfl (fun h7 => ?_) (fun h7 => ?_)
    · replace hm := o_t hm h7
      exact c243_22 hG hm
    · replace hm := o_f hm h7
      refine z_aload_n (pc' := 35) hM243 rfl rfl rfl ?_
      obtain ⟨z8, s9, h10, hm⟩ := o_c hm
      refine z_cvV (d := d + 1) (pc' := 38) hM243 rfl hM239 rfl rfl rfl rfl rfl rfl (c239 (d := d) hG h10) rfl ?_
      refine z_aload_n (pc' := 39) hM243 rfl rfl rfl ?_
      refine z_fldR (pc' := 42) hM243 rfl (zf_12_56 hG) rfl rfl ?_
      refine z_iconst (pc' := 43) hM243 rfl rfl rfl ?_
      refine z_iload_n (pc' := 44) hM243 rfl rfl rfl ?_
      obtain ⟨h12, hm⟩ := o_x hm
      obtain ⟨s11, es11, hm⟩ := o_v hm
      refine z_iast (pc' := 45) hM243 rfl rfl h12 es11 ?_
      refine z_iconst (pc' := 46) hM243 rfl rfl rfl ?_
      cases hm
      exact z_retZ hM243 rfl rfl (Or.inr rfl) ⟨rfl, rfl⟩
def m244 (x1 : Int) (s : zS) : Option (Int × zS) := oC (m205 x1 (1 : Int) (100 : Int) s) fun z1 s2 => if z1 = (0 : Int) then oC (m232 (3 : Int) s2) fun z5 s6 => some (z5, s6) else oC (m239 s2) fun z8 s9 => oC (m202 x1 s9) fun z11 s12 => some (z11, s12)
theorem c244 {G : aHp} {d : Nat} (hG : zG G) {x1 : Int} {s : zS} {r_ : Int} {s_ : zS} (hm : m244 x1 s = some (r_, s_)) : Zp G (d + 9) 244 0 [some (zr 12 0 209), some (zi x1)] [] s (zRet (some (zi r_)) s_) := by
  replace hm : (oC (m205 x1 (1 : Int) (100 : Int) s) fun z1 s2 => if z1 = (0 : Int) then oC (m232 (3 : Int) s2) fun z5 s6 => some (z5, s6) else oC (m239 s2) fun z8 s9 => oC (m202 x1 s9) fun z11 s12 => some (z11, s12)) = some (r_, s_) := hm
  refine z_aload_n (pc' := 1) hM244 rfl rfl rfl ?_
  refine z_iload_n (pc' := 2) hM244 rfl rfl rfl ?_
  refine z_iconst (pc' := 3) hM244 rfl rfl rfl ?_
  refine z_bipush (pc' := 5) hM244 rfl rfl rfl ?_
  obtain ⟨z1, s2, h3, hm⟩ := o_c hm
  refine z_cv (d := d + 8) (pc' := 8) hM244 rfl hM205 rfl rfl rfl rfl rfl rfl (c205 (d := d + 6) hG h3) rfl ?_
  refine z_ifne (pc' := 11) (t := 17) hM244 rfl rfl (fun h4 => ?_) (fun h4 => ?_)
  · replace hm := o_t hm h4
    refine z_aload_n (pc' := 12) hM244 rfl rfl rfl ?_
    refine z_iconst (pc' := 13) hM244 rfl rfl rfl ?_
    obtain ⟨z5, s6, h7, hm⟩ := o_c hm
    refine z_cv (d := d + 8) (pc' := 16) hM244 rfl hM232 rfl rfl rfl rfl rfl rfl (c232 (d := d + 7) hG h7) rfl ?_
    cases hm
    exact z_retI hM244 rfl rfl ⟨rfl, rfl⟩
  · replace hm := o_f hm h4
    refine z_aload_n (pc' := 18) hM244 rfl rfl rfl ?_
    obtain ⟨z8, s9, h10, hm⟩ := o_c hm
    refine z_cvV (d := d + 8) (pc' := 21) hM244 rfl hM239 rfl rfl rfl rfl rfl rfl (c239 (d := d + 7) hG h10) rfl ?_
    refine z_aload_n (pc' := 22) hM244 rfl rfl rfl ?_
    refine z_iload_n (pc' := 23) hM244 rfl rfl rfl ?_
    obtain ⟨z11, s12, h13, hm⟩ := o_c hm
    refine z_cv (d := d + 8) (pc' := 26) hM244 rfl hM202 rfl rfl rfl rfl rfl rfl (c202 (d := d) hG h13) rfl ?_
    cases hm
    exact z_retI hM244 rfl rfl ⟨rfl, rfl⟩
def m245 (x1 : Int) (s : zS) : Option (Int × zS) := if x1 < (0 : Int) then oX (5 : Int) 6 (oV (s.1 211 (5 : Int)) fun z2 => oZ (z2 + (1 : Int)) fun z4 => oX (5 : Int) 6 (oV (sI s 211 (5 : Int) z4) fun s6 => some ((0 : Int), s6))) else oV (sJ s 209 76 x1) fun s8 => some ((1 : Int), s8)
theorem c245 {G : aHp} {d : Nat} (hG : zG G) {x1 : Int} {s : zS} {r_ : Int} {s_ : zS} (hm : m245 x1 s = some (r_, s_)) : Zp G (d + 1) 245 0 [some (zr 12 0 209), some (zi x1)] [] s (zRet (some (zi r_)) s_) := by
  replace hm : (if x1 < (0 : Int) then oX (5 : Int) 6 (oV (s.1 211 (5 : Int)) fun z2 => oZ (z2 + (1 : Int)) fun z4 => oX (5 : Int) 6 (oV (sI s 211 (5 : Int) z4) fun s6 => some ((0 : Int), s6))) else oV (sJ s 209 76 x1) fun s8 => some ((1 : Int), s8)) = some (r_, s_) := hm
  refine z_iload_n (pc' := 1) hM245 rfl rfl rfl ?_
  refine z_ifge (pc' := 4) (t := 16) hM245 rfl rfl (fun h1 => ?_) (fun h1 => ?_)
  · replace hm := o_t hm h1
    refine z_aload_n (pc' := 5) hM245 rfl rfl rfl ?_
    refine z_fldR (pc' := 8) hM245 rfl (zf_12_9 hG) rfl rfl ?_
    refine z_iconst (pc' := 9) hM245 rfl rfl rfl ?_
    refine z_dup2A (pc' := 10) hM245 rfl rfl ?_
    obtain ⟨h3, hm⟩ := o_x hm
    obtain ⟨z2, ez2, hm⟩ := o_v hm
    refine z_iald (pc' := 11) (zGN hG) hM245 rfl rfl h3 ez2 ?_
    refine z_iconst (pc' := 12) hM245 rfl rfl rfl ?_
    obtain ⟨z4, ez4, h5, hm⟩ := o_z hm
    refine z_iadd (pc' := 13) hM245 rfl rfl ez4 h5 ?_
    obtain ⟨h7, hm⟩ := o_x hm
    obtain ⟨s6, es6, hm⟩ := o_v hm
    refine z_iast (pc' := 14) hM245 rfl rfl h7 es6 ?_
    refine z_iconst (pc' := 15) hM245 rfl rfl rfl ?_
    cases hm
    exact z_retZ hM245 rfl rfl (Or.inl rfl) ⟨rfl, rfl⟩
  · replace hm := o_f hm h1
    refine z_aload_n (pc' := 17) hM245 rfl rfl rfl ?_
    refine z_iload_n (pc' := 18) hM245 rfl rfl rfl ?_
    refine z_i2l (pc' := 19) hM245 rfl rfl ?_
    obtain ⟨s8, es8, hm⟩ := o_v hm
    refine z_putJ (pc' := 22) hM245 rfl rfl rfl es8 ?_
    refine z_iconst (pc' := 23) hM245 rfl rfl rfl ?_
    cases hm
    exact z_retZ hM245 rfl rfl (Or.inr rfl) ⟨rfl, rfl⟩
def m246 (x1 : Int) (s : zS) : Option (Int × zS) := oV (s.2.1 209 76) fun z1 => oJ ((1103515245 : Int) * z1) fun z2 => oJ (z2 + (12345 : Int)) fun z4 => oN (2147483648 : Int) (oV (Int.tmod z4 (2147483648 : Int)) fun z6 => oV (sJ s 209 76 z6) fun s7 => oV (s7.2.1 209 76) fun z8 => oN (64 : Int) (oJ (Int.tdiv z8 (64 : Int)) fun z9 => oN x1 (oV (Int.tmod z9 x1) fun z11 => oZ z11 fun z12 => some (z12, s7))))
theorem c246 {G : aHp} {d : Nat} (hG : zG G) {x1 : Int} {s : zS} {r_ : Int} {s_ : zS} (hm : m246 x1 s = some (r_, s_)) : Zp G (d + 1) 246 0 [some (zr 12 0 209), some (zi x1)] [] s (zRet (some (zi r_)) s_) := by
  replace hm : (oV (s.2.1 209 76) fun z1 => oJ ((1103515245 : Int) * z1) fun z2 => oJ (z2 + (12345 : Int)) fun z4 => oN (2147483648 : Int) (oV (Int.tmod z4 (2147483648 : Int)) fun z6 => oV (sJ s 209 76 z6) fun s7 => oV (s7.2.1 209 76) fun z8 => oN (64 : Int) (oJ (Int.tdiv z8 (64 : Int)) fun z9 => oN x1 (oV (Int.tmod z9 x1) fun z11 => oZ z11 fun z12 => some (z12, s7))))) = some (r_, s_) := hm
  refine z_aload_n (pc' := 1) hM246 rfl rfl rfl ?_
  refine z_ldc2 (pc' := 4) hM246 rfl rfl rfl ?_
  refine z_aload_n (pc' := 5) hM246 rfl rfl rfl ?_
  obtain ⟨z1, ez1, hm⟩ := o_v hm
  refine z_fldJ (pc' := 8) hM246 rfl rfl rfl ez1 ?_
  obtain ⟨z2, ez2, h3, hm⟩ := o_j hm
  refine z_lmul (pc' := 9) hM246 rfl rfl ez2 h3 ?_
  refine z_ldc2 (pc' := 12) hM246 rfl rfl rfl ?_
  obtain ⟨z4, ez4, h5, hm⟩ := o_j hm
  refine z_ladd (pc' := 13) hM246 rfl rfl ez4 h5 ?_
  refine z_ldc2 (pc' := 16) hM246 rfl rfl rfl ?_
  obtain ⟨nz6, hm⟩ := o_n hm
  obtain ⟨z6, ez6, hm⟩ := o_v hm
  refine z_lrem (pc' := 17) hM246 rfl rfl nz6 ez6 ?_
  obtain ⟨s7, es7, hm⟩ := o_v hm
  refine z_putJ (pc' := 20) hM246 rfl rfl rfl es7 ?_
  refine z_aload_n (pc' := 21) hM246 rfl rfl rfl ?_
  obtain ⟨z8, ez8, hm⟩ := o_v hm
  refine z_fldJ (pc' := 24) hM246 rfl rfl rfl ez8 ?_
  refine z_ldc2 (pc' := 27) hM246 rfl rfl rfl ?_
  obtain ⟨nz9, hm⟩ := o_n hm
  obtain ⟨z9, ez9, h10, hm⟩ := o_j hm
  refine z_ldiv (pc' := 28) hM246 rfl rfl nz9 ez9 h10 ?_
  refine z_iload_n (pc' := 29) hM246 rfl rfl rfl ?_
  refine z_i2l (pc' := 30) hM246 rfl rfl ?_
  obtain ⟨nz11, hm⟩ := o_n hm
  obtain ⟨z11, ez11, hm⟩ := o_v hm
  refine z_lrem (pc' := 31) hM246 rfl rfl nz11 ez11 ?_
  obtain ⟨z12, ez12, h13, hm⟩ := o_z hm
  refine z_l2i (pc' := 32) hM246 rfl rfl ez12 h13 ?_
  cases hm
  exact z_retI hM246 rfl rfl ⟨rfl, rfl⟩
def m247_36 (k25_ : Int → Int → Int → zS → Option (Int × zS)) : Nat → Int → Int → Int → Int → Int → zS → Option (Int × zS)
  | 0, _, _, _, _, _, _ => none
  | n + 1, x1, x2, x3, x4, x5, s => oC (m183 s) fun z1 s2 => if x5 < z1 then oC (m189 x5 s2) fun z5 s6 => if z5 = (-1 : Int) then oZ (x5 + (1 : Int)) fun z9 => m247_36 k25_ n x1 x2 x3 x4 z9 s6 else oC (m246 (100 : Int) s6) fun z11 s12 => oX (5 : Int) 6 (oV (s12.1 248 (5 : Int)) fun z14 => if z11 < z14 then oV (zShl (1 : Int) x5) fun z17 => oV (zOr x4 z17) fun z18 => oZ (x2 + (1 : Int)) fun z19 => oZ (x5 + (1 : Int)) fun z21 => m247_36 k25_ n x1 z19 x3 z18 z21 s12 else oZ (x5 + (1 : Int)) fun z23 => m247_36 k25_ n x1 x2 x3 x4 z23 s12) else oC (m201 x4 s2) fun z25 s26 => oZ (x3 + (1 : Int)) fun z28 => k25_ x1 x2 z28 s26
theorem c247_36 {G : aHp} {d : Nat} {k25_ : Int → Int → Int → zS → Option (Int × zS)} (hG : zG G) (hk25 : ∀ {x1 : Int} {x2 : Int} {x3 : Int} {d4 d5 : Option zV} {s : zS} {r_ : Int} {s_ : zS}, k25_ x1 x2 x3 s = some (r_, s_) → Zp G (d + 8) 247 25 [some (zr 12 0 209), some (zi x1), some (zi x2), some (zi x3), d4, d5] [] s (zRet (some (zi r_)) s_)) : ∀ {n : Nat} {x1 : Int} {x2 : Int} {x3 : Int} {x4 : Int} {x5 : Int} {s : zS} {r_ : Int} {s_ : zS}, m247_36 k25_ n x1 x2 x3 x4 x5 s = some (r_, s_) → Zp G (d + 8) 247 36 [some (zr 12 0 209), some (zi x1), some (zi x2), some (zi x3), some (zi x4), some (zi x5)] [] s (zRet (some (zi r_)) s_) := by
  intro n
  induction n with
  | zero => intro x1 x2 x3 x4 x5 s r_ s_ hm; cases hm
  | succ n ih =>
  intro x1 x2 x3 x4 x5 s r_ s_ hm
  replace hm : (oC (m183 s) fun z1 s2 => if x5 < z1 then oC (m189 x5 s2) fun z5 s6 => if z5 = (-1 : Int) then oZ (x5 + (1 : Int)) fun z9 => m247_36 k25_ n x1 x2 x3 x4 z9 s6 else oC (m246 (100 : Int) s6) fun z11 s12 => oX (5 : Int) 6 (oV (s12.1 248 (5 : Int)) fun z14 => if z11 < z14 then oV (zShl (1 : Int) x5) fun z17 => oV (zOr x4 z17) fun z18 => oZ (x2 + (1 : Int)) fun z19 => oZ (x5 + (1 : Int)) fun z21 => m247_36 k25_ n x1 z19 x3 z18 z21 s12 else oZ (x5 + (1 : Int)) fun z23 => m247_36 k25_ n x1 x2 x3 x4 z23 s12) else oC (m201 x4 s2) fun z25 s26 => oZ (x3 + (1 : Int)) fun z28 => k25_ x1 x2 z28 s26) = some (r_, s_) := hm
  refine z_iload (pc' := 38) hM247 rfl rfl rfl ?_
  refine z_aload_n (pc' := 39) hM247 rfl rfl rfl ?_
  obtain ⟨z1, s2, h3, hm⟩ := o_c hm
  refine z_cv (d := d + 7) (pc' := 42) hM247 rfl hM183 rfl rfl rfl rfl rfl rfl (c183 (d := d + 6) hG h3) rfl ?_
  refine z_cmpge (pc' := 45) (t := 91) hM247 rfl rfl (fun h4 => ?_) (fun h4 => ?_)
  · replace hm := o_t hm h4
    refine z_aload_n (pc' := 46) hM247 rfl rfl rfl ?_
    refine z_iload (pc' := 48) hM247 rfl rfl rfl ?_
    obtain ⟨z5, s6, h7, hm⟩ := o_c hm
    refine z_cv (d := d + 7) (pc' := 51) hM247 rfl hM189 rfl rfl rfl rfl rfl rfl (c189 (d := d + 6) hG h7) rfl ?_
    refine z_iconst (pc' := 52) hM247 rfl rfl rfl ?_
    refine z_cmpeq (pc' := 55) (t := 85) hM247 rfl rfl (fun h8 => ?_) (fun h8 => ?_)
    · replace hm := o_t hm h8
      obtain ⟨z9, ez9, h10, hm⟩ := o_z hm
      refine z_iinc (pc' := 88) (l' := [some (zr 12 0 209), some (zi x1), some (zi x2), some (zi x3), some (zi x4), some (zi z9)]) hM247 rfl rfl rfl ez9 h10 rfl rfl ?_
      refine z_goto (t := 36) hM247 rfl ?_
      exact ih hm
    · replace hm := o_f hm h8
      refine z_aload_n (pc' := 56) hM247 rfl rfl rfl ?_
      refine z_bipush (pc' := 58) hM247 rfl rfl rfl ?_
      obtain ⟨z11, s12, h13, hm⟩ := o_c hm
      refine z_cv (d := d + 7) (pc' := 61) hM247 rfl hM246 rfl rfl rfl rfl rfl rfl (c246 (d := d + 6) hG h13) rfl ?_
      refine z_aload_n (pc' := 62) hM247 rfl rfl rfl ?_
      refine z_fldR (pc' := 65) hM247 rfl (zf_12_47 hG) rfl rfl ?_
      refine z_iconst (pc' := 66) hM247 rfl rfl rfl ?_
      obtain ⟨h15, hm⟩ := o_x hm
      obtain ⟨z14, ez14, hm⟩ := o_v hm
      refine z_iald (pc' := 67) (zGN hG) hM247 rfl rfl h15 ez14 ?_
      refine z_cmplt (pc' := 70) (t := 73) hM247 rfl rfl (fun h16 => ?_) (fun h16 => ?_)
      · replace hm := o_t hm h16
        refine z_iload (pc' := 75) hM247 rfl rfl rfl ?_
        refine z_iconst (pc' := 76) hM247 rfl rfl rfl ?_
        refine z_iload (pc' := 78) hM247 rfl rfl rfl ?_
        obtain ⟨z17, ez17, hm⟩ := o_v hm
        refine z_ishl (pc' := 79) hM247 rfl rfl ez17 ?_
        obtain ⟨z18, ez18, hm⟩ := o_v hm
        refine z_ior (pc' := 80) hM247 rfl rfl ez18 ?_
        refine z_istore (pc' := 82) (l' := [some (zr 12 0 209), some (zi x1), some (zi x2), some (zi x3), some (zi z18), some (zi x5)]) hM247 rfl rfl rfl rfl ?_
        obtain ⟨z19, ez19, h20, hm⟩ := o_z hm
        refine z_iinc (pc' := 85) (l' := [some (zr 12 0 209), some (zi x1), some (zi z19), some (zi x3), some (zi z18), some (zi x5)]) hM247 rfl rfl rfl ez19 h20 rfl rfl ?_
        obtain ⟨z21, ez21, h22, hm⟩ := o_z hm
        refine z_iinc (pc' := 88) (l' := [some (zr 12 0 209), some (zi x1), some (zi z19), some (zi x3), some (zi z18), some (zi z21)]) hM247 rfl rfl rfl ez21 h22 rfl rfl ?_
        refine z_goto (t := 36) hM247 rfl ?_
        exact ih hm
      · replace hm := o_f hm h16
        refine z_goto (t := 85) hM247 rfl ?_
        obtain ⟨z23, ez23, h24, hm⟩ := o_z hm
        refine z_iinc (pc' := 88) (l' := [some (zr 12 0 209), some (zi x1), some (zi x2), some (zi x3), some (zi x4), some (zi z23)]) hM247 rfl rfl rfl ez23 h24 rfl rfl ?_
        refine z_goto (t := 36) hM247 rfl ?_
        exact ih hm
  · replace hm := o_f hm h4
    refine z_aload_n (pc' := 92) hM247 rfl rfl rfl ?_
    refine z_iload (pc' := 94) hM247 rfl rfl rfl ?_
    obtain ⟨z25, s26, h27, hm⟩ := o_c hm
    refine z_cvV (d := d + 7) (pc' := 97) hM247 rfl hM201 rfl rfl rfl rfl rfl rfl (c201 (d := d) hG h27) rfl ?_
    obtain ⟨z28, ez28, h29, hm⟩ := o_z hm
    refine z_iinc (pc' := 100) (l' := [some (zr 12 0 209), some (zi x1), some (zi x2), some (zi z28), some (zi x4), some (zi x5)]) hM247 rfl rfl rfl ez28 h29 rfl rfl ?_
    refine z_goto (t := 25) hM247 rfl ?_
    exact hk25 hm
def m247_25 : Nat → Int → Int → Int → zS → Option (Int × zS)
  | 0, _, _, _, _ => none
  | n + 1, x1, x2, x3, s => if x3 < x1 then m247_36 (m247_25 n) zFu x1 x2 x3 (0 : Int) (0 : Int) s else some (x2, s)
theorem c247_25 {G : aHp} {d : Nat} (hG : zG G) : ∀ {n : Nat} {x1 : Int} {x2 : Int} {x3 : Int} {d4 d5 : Option zV} {s : zS} {r_ : Int} {s_ : zS}, m247_25 n x1 x2 x3 s = some (r_, s_) → Zp G (d + 8) 247 25 [some (zr 12 0 209), some (zi x1), some (zi x2), some (zi x3), d4, d5] [] s (zRet (some (zi r_)) s_) := by
  intro n
  induction n with
  | zero => intro x1 x2 x3 d4 d5 s r_ s_ hm; cases hm
  | succ n ih =>
  intro x1 x2 x3 d4 d5 s r_ s_ hm
  replace hm : (if x3 < x1 then m247_36 (m247_25 n) zFu x1 x2 x3 (0 : Int) (0 : Int) s else some (x2, s)) = some (r_, s_) := hm
  refine z_iload_n (pc' := 26) hM247 rfl rfl rfl ?_
  refine z_iload_n (pc' := 27) hM247 rfl rfl rfl ?_
  refine z_cmpge (pc' := 30) (t := 103) hM247 rfl rfl (fun h1 => ?_) (fun h1 => ?_)
  · replace hm := o_t hm h1
    refine z_iconst (pc' := 31) hM247 rfl rfl rfl ?_
    refine z_istore (pc' := 33) (l' := [some (zr 12 0 209), some (zi x1), some (zi x2), some (zi x3), some (zi (0 : Int)), d5]) hM247 rfl rfl rfl rfl ?_
    refine z_iconst (pc' := 34) hM247 rfl rfl rfl ?_
    refine z_istore (pc' := 36) (l' := [some (zr 12 0 209), some (zi x1), some (zi x2), some (zi x3), some (zi (0 : Int)), some (zi (0 : Int))]) hM247 rfl rfl rfl rfl ?_
    exact c247_36 hG ih hm
  · replace hm := o_f hm h1
    refine z_iload_n (pc' := 104) hM247 rfl rfl rfl ?_
    cases hm
    exact z_retI hM247 rfl rfl ⟨rfl, rfl⟩
def m247 (x1 : Int) (s : zS) : Option (Int × zS) := oC (m205 x1 (1 : Int) (100 : Int) s) fun z1 s2 => if z1 = (0 : Int) then oC (m232 (3 : Int) s2) fun z5 s6 => some (z5, s6) else oC (m239 s2) fun z8 s9 => m247_25 zFu x1 (0 : Int) (0 : Int) s9
theorem c247 {G : aHp} {d : Nat} (hG : zG G) {x1 : Int} {s : zS} {r_ : Int} {s_ : zS} (hm : m247 x1 s = some (r_, s_)) : Zp G (d + 8) 247 0 [some (zr 12 0 209), some (zi x1), none, none, none, none] [] s (zRet (some (zi r_)) s_) := by
  replace hm : (oC (m205 x1 (1 : Int) (100 : Int) s) fun z1 s2 => if z1 = (0 : Int) then oC (m232 (3 : Int) s2) fun z5 s6 => some (z5, s6) else oC (m239 s2) fun z8 s9 => m247_25 zFu x1 (0 : Int) (0 : Int) s9) = some (r_, s_) := hm
  refine z_aload_n (pc' := 1) hM247 rfl rfl rfl ?_
  refine z_iload_n (pc' := 2) hM247 rfl rfl rfl ?_
  refine z_iconst (pc' := 3) hM247 rfl rfl rfl ?_
  refine z_bipush (pc' := 5) hM247 rfl rfl rfl ?_
  obtain ⟨z1, s2, h3, hm⟩ := o_c hm
  refine z_cv (d := d + 7) (pc' := 8) hM247 rfl hM205 rfl rfl rfl rfl rfl rfl (c205 (d := d + 5) hG h3) rfl ?_
  refine z_ifne (pc' := 11) (t := 17) hM247 rfl rfl (fun h4 => ?_) (fun h4 => ?_)
  · replace hm := o_t hm h4
    refine z_aload_n (pc' := 12) hM247 rfl rfl rfl ?_
    refine z_iconst (pc' := 13) hM247 rfl rfl rfl ?_
    obtain ⟨z5, s6, h7, hm⟩ := o_c hm
    refine z_cv (d := d + 7) (pc' := 16) hM247 rfl hM232 rfl rfl rfl rfl rfl rfl (c232 (d := d + 6) hG h7) rfl ?_
    cases hm
    exact z_retI hM247 rfl rfl ⟨rfl, rfl⟩
  · replace hm := o_f hm h4
    refine z_aload_n (pc' := 18) hM247 rfl rfl rfl ?_
    obtain ⟨z8, s9, h10, hm⟩ := o_c hm
    refine z_cvV (d := d + 7) (pc' := 21) hM247 rfl hM239 rfl rfl rfl rfl rfl rfl (c239 (d := d + 6) hG h10) rfl ?_
    refine z_iconst (pc' := 22) hM247 rfl rfl rfl ?_
    refine z_istore_n (pc' := 23) (l' := [some (zr 12 0 209), some (zi x1), some (zi (0 : Int)), none, none, none]) hM247 rfl rfl rfl rfl ?_
    refine z_iconst (pc' := 24) hM247 rfl rfl rfl ?_
    refine z_istore_n (pc' := 25) (l' := [some (zr 12 0 209), some (zi x1), some (zi (0 : Int)), some (zi (0 : Int)), none, none]) hM247 rfl rfl rfl rfl ?_
    exact c247_25 hG hm
def m262_63 (x1 : Int) (s : zS) : Option (Int × zS) := oV (s.1 209 2) fun z1 => oZ (z1 + (1 : Int)) fun z2 => oV (sI s 209 2 z2) fun s4 => oC (m261 s4) fun z5 s6 => if x1 = (60 : Int) then oC (m248 (7 : Int) s6) fun z9 s10 => some (0, s10) else if x1 = (62 : Int) then oC (m248 (8 : Int) s6) fun z13 s14 => some (0, s14) else oC (m248 (9 : Int) s6) fun z16 s17 => some (0, s17)
theorem c262_63 {G : aHp} {d : Nat} (hG : zG G) {x1 : Int} {s : zS} {r_ : Int} {s_ : zS} (hm : m262_63 x1 s = some (r_, s_)) : Zp G (d + 8) 262 63 [some (zr 12 0 209), some (zi x1)] [] s (zRet none s_) := by
  replace hm : (oV (s.1 209 2) fun z1 => oZ (z1 + (1 : Int)) fun z2 => oV (sI s 209 2 z2) fun s4 => oC (m261 s4) fun z5 s6 => if x1 = (60 : Int) then oC (m248 (7 : Int) s6) fun z9 s10 => some (0, s10) else if x1 = (62 : Int) then oC (m248 (8 : Int) s6) fun z13 s14 => some (0, s14) else oC (m248 (9 : Int) s6) fun z16 s17 => some (0, s17)) = some (r_, s_) := hm
  refine z_aload_n (pc' := 64) hM262 rfl rfl rfl ?_
  refine z_dupA (pc' := 65) hM262 rfl rfl ?_
  obtain ⟨z1, ez1, hm⟩ := o_v hm
  refine z_fldI (pc' := 68) hM262 rfl rfl rfl ez1 ?_
  refine z_iconst (pc' := 69) hM262 rfl rfl rfl ?_
  obtain ⟨z2, ez2, h3, hm⟩ := o_z hm
  refine z_iadd (pc' := 70) hM262 rfl rfl ez2 h3 ?_
  obtain ⟨s4, es4, hm⟩ := o_v hm
  refine z_putI (pc' := 73) hM262 rfl rfl rfl es4 ?_
  refine z_aload_n (pc' := 74) hM262 rfl rfl rfl ?_
  obtain ⟨z5, s6, h7, hm⟩ := o_c hm
  refine z_cvV (d := d + 7) (pc' := 77) hM262 rfl hM261 rfl rfl rfl rfl rfl rfl (c261 (d := d) hG h7) rfl ?_
  refine z_aload_n (pc' := 78) hM262 rfl rfl rfl ?_
  refine z_iload_n (pc' := 79) hM262 rfl rfl rfl ?_
  refine z_bipush (pc' := 81) hM262 rfl rfl rfl ?_
  refine z_cmpne (pc' := 84) (t := 89) hM262 rfl rfl (fun h8 => ?_) (fun h8 => ?_)
  · replace hm := o_t hm h8
    refine z_bipush (pc' := 86) hM262 rfl rfl rfl ?_
    refine z_goto (t := 102) hM262 rfl ?_
    obtain ⟨z9, s10, h11, hm⟩ := o_c hm
    refine z_cvV (d := d + 7) (pc' := 105) hM262 rfl hM248 rfl rfl rfl rfl rfl rfl (c248 (d := d + 6) hG h11) rfl ?_
    cases hm
    exact z_retV hM262 rfl rfl ⟨rfl, rfl⟩
  · replace hm := o_f hm h8
    refine z_iload_n (pc' := 90) hM262 rfl rfl rfl ?_
    refine z_bipush (pc' := 92) hM262 rfl rfl rfl ?_
    refine z_cmpne (pc' := 95) (t := 100) hM262 rfl rfl (fun h12 => ?_) (fun h12 => ?_)
    · replace hm := o_t hm h12
      refine z_bipush (pc' := 97) hM262 rfl rfl rfl ?_
      refine z_goto (t := 102) hM262 rfl ?_
      obtain ⟨z13, s14, h15, hm⟩ := o_c hm
      refine z_cvV (d := d + 7) (pc' := 105) hM262 rfl hM248 rfl rfl rfl rfl rfl rfl (c248 (d := d + 6) hG h15) rfl ?_
      cases hm
      exact z_retV hM262 rfl rfl ⟨rfl, rfl⟩
    · replace hm := o_f hm h12
      refine z_bipush (pc' := 102) hM262 rfl rfl rfl ?_
      obtain ⟨z16, s17, h18, hm⟩ := o_c hm
      refine z_cvV (d := d + 7) (pc' := 105) hM262 rfl hM248 rfl rfl rfl rfl rfl rfl (c248 (d := d + 6) hG h18) rfl ?_
      cases hm
      exact z_retV hM262 rfl rfl ⟨rfl, rfl⟩
def m262  (s : zS) : Option (Int × zS) := oC (m158 3 272 s) fun z1 s2 => if z1 = (0 : Int) then oC (m261 s2) fun z5 s6 => oV (s6.1 209 5) fun z8 => if z8 = (0 : Int) then oC (m156 s6) fun z10 s11 => if z10 = (60 : Int) then m262_63 z10 s11 else if z10 = (62 : Int) then m262_63 z10 s11 else if z10 = (61 : Int) then m262_63 z10 s11 else oV (s11.1 209 2) fun z16 => oC (m153 (1 : Int) z16 s11) fun z17 s18 => some (0, s18) else some (0, s6) else oC (m248 (13 : Int) s2) fun z20 s21 => some (0, s21)
theorem c262 {G : aHp} {d : Nat} (hG : zG G) {s : zS} {r_ : Int} {s_ : zS} (hm : m262  s = some (r_, s_)) : Zp G (d + 8) 262 0 [some (zr 12 0 209), none] [] s (zRet none s_) := by
  replace hm : (oC (m158 3 272 s) fun z1 s2 => if z1 = (0 : Int) then oC (m261 s2) fun z5 s6 => oV (s6.1 209 5) fun z8 => if z8 = (0 : Int) then oC (m156 s6) fun z10 s11 => if z10 = (60 : Int) then m262_63 z10 s11 else if z10 = (62 : Int) then m262_63 z10 s11 else if z10 = (61 : Int) then m262_63 z10 s11 else oV (s11.1 209 2) fun z16 => oC (m153 (1 : Int) z16 s11) fun z17 s18 => some (0, s18) else some (0, s6) else oC (m248 (13 : Int) s2) fun z20 s21 => some (0, s21)) = some (r_, s_) := hm
  refine z_aload_n (pc' := 1) hM262 rfl rfl rfl ?_
  refine z_aload_n (pc' := 2) hM262 rfl rfl rfl ?_
  refine z_fldR (pc' := 5) hM262 rfl (zf_12_86 hG) rfl rfl ?_
  obtain ⟨z1, s2, h3, hm⟩ := o_c hm
  refine z_cv (d := d + 7) (pc' := 8) hM262 rfl hM158 rfl rfl rfl rfl rfl rfl (c158 (d := d + 4) hG h3) rfl ?_
  refine z_ifeq (pc' := 11) (t := 18) hM262 rfl rfl (fun h4 => ?_) (fun h4 => ?_)
  · replace hm := o_t hm h4
    refine z_aload_n (pc' := 19) hM262 rfl rfl rfl ?_
    obtain ⟨z5, s6, h7, hm⟩ := o_c hm
    refine z_cvV (d := d + 7) (pc' := 22) hM262 rfl hM261 rfl rfl rfl rfl rfl rfl (c261 (d := d) hG h7) rfl ?_
    refine z_aload_n (pc' := 23) hM262 rfl rfl rfl ?_
    obtain ⟨z8, ez8, hm⟩ := o_v hm
    refine z_fldI (pc' := 26) hM262 rfl rfl rfl ez8 ?_
    refine z_ifeq (pc' := 29) (t := 30) hM262 rfl rfl (fun h9 => ?_) (fun h9 => ?_)
    · replace hm := o_t hm h9
      refine z_aload_n (pc' := 31) hM262 rfl rfl rfl ?_
      obtain ⟨z10, s11, h12, hm⟩ := o_c hm
      refine z_cv (d := d + 7) (pc' := 34) hM262 rfl hM156 rfl rfl rfl rfl rfl rfl (c156 (d := d + 6) hG h12) rfl ?_
      refine z_istore_n (pc' := 35) (l' := [some (zr 12 0 209), some (zi z10)]) hM262 rfl rfl rfl rfl ?_
      refine z_iload_n (pc' := 36) hM262 rfl rfl rfl ?_
      refine z_bipush (pc' := 38) hM262 rfl rfl rfl ?_
      refine z_cmpeq (pc' := 41) (t := 63) hM262 rfl rfl (fun h13 => ?_) (fun h13 => ?_)
      · replace hm := o_t hm h13
        exact c262_63 hG hm
      · replace hm := o_f hm h13
        refine z_iload_n (pc' := 42) hM262 rfl rfl rfl ?_
        refine z_bipush (pc' := 44) hM262 rfl rfl rfl ?_
        refine z_cmpeq (pc' := 47) (t := 63) hM262 rfl rfl (fun h14 => ?_) (fun h14 => ?_)
        · replace hm := o_t hm h14
          exact c262_63 hG hm
        · replace hm := o_f hm h14
          refine z_iload_n (pc' := 48) hM262 rfl rfl rfl ?_
          refine z_bipush (pc' := 50) hM262 rfl rfl rfl ?_
          refine z_cmpeq (pc' := 53) (t := 63) hM262 rfl rfl (fun h15 => ?_) (fun h15 => ?_)
          · replace hm := o_t hm h15
            exact c262_63 hG hm
          · replace hm := o_f hm h15
            refine z_aload_n (pc' := 54) hM262 rfl rfl rfl ?_
            refine z_iconst (pc' := 55) hM262 rfl rfl rfl ?_
            refine z_aload_n (pc' := 56) hM262 rfl rfl rfl ?_
            obtain ⟨z16, ez16, hm⟩ := o_v hm
            refine z_fldI (pc' := 59) hM262 rfl rfl rfl ez16 ?_
            obtain ⟨z17, s18, h19, hm⟩ := o_c hm
            refine z_cvV (d := d + 7) (pc' := 62) hM262 rfl hM153 rfl rfl rfl rfl rfl rfl (c153 (d := d + 6) hG h19) rfl ?_
            cases hm
            exact z_retV hM262 rfl rfl ⟨rfl, rfl⟩
    · replace hm := o_f hm h9
      cases hm
      exact z_retV hM262 rfl rfl ⟨rfl, rfl⟩
  · replace hm := o_f hm h4
    refine z_aload_n (pc' := 12) hM262 rfl rfl rfl ?_
    refine z_bipush (pc' := 14) hM262 rfl rfl rfl ?_
    obtain ⟨z20, s21, h22, hm⟩ := o_c hm
    refine z_cvV (d := d + 7) (pc' := 17) hM262 rfl hM248 rfl rfl rfl rfl rfl rfl (c248 (d := d + 6) hG h22) rfl ?_
    cases hm
    exact z_retV hM262 rfl rfl ⟨rfl, rfl⟩
def m263_2 : Nat → Int → zS → Option (Int × zS)
  | 0, _, _ => none
  | n + 1, x1, s => oV (s.1 209 102) fun z1 => if x1 < z1 then oX x1 1700 (oV (s.1 286 x1) fun z3 => if z3 = (25 : Int) then some ((1 : Int), s) else oZ (x1 + (1 : Int)) fun z6 => m263_2 n z6 s) else some ((0 : Int), s)
theorem c263_2 {G : aHp} {d : Nat} (hG : zG G) : ∀ {n : Nat} {x1 : Int} {s : zS} {r_ : Int} {s_ : zS}, m263_2 n x1 s = some (r_, s_) → Zp G (d + 1) 263 2 [some (zr 12 0 209), some (zi x1)] [] s (zRet (some (zi r_)) s_) := by
  intro n
  induction n with
  | zero => intro x1 s r_ s_ hm; cases hm
  | succ n ih =>
  intro x1 s r_ s_ hm
  replace hm : (oV (s.1 209 102) fun z1 => if x1 < z1 then oX x1 1700 (oV (s.1 286 x1) fun z3 => if z3 = (25 : Int) then some ((1 : Int), s) else oZ (x1 + (1 : Int)) fun z6 => m263_2 n z6 s) else some ((0 : Int), s)) = some (r_, s_) := hm
  refine z_iload_n (pc' := 3) hM263 rfl rfl rfl ?_
  refine z_aload_n (pc' := 4) hM263 rfl rfl rfl ?_
  obtain ⟨z1, ez1, hm⟩ := o_v hm
  refine z_fldI (pc' := 7) hM263 rfl rfl rfl ez1 ?_
  refine z_cmpge (pc' := 10) (t := 29) hM263 rfl rfl (fun h2 => ?_) (fun h2 => ?_)
  · replace hm := o_t hm h2
    refine z_aload_n (pc' := 11) hM263 rfl rfl rfl ?_
    refine z_fldR (pc' := 14) hM263 rfl (zf_12_101 hG) rfl rfl ?_
    refine z_iload_n (pc' := 15) hM263 rfl rfl rfl ?_
    obtain ⟨h4, hm⟩ := o_x hm
    obtain ⟨z3, ez3, hm⟩ := o_v hm
    refine z_iald (pc' := 16) (zGN hG) hM263 rfl rfl h4 ez3 ?_
    refine z_bipush (pc' := 18) hM263 rfl rfl rfl ?_
    refine z_cmpne (pc' := 21) (t := 23) hM263 rfl rfl (fun h5 => ?_) (fun h5 => ?_)
    · replace hm := o_t hm h5
      refine z_iconst (pc' := 22) hM263 rfl rfl rfl ?_
      cases hm
      exact z_retZ hM263 rfl rfl (Or.inr rfl) ⟨rfl, rfl⟩
    · replace hm := o_f hm h5
      obtain ⟨z6, ez6, h7, hm⟩ := o_z hm
      refine z_iinc (pc' := 26) (l' := [some (zr 12 0 209), some (zi z6)]) hM263 rfl rfl rfl ez6 h7 rfl rfl ?_
      refine z_goto (t := 2) hM263 rfl ?_
      exact ih hm
  · replace hm := o_f hm h2
    refine z_iconst (pc' := 30) hM263 rfl rfl rfl ?_
    cases hm
    exact z_retZ hM263 rfl rfl (Or.inl rfl) ⟨rfl, rfl⟩
def m263  (s : zS) : Option (Int × zS) := m263_2 zFu (0 : Int) s
theorem c263 {G : aHp} {d : Nat} (hG : zG G) {s : zS} {r_ : Int} {s_ : zS} (hm : m263  s = some (r_, s_)) : Zp G (d + 1) 263 0 [some (zr 12 0 209), none] [] s (zRet (some (zi r_)) s_) := by
  replace hm : (m263_2 zFu (0 : Int) s) = some (r_, s_) := hm
  refine z_iconst (pc' := 1) hM263 rfl rfl rfl ?_
  refine z_istore_n (pc' := 2) (l' := [some (zr 12 0 209), some (zi (0 : Int))]) hM263 rfl rfl rfl rfl ?_
  exact c263_2 hG hm
def m264_0 : Nat → zS → Option (Int × zS)
  | 0, _ => none
  | n + 1, s => oV (s.1 209 5) fun z1 => if z1 = (0 : Int) then oC (m250 (12 : Int) s) fun z3 s4 => if z3 = (0 : Int) then some (0, s4) else oV (s4.1 209 103) fun z7 => oZ (z7 - (1 : Int)) fun z8 => oV (sI s4 209 103 z8) fun s10 => oC (m251 s10) fun z11 s12 => m264_0 n s12 else some (0, s)
theorem c264_0 {G : aHp} {d : Nat} (hG : zG G) : ∀ {n : Nat} {s : zS} {r_ : Int} {s_ : zS}, m264_0 n  s = some (r_, s_) → Zp G (d + 3) 264 0 [some (zr 12 0 209)] [] s (zRet none s_) := by
  intro n
  induction n with
  | zero => intro  s r_ s_ hm; cases hm
  | succ n ih =>
  intro  s r_ s_ hm
  replace hm : (oV (s.1 209 5) fun z1 => if z1 = (0 : Int) then oC (m250 (12 : Int) s) fun z3 s4 => if z3 = (0 : Int) then some (0, s4) else oV (s4.1 209 103) fun z7 => oZ (z7 - (1 : Int)) fun z8 => oV (sI s4 209 103 z8) fun s10 => oC (m251 s10) fun z11 s12 => m264_0 n s12 else some (0, s)) = some (r_, s_) := hm
  refine z_aload_n (pc' := 1) hM264 rfl rfl rfl ?_
  obtain ⟨z1, ez1, hm⟩ := o_v hm
  refine z_fldI (pc' := 4) hM264 rfl rfl rfl ez1 ?_
  refine z_ifne (pc' := 7) (t := 33) hM264 rfl rfl (fun h2 => ?_) (fun h2 => ?_)
  · replace hm := o_t hm h2
    refine z_aload_n (pc' := 8) hM264 rfl rfl rfl ?_
    refine z_bipush (pc' := 10) hM264 rfl rfl rfl ?_
    obtain ⟨z3, s4, h5, hm⟩ := o_c hm
    refine z_cv (d := d + 2) (pc' := 13) hM264 rfl hM250 rfl rfl rfl rfl rfl rfl (c250 (d := d + 1) hG h5) rfl ?_
    refine z_ifeq (pc' := 16) (t := 33) hM264 rfl rfl (fun h6 => ?_) (fun h6 => ?_)
    · replace hm := o_t hm h6
      cases hm
      exact z_retV hM264 rfl rfl ⟨rfl, rfl⟩
    · replace hm := o_f hm h6
      refine z_aload_n (pc' := 17) hM264 rfl rfl rfl ?_
      refine z_dupA (pc' := 18) hM264 rfl rfl ?_
      obtain ⟨z7, ez7, hm⟩ := o_v hm
      refine z_fldI (pc' := 21) hM264 rfl rfl rfl ez7 ?_
      refine z_iconst (pc' := 22) hM264 rfl rfl rfl ?_
      obtain ⟨z8, ez8, h9, hm⟩ := o_z hm
      refine z_isub (pc' := 23) hM264 rfl rfl ez8 h9 ?_
      obtain ⟨s10, es10, hm⟩ := o_v hm
      refine z_putI (pc' := 26) hM264 rfl rfl rfl es10 ?_
      refine z_aload_n (pc' := 27) hM264 rfl rfl rfl ?_
      obtain ⟨z11, s12, h13, hm⟩ := o_c hm
      refine z_cvV (d := d + 2) (pc' := 30) hM264 rfl hM251 rfl rfl rfl rfl rfl rfl (c251 (d := d) hG h13) rfl ?_
      refine z_goto (t := 0) hM264 rfl ?_
      exact ih hm
  · replace hm := o_f hm h2
    cases hm
    exact z_retV hM264 rfl rfl ⟨rfl, rfl⟩
def m264  (s : zS) : Option (Int × zS) := m264_0 zFu s
theorem c264 {G : aHp} {d : Nat} (hG : zG G) {s : zS} {r_ : Int} {s_ : zS} (hm : m264  s = some (r_, s_)) : Zp G (d + 3) 264 0 [some (zr 12 0 209)] [] s (zRet none s_) :=
  c264_0 hG hm
def m266_137 : Nat → zS → Option (Int × zS)
  | 0, _ => none
  | n + 1, s => oC (m250 (10 : Int) s) fun z1 s2 => if z1 = (0 : Int) then oC (m250 (11 : Int) s2) fun z5 s6 => if z5 = (0 : Int) then oV (s6.1 209 102) fun z9 => oX z9 1700 (oV (sI s6 286 z9 (11 : Int)) fun s10 => oV (s10.1 209 102) fun z12 => oZ (z12 + (1 : Int)) fun z13 => oV (sI s10 209 102 z13) fun s15 => some ((1 : Int), s15)) else oC (m251 s6) fun z16 s17 => m266_137 n s17 else oC (m251 s2) fun z19 s20 => m266_137 n s20
set_option maxRecDepth 20000 in
theorem c266_137 {G : aHp} {d : Nat} (hG : zG G) : ∀ {n : Nat} {s : zS} {r_ : Int} {s_ : zS}, m266_137 n  s = some (r_, s_) → Zp G (d + 4) 266 137 [some (zr 12 0 209)] [] s (zRet (some (zi r_)) s_) := by
  intro n
  induction n with
  | zero => intro  s r_ s_ hm; cases hm
  | succ n ih =>
  intro  s r_ s_ hm
  replace hm : (oC (m250 (10 : Int) s) fun z1 s2 => if z1 = (0 : Int) then oC (m250 (11 : Int) s2) fun z5 s6 => if z5 = (0 : Int) then oV (s6.1 209 102) fun z9 => oX z9 1700 (oV (sI s6 286 z9 (11 : Int)) fun s10 => oV (s10.1 209 102) fun z12 => oZ (z12 + (1 : Int)) fun z13 => oV (sI s10 209 102 z13) fun s15 => some ((1 : Int), s15)) else oC (m251 s6) fun z16 s17 => m266_137 n s17 else oC (m251 s2) fun z19 s20 => m266_137 n s20) = some (r_, s_) := hm
  refine z_aload_n (pc' := 138) hM266 rfl rfl rfl ?_
  refine z_bipush (pc' := 140) hM266 rfl rfl rfl ?_
  obtain ⟨z1, s2, h3, hm⟩ := o_c hm
  refine z_cv (d := d + 3) (pc' := 143) hM266 rfl hM250 rfl rfl rfl rfl rfl rfl (c250 (d := d + 2) hG h3) rfl ?_
  refine z_ifne (pc' := 146) (t := 155) hM266 rfl rfl (fun h4 => ?_) (fun h4 => ?_)
  · replace hm := o_t hm h4
    refine z_aload_n (pc' := 147) hM266 rfl rfl rfl ?_
    refine z_bipush (pc' := 149) hM266 rfl rfl rfl ?_
    obtain ⟨z5, s6, h7, hm⟩ := o_c hm
    refine z_cv (d := d + 3) (pc' := 152) hM266 rfl hM250 rfl rfl rfl rfl rfl rfl (c250 (d := d + 2) hG h7) rfl ?_
    refine z_ifeq (pc' := 155) (t := 162) hM266 rfl rfl (fun h8 => ?_) (fun h8 => ?_)
    · replace hm := o_t hm h8
      refine z_aload_n (pc' := 163) hM266 rfl rfl rfl ?_
      refine z_fldR (pc' := 166) hM266 rfl (zf_12_101 hG) rfl rfl ?_
      refine z_aload_n (pc' := 167) hM266 rfl rfl rfl ?_
      obtain ⟨z9, ez9, hm⟩ := o_v hm
      refine z_fldI (pc' := 170) hM266 rfl rfl rfl ez9 ?_
      refine z_bipush (pc' := 172) hM266 rfl rfl rfl ?_
      obtain ⟨h11, hm⟩ := o_x hm
      obtain ⟨s10, es10, hm⟩ := o_v hm
      refine z_iast (pc' := 173) hM266 rfl rfl h11 es10 ?_
      refine z_aload_n (pc' := 174) hM266 rfl rfl rfl ?_
      refine z_dupA (pc' := 175) hM266 rfl rfl ?_
      obtain ⟨z12, ez12, hm⟩ := o_v hm
      refine z_fldI (pc' := 178) hM266 rfl rfl rfl ez12 ?_
      refine z_iconst (pc' := 179) hM266 rfl rfl rfl ?_
      obtain ⟨z13, ez13, h14, hm⟩ := o_z hm
      refine z_iadd (pc' := 180) hM266 rfl rfl ez13 h14 ?_
      obtain ⟨s15, es15, hm⟩ := o_v hm
      refine z_putI (pc' := 183) hM266 rfl rfl rfl es15 ?_
      refine z_iconst (pc' := 184) hM266 rfl rfl rfl ?_
      cases hm
      exact z_retZ hM266 rfl rfl (Or.inr rfl) ⟨rfl, rfl⟩
    · replace hm := o_f hm h8
      refine z_aload_n (pc' := 156) hM266 rfl rfl rfl ?_
      obtain ⟨z16, s17, h18, hm⟩ := o_c hm
      refine z_cvV (d := d + 3) (pc' := 159) hM266 rfl hM251 rfl rfl rfl rfl rfl rfl (c251 (d := d + 1) hG h18) rfl ?_
      refine z_goto (t := 137) hM266 rfl ?_
      exact ih hm
  · replace hm := o_f hm h4
    refine z_aload_n (pc' := 156) hM266 rfl rfl rfl ?_
    obtain ⟨z19, s20, h21, hm⟩ := o_c hm
    refine z_cvV (d := d + 3) (pc' := 159) hM266 rfl hM251 rfl rfl rfl rfl rfl rfl (c251 (d := d + 1) hG h21) rfl ?_
    refine z_goto (t := 137) hM266 rfl ?_
    exact ih hm
def m266_87 : Nat → zS → Option (Int × zS)
  | 0, _ => none
  | n + 1, s => oC (m250 (10 : Int) s) fun z1 s2 => if z1 = (0 : Int) then oV (s2.1 209 102) fun z5 => oX z5 1700 (oV (sI s2 286 z5 (10 : Int)) fun s6 => oV (s6.1 209 102) fun z8 => oZ (z8 + (1 : Int)) fun z9 => oV (sI s6 209 102 z9) fun s11 => some ((1 : Int), s11)) else oC (m251 s2) fun z12 s13 => m266_87 n s13
set_option maxRecDepth 20000 in
theorem c266_87 {G : aHp} {d : Nat} (hG : zG G) : ∀ {n : Nat} {s : zS} {r_ : Int} {s_ : zS}, m266_87 n  s = some (r_, s_) → Zp G (d + 4) 266 87 [some (zr 12 0 209)] [] s (zRet (some (zi r_)) s_) := by
  intro n
  induction n with
  | zero => intro  s r_ s_ hm; cases hm
  | succ n ih =>
  intro  s r_ s_ hm
  replace hm : (oC (m250 (10 : Int) s) fun z1 s2 => if z1 = (0 : Int) then oV (s2.1 209 102) fun z5 => oX z5 1700 (oV (sI s2 286 z5 (10 : Int)) fun s6 => oV (s6.1 209 102) fun z8 => oZ (z8 + (1 : Int)) fun z9 => oV (sI s6 209 102 z9) fun s11 => some ((1 : Int), s11)) else oC (m251 s2) fun z12 s13 => m266_87 n s13) = some (r_, s_) := hm
  refine z_aload_n (pc' := 88) hM266 rfl rfl rfl ?_
  refine z_bipush (pc' := 90) hM266 rfl rfl rfl ?_
  obtain ⟨z1, s2, h3, hm⟩ := o_c hm
  refine z_cv (d := d + 3) (pc' := 93) hM266 rfl hM250 rfl rfl rfl rfl rfl rfl (c250 (d := d + 2) hG h3) rfl ?_
  refine z_ifeq (pc' := 96) (t := 103) hM266 rfl rfl (fun h4 => ?_) (fun h4 => ?_)
  · replace hm := o_t hm h4
    refine z_aload_n (pc' := 104) hM266 rfl rfl rfl ?_
    refine z_fldR (pc' := 107) hM266 rfl (zf_12_101 hG) rfl rfl ?_
    refine z_aload_n (pc' := 108) hM266 rfl rfl rfl ?_
    obtain ⟨z5, ez5, hm⟩ := o_v hm
    refine z_fldI (pc' := 111) hM266 rfl rfl rfl ez5 ?_
    refine z_bipush (pc' := 113) hM266 rfl rfl rfl ?_
    obtain ⟨h7, hm⟩ := o_x hm
    obtain ⟨s6, es6, hm⟩ := o_v hm
    refine z_iast (pc' := 114) hM266 rfl rfl h7 es6 ?_
    refine z_aload_n (pc' := 115) hM266 rfl rfl rfl ?_
    refine z_dupA (pc' := 116) hM266 rfl rfl ?_
    obtain ⟨z8, ez8, hm⟩ := o_v hm
    refine z_fldI (pc' := 119) hM266 rfl rfl rfl ez8 ?_
    refine z_iconst (pc' := 120) hM266 rfl rfl rfl ?_
    obtain ⟨z9, ez9, h10, hm⟩ := o_z hm
    refine z_iadd (pc' := 121) hM266 rfl rfl ez9 h10 ?_
    obtain ⟨s11, es11, hm⟩ := o_v hm
    refine z_putI (pc' := 124) hM266 rfl rfl rfl es11 ?_
    refine z_iconst (pc' := 125) hM266 rfl rfl rfl ?_
    cases hm
    exact z_retZ hM266 rfl rfl (Or.inr rfl) ⟨rfl, rfl⟩
  · replace hm := o_f hm h4
    refine z_aload_n (pc' := 97) hM266 rfl rfl rfl ?_
    obtain ⟨z12, s13, h14, hm⟩ := o_c hm
    refine z_cvV (d := d + 3) (pc' := 100) hM266 rfl hM251 rfl rfl rfl rfl rfl rfl (c251 (d := d + 1) hG h14) rfl ?_
    refine z_goto (t := 87) hM266 rfl ?_
    exact ih hm
def m266_76  (s : zS) : Option (Int × zS) := oC (m158 3 270 s) fun z1 s2 => if z1 = (0 : Int) then oC (m158 2 271 s2) fun z5 s6 => if z5 = (0 : Int) then oV (s6.1 209 5) fun z9 => if z9 = (0 : Int) then oC (m263 s6) fun z11 s12 => if z11 = (0 : Int) then some ((0 : Int), s12) else oV (s12.1 209 2) fun z15 => oC (m153 (1 : Int) z15 s12) fun z16 s17 => some ((0 : Int), s17) else some ((0 : Int), s6) else m266_137 zFu s6 else m266_87 zFu s2
set_option maxRecDepth 20000 in
theorem c266_76 {G : aHp} {d : Nat} (hG : zG G) {s : zS} {r_ : Int} {s_ : zS} (hm : m266_76  s = some (r_, s_)) : Zp G (d + 4) 266 76 [some (zr 12 0 209)] [] s (zRet (some (zi r_)) s_) := by
  replace hm : (oC (m158 3 270 s) fun z1 s2 => if z1 = (0 : Int) then oC (m158 2 271 s2) fun z5 s6 => if z5 = (0 : Int) then oV (s6.1 209 5) fun z9 => if z9 = (0 : Int) then oC (m263 s6) fun z11 s12 => if z11 = (0 : Int) then some ((0 : Int), s12) else oV (s12.1 209 2) fun z15 => oC (m153 (1 : Int) z15 s12) fun z16 s17 => some ((0 : Int), s17) else some ((0 : Int), s6) else m266_137 zFu s6 else m266_87 zFu s2) = some (r_, s_) := hm
  refine z_aload_n (pc' := 77) hM266 rfl rfl rfl ?_
  refine z_aload_n (pc' := 78) hM266 rfl rfl rfl ?_
  refine z_fldR (pc' := 81) hM266 rfl (zf_12_84 hG) rfl rfl ?_
  obtain ⟨z1, s2, h3, hm⟩ := o_c hm
  refine z_cv (d := d + 3) (pc' := 84) hM266 rfl hM158 rfl rfl rfl rfl rfl rfl (c158 (d := d) hG h3) rfl ?_
  refine z_ifeq (pc' := 87) (t := 126) hM266 rfl rfl (fun h4 => ?_) (fun h4 => ?_)
  · replace hm := o_t hm h4
    refine z_aload_n (pc' := 127) hM266 rfl rfl rfl ?_
    refine z_aload_n (pc' := 128) hM266 rfl rfl rfl ?_
    refine z_fldR (pc' := 131) hM266 rfl (zf_12_85 hG) rfl rfl ?_
    obtain ⟨z5, s6, h7, hm⟩ := o_c hm
    refine z_cv (d := d + 3) (pc' := 134) hM266 rfl hM158 rfl rfl rfl rfl rfl rfl (c158 (d := d) hG h7) rfl ?_
    refine z_ifeq (pc' := 137) (t := 185) hM266 rfl rfl (fun h8 => ?_) (fun h8 => ?_)
    · replace hm := o_t hm h8
      refine z_aload_n (pc' := 186) hM266 rfl rfl rfl ?_
      obtain ⟨z9, ez9, hm⟩ := o_v hm
      refine z_fldI (pc' := 189) hM266 rfl rfl rfl ez9 ?_
      refine z_ifne (pc' := 192) (t := 208) hM266 rfl rfl (fun h10 => ?_) (fun h10 => ?_)
      · replace hm := o_t hm h10
        refine z_aload_n (pc' := 193) hM266 rfl rfl rfl ?_
        obtain ⟨z11, s12, h13, hm⟩ := o_c hm
        refine z_cv (d := d + 3) (pc' := 196) hM266 rfl hM263 rfl rfl rfl rfl rfl rfl (c263 (d := d + 2) hG h13) rfl ?_
        refine z_ifeq (pc' := 199) (t := 208) hM266 rfl rfl (fun h14 => ?_) (fun h14 => ?_)
        · replace hm := o_t hm h14
          refine z_iconst (pc' := 209) hM266 rfl rfl rfl ?_
          cases hm
          exact z_retZ hM266 rfl rfl (Or.inl rfl) ⟨rfl, rfl⟩
        · replace hm := o_f hm h14
          refine z_aload_n (pc' := 200) hM266 rfl rfl rfl ?_
          refine z_iconst (pc' := 201) hM266 rfl rfl rfl ?_
          refine z_aload_n (pc' := 202) hM266 rfl rfl rfl ?_
          obtain ⟨z15, ez15, hm⟩ := o_v hm
          refine z_fldI (pc' := 205) hM266 rfl rfl rfl ez15 ?_
          obtain ⟨z16, s17, h18, hm⟩ := o_c hm
          refine z_cvV (d := d + 3) (pc' := 208) hM266 rfl hM153 rfl rfl rfl rfl rfl rfl (c153 (d := d + 2) hG h18) rfl ?_
          refine z_iconst (pc' := 209) hM266 rfl rfl rfl ?_
          cases hm
          exact z_retZ hM266 rfl rfl (Or.inl rfl) ⟨rfl, rfl⟩
      · replace hm := o_f hm h10
        refine z_iconst (pc' := 209) hM266 rfl rfl rfl ?_
        cases hm
        exact z_retZ hM266 rfl rfl (Or.inl rfl) ⟨rfl, rfl⟩
    · replace hm := o_f hm h8
      exact c266_137 hG hm
  · replace hm := o_f hm h4
    exact c266_87 hG hm
def m266_33 (k0_ : zS → Option (Int × zS)) : Nat → zS → Option (Int × zS)
  | 0, _ => none
  | n + 1, s => oC (m250 (25 : Int) s) fun z1 s2 => if z1 = (0 : Int) then oC (m251 s2) fun z5 s6 => m266_33 k0_ n s6 else oV (s2.1 209 102) fun z8 => oZ (z8 - (1 : Int)) fun z9 => oV (sI s2 209 102 z9) fun s11 => oV (s11.1 209 103) fun z12 => oZ (z12 - (1 : Int)) fun z13 => oV (sI s11 209 103 z13) fun s15 => oC (m264 s15) fun z16 s17 => k0_ s17
set_option maxRecDepth 20000 in
theorem c266_33 {G : aHp} {d : Nat} {k0_ : zS → Option (Int × zS)} (hG : zG G) (hk0 : ∀ {s : zS} {r_ : Int} {s_ : zS}, k0_  s = some (r_, s_) → Zp G (d + 4) 266 0 [some (zr 12 0 209)] [] s (zRet (some (zi r_)) s_)) : ∀ {n : Nat} {s : zS} {r_ : Int} {s_ : zS}, m266_33 k0_ n  s = some (r_, s_) → Zp G (d + 4) 266 33 [some (zr 12 0 209)] [] s (zRet (some (zi r_)) s_) := by
  intro n
  induction n with
  | zero => intro  s r_ s_ hm; cases hm
  | succ n ih =>
  intro  s r_ s_ hm
  replace hm : (oC (m250 (25 : Int) s) fun z1 s2 => if z1 = (0 : Int) then oC (m251 s2) fun z5 s6 => m266_33 k0_ n s6 else oV (s2.1 209 102) fun z8 => oZ (z8 - (1 : Int)) fun z9 => oV (sI s2 209 102 z9) fun s11 => oV (s11.1 209 103) fun z12 => oZ (z12 - (1 : Int)) fun z13 => oV (sI s11 209 103 z13) fun s15 => oC (m264 s15) fun z16 s17 => k0_ s17) = some (r_, s_) := hm
  refine z_aload_n (pc' := 34) hM266 rfl rfl rfl ?_
  refine z_bipush (pc' := 36) hM266 rfl rfl rfl ?_
  obtain ⟨z1, s2, h3, hm⟩ := o_c hm
  refine z_cv (d := d + 3) (pc' := 39) hM266 rfl hM250 rfl rfl rfl rfl rfl rfl (c250 (d := d + 2) hG h3) rfl ?_
  refine z_ifne (pc' := 42) (t := 49) hM266 rfl rfl (fun h4 => ?_) (fun h4 => ?_)
  · replace hm := o_t hm h4
    refine z_aload_n (pc' := 43) hM266 rfl rfl rfl ?_
    obtain ⟨z5, s6, h7, hm⟩ := o_c hm
    refine z_cvV (d := d + 3) (pc' := 46) hM266 rfl hM251 rfl rfl rfl rfl rfl rfl (c251 (d := d + 1) hG h7) rfl ?_
    refine z_goto (t := 33) hM266 rfl ?_
    exact ih hm
  · replace hm := o_f hm h4
    refine z_aload_n (pc' := 50) hM266 rfl rfl rfl ?_
    refine z_dupA (pc' := 51) hM266 rfl rfl ?_
    obtain ⟨z8, ez8, hm⟩ := o_v hm
    refine z_fldI (pc' := 54) hM266 rfl rfl rfl ez8 ?_
    refine z_iconst (pc' := 55) hM266 rfl rfl rfl ?_
    obtain ⟨z9, ez9, h10, hm⟩ := o_z hm
    refine z_isub (pc' := 56) hM266 rfl rfl ez9 h10 ?_
    obtain ⟨s11, es11, hm⟩ := o_v hm
    refine z_putI (pc' := 59) hM266 rfl rfl rfl es11 ?_
    refine z_aload_n (pc' := 60) hM266 rfl rfl rfl ?_
    refine z_dupA (pc' := 61) hM266 rfl rfl ?_
    obtain ⟨z12, ez12, hm⟩ := o_v hm
    refine z_fldI (pc' := 64) hM266 rfl rfl rfl ez12 ?_
    refine z_iconst (pc' := 65) hM266 rfl rfl rfl ?_
    obtain ⟨z13, ez13, h14, hm⟩ := o_z hm
    refine z_isub (pc' := 66) hM266 rfl rfl ez13 h14 ?_
    obtain ⟨s15, es15, hm⟩ := o_v hm
    refine z_putI (pc' := 69) hM266 rfl rfl rfl es15 ?_
    refine z_aload_n (pc' := 70) hM266 rfl rfl rfl ?_
    obtain ⟨z16, s17, h18, hm⟩ := o_c hm
    refine z_cvV (d := d + 3) (pc' := 73) hM266 rfl hM264 rfl rfl rfl rfl rfl rfl (c264 (d := d) hG h18) rfl ?_
    refine z_goto (t := 0) hM266 rfl ?_
    exact hk0 hm
def m266_0 : Nat → zS → Option (Int × zS)
  | 0, _ => none
  | n + 1, s => oV (s.1 209 5) fun z1 => if z1 = (0 : Int) then oC (m156 s) fun z3 s4 => if z3 = (93 : Int) then oC (m263 s4) fun z7 s8 => if z7 = (0 : Int) then m266_76 s8 else oV (s8.1 209 2) fun z11 => oZ (z11 + (1 : Int)) fun z12 => oV (sI s8 209 2 z12) fun s14 => m266_33 (m266_0 n) zFu s14 else m266_76 s4 else m266_76 s
set_option maxRecDepth 20000 in
theorem c266_0 {G : aHp} {d : Nat} (hG : zG G) : ∀ {n : Nat} {s : zS} {r_ : Int} {s_ : zS}, m266_0 n  s = some (r_, s_) → Zp G (d + 4) 266 0 [some (zr 12 0 209)] [] s (zRet (some (zi r_)) s_) := by
  intro n
  induction n with
  | zero => intro  s r_ s_ hm; cases hm
  | succ n ih =>
  intro  s r_ s_ hm
  replace hm : (oV (s.1 209 5) fun z1 => if z1 = (0 : Int) then oC (m156 s) fun z3 s4 => if z3 = (93 : Int) then oC (m263 s4) fun z7 s8 => if z7 = (0 : Int) then m266_76 s8 else oV (s8.1 209 2) fun z11 => oZ (z11 + (1 : Int)) fun z12 => oV (sI s8 209 2 z12) fun s14 => m266_33 (m266_0 n) zFu s14 else m266_76 s4 else m266_76 s) = some (r_, s_) := hm
  refine z_aload_n (pc' := 1) hM266 rfl rfl rfl ?_
  obtain ⟨z1, ez1, hm⟩ := o_v hm
  refine z_fldI (pc' := 4) hM266 rfl rfl rfl ez1 ?_
  refine z_ifne (pc' := 7) (t := 76) hM266 rfl rfl (fun h2 => ?_) (fun h2 => ?_)
  · replace hm := o_t hm h2
    refine z_aload_n (pc' := 8) hM266 rfl rfl rfl ?_
    obtain ⟨z3, s4, h5, hm⟩ := o_c hm
    refine z_cv (d := d + 3) (pc' := 11) hM266 rfl hM156 rfl rfl rfl rfl rfl rfl (c156 (d := d + 2) hG h5) rfl ?_
    refine z_bipush (pc' := 13) hM266 rfl rfl rfl ?_
    refine z_cmpne (pc' := 16) (t := 76) hM266 rfl rfl (fun h6 => ?_) (fun h6 => ?_)
    · replace hm := o_t hm h6
      refine z_aload_n (pc' := 17) hM266 rfl rfl rfl ?_
      obtain ⟨z7, s8, h9, hm⟩ := o_c hm
      refine z_cv (d := d + 3) (pc' := 20) hM266 rfl hM263 rfl rfl rfl rfl rfl rfl (c263 (d := d + 2) hG h9) rfl ?_
      refine z_ifeq (pc' := 23) (t := 76) hM266 rfl rfl (fun h10 => ?_) (fun h10 => ?_)
      · replace hm := o_t hm h10
        exact c266_76 hG hm
      · replace hm := o_f hm h10
        refine z_aload_n (pc' := 24) hM266 rfl rfl rfl ?_
        refine z_dupA (pc' := 25) hM266 rfl rfl ?_
        obtain ⟨z11, ez11, hm⟩ := o_v hm
        refine z_fldI (pc' := 28) hM266 rfl rfl rfl ez11 ?_
        refine z_iconst (pc' := 29) hM266 rfl rfl rfl ?_
        obtain ⟨z12, ez12, h13, hm⟩ := o_z hm
        refine z_iadd (pc' := 30) hM266 rfl rfl ez12 h13 ?_
        obtain ⟨s14, es14, hm⟩ := o_v hm
        refine z_putI (pc' := 33) hM266 rfl rfl rfl es14 ?_
        exact c266_33 hG ih hm
    · replace hm := o_f hm h6
      exact c266_76 hG hm
  · replace hm := o_f hm h2
    exact c266_76 hG hm
def m266  (s : zS) : Option (Int × zS) := m266_0 zFu s
set_option maxRecDepth 20000 in
theorem c266 {G : aHp} {d : Nat} (hG : zG G) {s : zS} {r_ : Int} {s_ : zS} (hm : m266  s = some (r_, s_)) : Zp G (d + 4) 266 0 [some (zr 12 0 209)] [] s (zRet (some (zi r_)) s_) :=
  c266_0 hG hm
def m265_110 : Nat → zS → Option (Int × zS)
  | 0, _ => none
  | n + 1, s => oV (s.1 209 5) fun z1 => if z1 = (0 : Int) then oV (s.1 209 102) fun z3 => if (0 : Int) < z3 then oC (m251 s) fun z5 s6 => m265_110 n s6 else some (0, s) else some (0, s)
theorem c265_110 {G : aHp} {d : Nat} (hG : zG G) : ∀ {n : Nat} {d1 d2 : Option zV} {s : zS} {r_ : Int} {s_ : zS}, m265_110 n  s = some (r_, s_) → Zp G (d + 9) 265 110 [some (zr 12 0 209), d1, d2] [] s (zRet none s_) := by
  intro n
  induction n with
  | zero => intro d1 d2 s r_ s_ hm; cases hm
  | succ n ih =>
  intro d1 d2 s r_ s_ hm
  replace hm : (oV (s.1 209 5) fun z1 => if z1 = (0 : Int) then oV (s.1 209 102) fun z3 => if (0 : Int) < z3 then oC (m251 s) fun z5 s6 => m265_110 n s6 else some (0, s) else some (0, s)) = some (r_, s_) := hm
  refine z_aload_n (pc' := 111) hM265 rfl rfl rfl ?_
  obtain ⟨z1, ez1, hm⟩ := o_v hm
  refine z_fldI (pc' := 114) hM265 rfl rfl rfl ez1 ?_
  refine z_ifne (pc' := 117) (t := 131) hM265 rfl rfl (fun h2 => ?_) (fun h2 => ?_)
  · replace hm := o_t hm h2
    refine z_aload_n (pc' := 118) hM265 rfl rfl rfl ?_
    obtain ⟨z3, ez3, hm⟩ := o_v hm
    refine z_fldI (pc' := 121) hM265 rfl rfl rfl ez3 ?_
    refine z_ifle (pc' := 124) (t := 131) hM265 rfl rfl (fun h4 => ?_) (fun h4 => ?_)
    · replace hm := o_t hm h4
      refine z_aload_n (pc' := 125) hM265 rfl rfl rfl ?_
      obtain ⟨z5, s6, h7, hm⟩ := o_c hm
      refine z_cvV (d := d + 8) (pc' := 128) hM265 rfl hM251 rfl rfl rfl rfl rfl rfl (c251 (d := d + 6) hG h7) rfl ?_
      refine z_goto (t := 110) hM265 rfl ?_
      exact ih hm
    · replace hm := o_f hm h4
      cases hm
      exact z_retV hM265 rfl rfl ⟨rfl, rfl⟩
  · replace hm := o_f hm h2
    cases hm
    exact z_retV hM265 rfl rfl ⟨rfl, rfl⟩
def m265_2 : Nat → Int → zS → Option (Int × zS)
  | 0, _, _ => none
  | n + 1, x1, s => if x1 = (0 : Int) then m265_110 zFu s else oV (s.1 209 5) fun z2 => if z2 = (0 : Int) then oC (m156 s) fun z4 s5 => if z4 = (91 : Int) then oV (s5.1 209 2) fun z8 => oC (m249 (25 : Int) z8 s5) fun z9 s10 => oV (s10.1 209 2) fun z12 => oZ (z12 + (1 : Int)) fun z13 => oV (sI s10 209 2 z13) fun s15 => m265_2 n x1 s15 else oC (m157 3 269 s5) fun z16 s17 => if z16 = (0 : Int) then oC (m262 s17) fun z20 s21 => oC (m264 s21) fun z23 s24 => oV (s24.1 209 5) fun z26 => if z26 = (0 : Int) then oC (m266 s24) fun z28 s29 => if z28 = (0 : Int) then m265_2 n (0 : Int) s29 else m265_2 n (1 : Int) s29 else m265_2 n (0 : Int) s24 else oV (s17.1 209 2) fun z32 => oC (m249 (12 : Int) z32 s17) fun z33 s34 => oC (m159 3 269 s34) fun z36 s37 => m265_2 n x1 s37 else m265_110 zFu s
theorem c265_2 {G : aHp} {d : Nat} (hG : zG G) : ∀ {n : Nat} {x1 : Int} {d2 : Option zV} {s : zS} {r_ : Int} {s_ : zS}, m265_2 n x1 s = some (r_, s_) → Zp G (d + 9) 265 2 [some (zr 12 0 209), some (zi x1), d2] [] s (zRet none s_) := by
  intro n
  induction n with
  | zero => intro x1 d2 s r_ s_ hm; cases hm
  | succ n ih =>
  intro x1 d2 s r_ s_ hm
  replace hm : (if x1 = (0 : Int) then m265_110 zFu s else oV (s.1 209 5) fun z2 => if z2 = (0 : Int) then oC (m156 s) fun z4 s5 => if z4 = (91 : Int) then oV (s5.1 209 2) fun z8 => oC (m249 (25 : Int) z8 s5) fun z9 s10 => oV (s10.1 209 2) fun z12 => oZ (z12 + (1 : Int)) fun z13 => oV (sI s10 209 2 z13) fun s15 => m265_2 n x1 s15 else oC (m157 3 269 s5) fun z16 s17 => if z16 = (0 : Int) then oC (m262 s17) fun z20 s21 => oC (m264 s21) fun z23 s24 => oV (s24.1 209 5) fun z26 => if z26 = (0 : Int) then oC (m266 s24) fun z28 s29 => if z28 = (0 : Int) then m265_2 n (0 : Int) s29 else m265_2 n (1 : Int) s29 else m265_2 n (0 : Int) s24 else oV (s17.1 209 2) fun z32 => oC (m249 (12 : Int) z32 s17) fun z33 s34 => oC (m159 3 269 s34) fun z36 s37 => m265_2 n x1 s37 else m265_110 zFu s) = some (r_, s_) := hm
  refine z_iload_n (pc' := 3) hM265 rfl rfl rfl ?_
  refine z_ifeq (pc' := 6) (t := 110) hM265 rfl rfl (fun h1 => ?_) (fun h1 => ?_)
  · replace hm := o_t hm h1
    exact c265_110 hG hm
  · replace hm := o_f hm h1
    refine z_aload_n (pc' := 7) hM265 rfl rfl rfl ?_
    obtain ⟨z2, ez2, hm⟩ := o_v hm
    refine z_fldI (pc' := 10) hM265 rfl rfl rfl ez2 ?_
    refine z_ifne (pc' := 13) (t := 110) hM265 rfl rfl (fun h3 => ?_) (fun h3 => ?_)
    · replace hm := o_t hm h3
      refine z_aload_n (pc' := 14) hM265 rfl rfl rfl ?_
      obtain ⟨z4, s5, h6, hm⟩ := o_c hm
      refine z_cv (d := d + 8) (pc' := 17) hM265 rfl hM156 rfl rfl rfl rfl rfl rfl (c156 (d := d + 7) hG h6) rfl ?_
      refine z_istore_n (pc' := 18) (l' := [some (zr 12 0 209), some (zi x1), some (zi z4)]) hM265 rfl rfl rfl rfl ?_
      refine z_iload_n (pc' := 19) hM265 rfl rfl rfl ?_
      refine z_bipush (pc' := 21) hM265 rfl rfl rfl ?_
      refine z_cmpne (pc' := 24) (t := 47) hM265 rfl rfl (fun h7 => ?_) (fun h7 => ?_)
      · replace hm := o_t hm h7
        refine z_aload_n (pc' := 25) hM265 rfl rfl rfl ?_
        refine z_bipush (pc' := 27) hM265 rfl rfl rfl ?_
        refine z_aload_n (pc' := 28) hM265 rfl rfl rfl ?_
        obtain ⟨z8, ez8, hm⟩ := o_v hm
        refine z_fldI (pc' := 31) hM265 rfl rfl rfl ez8 ?_
        obtain ⟨z9, s10, h11, hm⟩ := o_c hm
        refine z_cvV (d := d + 8) (pc' := 34) hM265 rfl hM249 rfl rfl rfl rfl rfl rfl (c249 (d := d + 6) hG h11) rfl ?_
        refine z_aload_n (pc' := 35) hM265 rfl rfl rfl ?_
        refine z_dupA (pc' := 36) hM265 rfl rfl ?_
        obtain ⟨z12, ez12, hm⟩ := o_v hm
        refine z_fldI (pc' := 39) hM265 rfl rfl rfl ez12 ?_
        refine z_iconst (pc' := 40) hM265 rfl rfl rfl ?_
        obtain ⟨z13, ez13, h14, hm⟩ := o_z hm
        refine z_iadd (pc' := 41) hM265 rfl rfl ez13 h14 ?_
        obtain ⟨s15, es15, hm⟩ := o_v hm
        refine z_putI (pc' := 44) hM265 rfl rfl rfl es15 ?_
        refine z_goto (t := 2) hM265 rfl ?_
        exact ih hm
      · replace hm := o_f hm h7
        refine z_aload_n (pc' := 48) hM265 rfl rfl rfl ?_
        refine z_aload_n (pc' := 49) hM265 rfl rfl rfl ?_
        refine z_fldR (pc' := 52) hM265 rfl (zf_12_83 hG) rfl rfl ?_
        obtain ⟨z16, s17, h18, hm⟩ := o_c hm
        refine z_cv (d := d + 8) (pc' := 55) hM265 rfl hM157 rfl rfl rfl rfl rfl rfl (c157 (d := d + 6) hG h18) rfl ?_
        refine z_ifeq (pc' := 58) (t := 79) hM265 rfl rfl (fun h19 => ?_) (fun h19 => ?_)
        · replace hm := o_t hm h19
          refine z_aload_n (pc' := 80) hM265 rfl rfl rfl ?_
          obtain ⟨z20, s21, h22, hm⟩ := o_c hm
          refine z_cvV (d := d + 8) (pc' := 83) hM265 rfl hM262 rfl rfl rfl rfl rfl rfl (c262 (d := d) hG h22) rfl ?_
          refine z_aload_n (pc' := 84) hM265 rfl rfl rfl ?_
          obtain ⟨z23, s24, h25, hm⟩ := o_c hm
          refine z_cvV (d := d + 8) (pc' := 87) hM265 rfl hM264 rfl rfl rfl rfl rfl rfl (c264 (d := d + 5) hG h25) rfl ?_
          refine z_aload_n (pc' := 88) hM265 rfl rfl rfl ?_
          obtain ⟨z26, ez26, hm⟩ := o_v hm
          refine z_fldI (pc' := 91) hM265 rfl rfl rfl ez26 ?_
          refine z_ifne (pc' := 94) (t := 105) hM265 rfl rfl (fun h27 => ?_) (fun h27 => ?_)
          · replace hm := o_t hm h27
            refine z_aload_n (pc' := 95) hM265 rfl rfl rfl ?_
            obtain ⟨z28, s29, h30, hm⟩ := o_c hm
            refine z_cv (d := d + 8) (pc' := 98) hM265 rfl hM266 rfl rfl rfl rfl rfl rfl (c266 (d := d + 4) hG h30) rfl ?_
            refine z_ifeq (pc' := 101) (t := 105) hM265 rfl rfl (fun h31 => ?_) (fun h31 => ?_)
            · replace hm := o_t hm h31
              refine z_iconst (pc' := 106) hM265 rfl rfl rfl ?_
              refine z_istore_n (pc' := 107) (l' := [some (zr 12 0 209), some (zi (0 : Int)), some (zi z4)]) hM265 rfl rfl rfl rfl ?_
              refine z_goto (t := 2) hM265 rfl ?_
              exact ih hm
            · replace hm := o_f hm h31
              refine z_iconst (pc' := 102) hM265 rfl rfl rfl ?_
              refine z_goto (t := 106) hM265 rfl ?_
              refine z_istore_n (pc' := 107) (l' := [some (zr 12 0 209), some (zi (1 : Int)), some (zi z4)]) hM265 rfl rfl rfl rfl ?_
              refine z_goto (t := 2) hM265 rfl ?_
              exact ih hm
          · replace hm := o_f hm h27
            refine z_iconst (pc' := 106) hM265 rfl rfl rfl ?_
            refine z_istore_n (pc' := 107) (l' := [some (zr 12 0 209), some (zi (0 : Int)), some (zi z4)]) hM265 rfl rfl rfl rfl ?_
            refine z_goto (t := 2) hM265 rfl ?_
            exact ih hm
        · replace hm := o_f hm h19
          refine z_aload_n (pc' := 59) hM265 rfl rfl rfl ?_
          refine z_bipush (pc' := 61) hM265 rfl rfl rfl ?_
          refine z_aload_n (pc' := 62) hM265 rfl rfl rfl ?_
          obtain ⟨z32, ez32, hm⟩ := o_v hm
          refine z_fldI (pc' := 65) hM265 rfl rfl rfl ez32 ?_
          obtain ⟨z33, s34, h35, hm⟩ := o_c hm
          refine z_cvV (d := d + 8) (pc' := 68) hM265 rfl hM249 rfl rfl rfl rfl rfl rfl (c249 (d := d + 6) hG h35) rfl ?_
          refine z_aload_n (pc' := 69) hM265 rfl rfl rfl ?_
          refine z_aload_n (pc' := 70) hM265 rfl rfl rfl ?_
          refine z_fldR (pc' := 73) hM265 rfl (zf_12_83 hG) rfl rfl ?_
          obtain ⟨z36, s37, h38, hm⟩ := o_c hm
          refine z_cvV (d := d + 8) (pc' := 76) hM265 rfl hM159 rfl rfl rfl rfl rfl rfl (c159 (d := d + 4) hG h38) rfl ?_
          refine z_goto (t := 2) hM265 rfl ?_
          exact ih hm
    · replace hm := o_f hm h3
      exact c265_110 hG hm
def m265  (s : zS) : Option (Int × zS) := m265_2 zFu (1 : Int) s
theorem c265 {G : aHp} {d : Nat} (hG : zG G) {s : zS} {r_ : Int} {s_ : zS} (hm : m265  s = some (r_, s_)) : Zp G (d + 9) 265 0 [some (zr 12 0 209), none, none] [] s (zRet none s_) := by
  replace hm : (m265_2 zFu (1 : Int) s) = some (r_, s_) := hm
  refine z_iconst (pc' := 1) hM265 rfl rfl rfl ?_
  refine z_istore_n (pc' := 2) (l' := [some (zr 12 0 209), some (zi (1 : Int)), none]) hM265 rfl rfl rfl rfl ?_
  exact c265_2 hG hm
