/-! ===== methods (by gen_mir.py) ===== -/
def m2_43 (f : Int → Int → Int → Int → zS → Option (Int × zS)) : Nat → Int → Int → Int → Int → Int → zS → Option (Int × zS)
  | 0, _, _, _, _, _, _ => none
  | n + 1, x1, x2, x3, x4, x5, s => if x5 < (8 : Int) then oZ (x1 * (8 : Int)) fun z2 => oZ (z2 + x5) fun z4 => oX z4 48 (oV (s.1 23 z4) fun z6 => if z6 = (-1 : Int) then oZ (x5 + (1 : Int)) fun z9 => m2_43 f n x1 x2 x3 x4 z9 s else oV (zShr x2 x5) fun z11 => oV (zAnd z11 (1 : Int)) fun z12 => if z12 = (0 : Int) then oX x1 6 (oV (sI s 22 x1 x5) fun s14 => oZ (x1 + (1 : Int)) fun z16 => oV (zShl (1 : Int) x5) fun z18 => oV (zOr x2 z18) fun z19 => oZ (x3 + (1 : Int)) fun z20 => oZ (x4 + z6) fun z22 => oC (f z16 z19 z20 z22 s14) fun z24 s25 => oZ (x5 + (1 : Int)) fun z27 => m2_43 f n x1 x2 x3 x4 z27 s25) else oZ (x5 + (1 : Int)) fun z29 => m2_43 f n x1 x2 x3 x4 z29 s) else some (0, s)
theorem c2_43 {G : aHp} {d : Nat} {f : Int → Int → Int → Int → zS → Option (Int × zS)} (hf : ∀ {x1 : Int} {x2 : Int} {x3 : Int} {x4 : Int} {s : zS} {r_ : Int} {s_ : zS}, f x1 x2 x3 x4 s = some (r_, s_) → Zp G d 2 0 [some (zr 0 0 20), some (zi x1), some (zi x2), some (zi x3), some (zi x4), none, none] [] s (zRet none s_)) (hG : zG G) : ∀ {n : Nat} {x1 : Int} {x2 : Int} {x3 : Int} {x4 : Int} {x5 : Int} {d6 : Option zV} {s : zS} {r_ : Int} {s_ : zS}, m2_43 f n x1 x2 x3 x4 x5 s = some (r_, s_) → Zp G (d + 6) 2 43 [some (zr 0 0 20), some (zi x1), some (zi x2), some (zi x3), some (zi x4), some (zi x5), d6] [] s (zRet none s_) := by
  intro n
  induction n with
  | zero => intro x1 x2 x3 x4 x5 d6 s r_ s_ hm; cases hm
  | succ n ih =>
  intro x1 x2 x3 x4 x5 d6 s r_ s_ hm
  replace hm : (if x5 < (8 : Int) then oZ (x1 * (8 : Int)) fun z2 => oZ (z2 + x5) fun z4 => oX z4 48 (oV (s.1 23 z4) fun z6 => if z6 = (-1 : Int) then oZ (x5 + (1 : Int)) fun z9 => m2_43 f n x1 x2 x3 x4 z9 s else oV (zShr x2 x5) fun z11 => oV (zAnd z11 (1 : Int)) fun z12 => if z12 = (0 : Int) then oX x1 6 (oV (sI s 22 x1 x5) fun s14 => oZ (x1 + (1 : Int)) fun z16 => oV (zShl (1 : Int) x5) fun z18 => oV (zOr x2 z18) fun z19 => oZ (x3 + (1 : Int)) fun z20 => oZ (x4 + z6) fun z22 => oC (f z16 z19 z20 z22 s14) fun z24 s25 => oZ (x5 + (1 : Int)) fun z27 => m2_43 f n x1 x2 x3 x4 z27 s25) else oZ (x5 + (1 : Int)) fun z29 => m2_43 f n x1 x2 x3 x4 z29 s) else some (0, s)) = some (r_, s_) := hm
  refine z_iload (pc' := 45) hM2 rfl rfl rfl ?_
  refine z_bipush (pc' := 47) hM2 rfl rfl rfl ?_
  refine z_cmpge (pc' := 50) (t := 114) hM2 rfl rfl (fun h1 => ?_) (fun h1 => ?_)
  · replace hm := o_t hm h1
    refine z_aload_n (pc' := 51) hM2 rfl rfl rfl ?_
    refine z_fldR (pc' := 54) hM2 rfl (zf_0_3 hG) rfl rfl ?_
    refine z_iload_n (pc' := 55) hM2 rfl rfl rfl ?_
    refine z_bipush (pc' := 57) hM2 rfl rfl rfl ?_
    obtain ⟨z2, ez2, h3, hm⟩ := o_z hm
    refine z_imul (pc' := 58) hM2 rfl rfl ez2 h3 ?_
    refine z_iload (pc' := 60) hM2 rfl rfl rfl ?_
    obtain ⟨z4, ez4, h5, hm⟩ := o_z hm
    refine z_iadd (pc' := 61) hM2 rfl rfl ez4 h5 ?_
    obtain ⟨h7, hm⟩ := o_x hm
    obtain ⟨z6, ez6, hm⟩ := o_v hm
    refine z_iald (pc' := 62) (zGN hG) hM2 rfl rfl h7 ez6 ?_
    refine z_istore (pc' := 64) (l' := [some (zr 0 0 20), some (zi x1), some (zi x2), some (zi x3), some (zi x4), some (zi x5), some (zi z6)]) hM2 rfl rfl rfl rfl ?_
    refine z_iload (pc' := 66) hM2 rfl rfl rfl ?_
    refine z_iconst (pc' := 67) hM2 rfl rfl rfl ?_
    refine z_cmpeq (pc' := 70) (t := 108) hM2 rfl rfl (fun h8 => ?_) (fun h8 => ?_)
    · replace hm := o_t hm h8
      obtain ⟨z9, ez9, h10, hm⟩ := o_z hm
      refine z_iinc (pc' := 111) (l' := [some (zr 0 0 20), some (zi x1), some (zi x2), some (zi x3), some (zi x4), some (zi z9), some (zi z6)]) hM2 rfl rfl rfl ez9 h10 rfl rfl ?_
      refine z_goto (t := 43) hM2 rfl ?_
      exact ih hm
    · replace hm := o_f hm h8
      refine z_iload_n (pc' := 71) hM2 rfl rfl rfl ?_
      refine z_iload (pc' := 73) hM2 rfl rfl rfl ?_
      obtain ⟨z11, ez11, hm⟩ := o_v hm
      refine z_ishr (pc' := 74) hM2 rfl rfl ez11 ?_
      refine z_iconst (pc' := 75) hM2 rfl rfl rfl ?_
      obtain ⟨z12, ez12, hm⟩ := o_v hm
      refine z_iand (pc' := 76) hM2 rfl rfl ez12 ?_
      refine z_ifne (pc' := 79) (t := 108) hM2 rfl rfl (fun h13 => ?_) (fun h13 => ?_)
      · replace hm := o_t hm h13
        refine z_aload_n (pc' := 80) hM2 rfl rfl rfl ?_
        refine z_fldR (pc' := 83) hM2 rfl (zf_0_2 hG) rfl rfl ?_
        refine z_iload_n (pc' := 84) hM2 rfl rfl rfl ?_
        refine z_iload (pc' := 86) hM2 rfl rfl rfl ?_
        obtain ⟨h15, hm⟩ := o_x hm
        obtain ⟨s14, es14, hm⟩ := o_v hm
        refine z_iast (pc' := 87) hM2 rfl rfl h15 es14 ?_
        refine z_aload_n (pc' := 88) hM2 rfl rfl rfl ?_
        refine z_iload_n (pc' := 89) hM2 rfl rfl rfl ?_
        refine z_iconst (pc' := 90) hM2 rfl rfl rfl ?_
        obtain ⟨z16, ez16, h17, hm⟩ := o_z hm
        refine z_iadd (pc' := 91) hM2 rfl rfl ez16 h17 ?_
        refine z_iload_n (pc' := 92) hM2 rfl rfl rfl ?_
        refine z_iconst (pc' := 93) hM2 rfl rfl rfl ?_
        refine z_iload (pc' := 95) hM2 rfl rfl rfl ?_
        obtain ⟨z18, ez18, hm⟩ := o_v hm
        refine z_ishl (pc' := 96) hM2 rfl rfl ez18 ?_
        obtain ⟨z19, ez19, hm⟩ := o_v hm
        refine z_ior (pc' := 97) hM2 rfl rfl ez19 ?_
        refine z_iload_n (pc' := 98) hM2 rfl rfl rfl ?_
        refine z_iconst (pc' := 99) hM2 rfl rfl rfl ?_
        obtain ⟨z20, ez20, h21, hm⟩ := o_z hm
        refine z_iadd (pc' := 100) hM2 rfl rfl ez20 h21 ?_
        refine z_iload (pc' := 102) hM2 rfl rfl rfl ?_
        refine z_iload (pc' := 104) hM2 rfl rfl rfl ?_
        obtain ⟨z22, ez22, h23, hm⟩ := o_z hm
        refine z_iadd (pc' := 105) hM2 rfl rfl ez22 h23 ?_
        obtain ⟨z24, s25, h26, hm⟩ := o_c hm
        refine z_cvV (d := d + 5) (pc' := 108) hM2 rfl hM2 rfl rfl rfl rfl rfl rfl (z_up (by omega) (hf h26)) rfl ?_
        obtain ⟨z27, ez27, h28, hm⟩ := o_z hm
        refine z_iinc (pc' := 111) (l' := [some (zr 0 0 20), some (zi x1), some (zi x2), some (zi x3), some (zi x4), some (zi z27), some (zi z6)]) hM2 rfl rfl rfl ez27 h28 rfl rfl ?_
        refine z_goto (t := 43) hM2 rfl ?_
        exact ih hm
      · replace hm := o_f hm h13
        obtain ⟨z29, ez29, h30, hm⟩ := o_z hm
        refine z_iinc (pc' := 111) (l' := [some (zr 0 0 20), some (zi x1), some (zi x2), some (zi x3), some (zi x4), some (zi z29), some (zi z6)]) hM2 rfl rfl rfl ez29 h30 rfl rfl ?_
        refine z_goto (t := 43) hM2 rfl ?_
        exact ih hm
  · replace hm := o_f hm h1
    cases hm
    exact z_retV hM2 rfl rfl ⟨rfl, rfl⟩
def m2 (f : Int → Int → Int → Int → zS → Option (Int × zS)) (x1 : Int) (x2 : Int) (x3 : Int) (x4 : Int) (s : zS) : Option (Int × zS) := oV (s.1 20 5) fun z1 => if x1 < z1 then if x1 < (6 : Int) then oX x1 6 (oV (sI s 22 x1 (-1 : Int)) fun s4 => oZ (x1 + (1 : Int)) fun z6 => oC (f z6 x2 x3 x4 s4) fun z8 s9 => m2_43 f zFu x1 x2 x3 x4 (0 : Int) s9) else oC (m3 x3 x4 s) fun z11 s12 => some (0, s12) else oC (m3 x3 x4 s) fun z14 s15 => some (0, s15)
theorem c2 {G : aHp} {d : Nat} {f : Int → Int → Int → Int → zS → Option (Int × zS)} (hf : ∀ {x1 : Int} {x2 : Int} {x3 : Int} {x4 : Int} {s : zS} {r_ : Int} {s_ : zS}, f x1 x2 x3 x4 s = some (r_, s_) → Zp G d 2 0 [some (zr 0 0 20), some (zi x1), some (zi x2), some (zi x3), some (zi x4), none, none] [] s (zRet none s_)) (hG : zG G) {x1 : Int} {x2 : Int} {x3 : Int} {x4 : Int} {s : zS} {r_ : Int} {s_ : zS} (hm : m2 f x1 x2 x3 x4 s = some (r_, s_)) : Zp G (d + 6) 2 0 [some (zr 0 0 20), some (zi x1), some (zi x2), some (zi x3), some (zi x4), none, none] [] s (zRet none s_) := by
  replace hm : (oV (s.1 20 5) fun z1 => if x1 < z1 then if x1 < (6 : Int) then oX x1 6 (oV (sI s 22 x1 (-1 : Int)) fun s4 => oZ (x1 + (1 : Int)) fun z6 => oC (f z6 x2 x3 x4 s4) fun z8 s9 => m2_43 f zFu x1 x2 x3 x4 (0 : Int) s9) else oC (m3 x3 x4 s) fun z11 s12 => some (0, s12) else oC (m3 x3 x4 s) fun z14 s15 => some (0, s15)) = some (r_, s_) := hm
  refine z_iload_n (pc' := 1) hM2 rfl rfl rfl ?_
  refine z_aload_n (pc' := 2) hM2 rfl rfl rfl ?_
  obtain ⟨z1, ez1, hm⟩ := o_v hm
  refine z_fldI (pc' := 5) hM2 rfl rfl rfl ez1 ?_
  refine z_cmpge (pc' := 8) (t := 14) hM2 rfl rfl (fun h2 => ?_) (fun h2 => ?_)
  · replace hm := o_t hm h2
    refine z_iload_n (pc' := 9) hM2 rfl rfl rfl ?_
    refine z_bipush (pc' := 11) hM2 rfl rfl rfl ?_
    refine z_cmplt (pc' := 14) (t := 22) hM2 rfl rfl (fun h3 => ?_) (fun h3 => ?_)
    · replace hm := o_t hm h3
      refine z_aload_n (pc' := 23) hM2 rfl rfl rfl ?_
      refine z_fldR (pc' := 26) hM2 rfl (zf_0_2 hG) rfl rfl ?_
      refine z_iload_n (pc' := 27) hM2 rfl rfl rfl ?_
      refine z_iconst (pc' := 28) hM2 rfl rfl rfl ?_
      obtain ⟨h5, hm⟩ := o_x hm
      obtain ⟨s4, es4, hm⟩ := o_v hm
      refine z_iast (pc' := 29) hM2 rfl rfl h5 es4 ?_
      refine z_aload_n (pc' := 30) hM2 rfl rfl rfl ?_
      refine z_iload_n (pc' := 31) hM2 rfl rfl rfl ?_
      refine z_iconst (pc' := 32) hM2 rfl rfl rfl ?_
      obtain ⟨z6, ez6, h7, hm⟩ := o_z hm
      refine z_iadd (pc' := 33) hM2 rfl rfl ez6 h7 ?_
      refine z_iload_n (pc' := 34) hM2 rfl rfl rfl ?_
      refine z_iload_n (pc' := 35) hM2 rfl rfl rfl ?_
      refine z_iload (pc' := 37) hM2 rfl rfl rfl ?_
      obtain ⟨z8, s9, h10, hm⟩ := o_c hm
      refine z_cvV (d := d + 5) (pc' := 40) hM2 rfl hM2 rfl rfl rfl rfl rfl rfl (z_up (by omega) (hf h10)) rfl ?_
      refine z_iconst (pc' := 41) hM2 rfl rfl rfl ?_
      refine z_istore (pc' := 43) (l' := [some (zr 0 0 20), some (zi x1), some (zi x2), some (zi x3), some (zi x4), some (zi (0 : Int)), none]) hM2 rfl rfl rfl rfl ?_
      exact c2_43 hf hG hm
    · replace hm := o_f hm h3
      refine z_aload_n (pc' := 15) hM2 rfl rfl rfl ?_
      refine z_iload_n (pc' := 16) hM2 rfl rfl rfl ?_
      refine z_iload (pc' := 18) hM2 rfl rfl rfl ?_
      obtain ⟨z11, s12, h13, hm⟩ := o_c hm
      refine z_cvV (d := d + 5) (pc' := 21) hM2 rfl hM3 rfl rfl rfl rfl rfl rfl (c3 (d := d) hG h13) rfl ?_
      cases hm
      exact z_retV hM2 rfl rfl ⟨rfl, rfl⟩
  · replace hm := o_f hm h2
    refine z_aload_n (pc' := 15) hM2 rfl rfl rfl ?_
    refine z_iload_n (pc' := 16) hM2 rfl rfl rfl ?_
    refine z_iload (pc' := 18) hM2 rfl rfl rfl ?_
    obtain ⟨z14, s15, h16, hm⟩ := o_c hm
    refine z_cvV (d := d + 5) (pc' := 21) hM2 rfl hM3 rfl rfl rfl rfl rfl rfl (c3 (d := d) hG h16) rfl ?_
    cases hm
    exact z_retV hM2 rfl rfl ⟨rfl, rfl⟩
def M2 : Nat → Int → Int → Int → Int → zS → Option (Int × zS)
  | 0 => fun _ _ _ _ _ => none
  | n + 1 => m2 (M2 n)
theorem C2 {G : aHp} (hG : zG G) : ∀ (n : Nat) {x1 : Int} {x2 : Int} {x3 : Int} {x4 : Int} {s : zS} {r_ : Int} {s_ : zS}, M2 n x1 x2 x3 x4 s = some (r_, s_) → Zp G (8 + 6 * n) 2 0 [some (zr 0 0 20), some (zi x1), some (zi x2), some (zi x3), some (zi x4), none, none] [] s (zRet none s_) := by
  intro n
  induction n with
  | zero => intro x1 x2 x3 x4 s r_ s_ hm; cases hm
  | succ n ih =>
  intro x1 x2 x3 x4 s r_ s_ hm
  exact c2 ih hG hm
def m1_34 (k22_ : Nat → Nat → Int → zS → Option (Int × zS)) : Nat → Nat → Nat → Int → Int → zS → Option (Int × zS)
  | 0, _, _, _, _, _ => none
  | n + 1, a1, a2, x4, x5, s => oX x4 6 (oV (s.1 (a1 + 3) x4) fun z1 => if z1 = (-1 : Int) then oV (s.1 a1 5) fun z4 => if x5 < z4 then oX x5 8 (oV (s.1 (a1 + 5) x5) fun z6 => oX x4 6 (oV (s.1 (a2 + 14) x4) fun z8 => oZ (x4 * (8 : Int)) fun z10 => oZ (z10 + z6) fun z12 => oC (m99 a1 x4 z6 z6 z8 s) fun z14 s15 => oX z12 48 (oV (sI s15 23 z12 z14) fun s17 => oZ (x5 + (1 : Int)) fun z19 => m1_34 k22_ n a1 a2 x4 z19 s17))) else oZ (x4 + (1 : Int)) fun z21 => k22_ a1 a2 z21 s else oZ (x4 + (1 : Int)) fun z23 => k22_ a1 a2 z23 s)
theorem c1_34 {G : aHp} {d : Nat} {k22_ : Nat → Nat → Int → zS → Option (Int × zS)} (hG : zG G) (hk22 : ∀ {a1 : Nat} {a2 : Nat} {x4 : Int} {d5 d6 d7 : Option zV} {s : zS} {r_ : Int} {s_ : zS}, k22_ a1 a2 x4 s = some (r_, s_) → Zp G (d + 57) 1 22 [some (zr 0 0 20), some (zr 7 0 a1), some (zr 5 0 a2), some (zr 10 0 12), some (zi x4), d5, d6, d7] [] s (zRet none s_)) : ∀ {n : Nat} {a1 : Nat} {a2 : Nat} {x4 : Int} {x5 : Int} {d6 d7 : Option zV} {s : zS} {r_ : Int} {s_ : zS}, m1_34 k22_ n a1 a2 x4 x5 s = some (r_, s_) → Zp G (d + 57) 1 34 [some (zr 0 0 20), some (zr 7 0 a1), some (zr 5 0 a2), some (zr 10 0 12), some (zi x4), some (zi x5), d6, d7] [] s (zRet none s_) := by
  intro n
  induction n with
  | zero => intro a1 a2 x4 x5 d6 d7 s r_ s_ hm; cases hm
  | succ n ih =>
  intro a1 a2 x4 x5 d6 d7 s r_ s_ hm
  replace hm : (oX x4 6 (oV (s.1 (a1 + 3) x4) fun z1 => if z1 = (-1 : Int) then oV (s.1 a1 5) fun z4 => if x5 < z4 then oX x5 8 (oV (s.1 (a1 + 5) x5) fun z6 => oX x4 6 (oV (s.1 (a2 + 14) x4) fun z8 => oZ (x4 * (8 : Int)) fun z10 => oZ (z10 + z6) fun z12 => oC (m99 a1 x4 z6 z6 z8 s) fun z14 s15 => oX z12 48 (oV (sI s15 23 z12 z14) fun s17 => oZ (x5 + (1 : Int)) fun z19 => m1_34 k22_ n a1 a2 x4 z19 s17))) else oZ (x4 + (1 : Int)) fun z21 => k22_ a1 a2 z21 s else oZ (x4 + (1 : Int)) fun z23 => k22_ a1 a2 z23 s)) = some (r_, s_) := hm
  refine z_aload_n (pc' := 35) hM1 rfl rfl rfl ?_
  refine z_fldR (pc' := 38) hM1 rfl (zf_7_2 hG) rfl rfl ?_
  refine z_iload (pc' := 40) hM1 rfl rfl rfl ?_
  obtain ⟨h2, hm⟩ := o_x hm
  obtain ⟨z1, ez1, hm⟩ := o_v hm
  refine z_iald (pc' := 41) (zGN hG) hM1 rfl rfl h2 ez1 ?_
  refine z_iconst (pc' := 42) hM1 rfl rfl rfl ?_
  refine z_cmpne (pc' := 45) (t := 104) hM1 rfl rfl (fun h3 => ?_) (fun h3 => ?_)
  · replace hm := o_t hm h3
    refine z_iload (pc' := 47) hM1 rfl rfl rfl ?_
    refine z_aload_n (pc' := 48) hM1 rfl rfl rfl ?_
    obtain ⟨z4, ez4, hm⟩ := o_v hm
    refine z_fldI (pc' := 51) hM1 rfl rfl rfl ez4 ?_
    refine z_cmpge (pc' := 54) (t := 104) hM1 rfl rfl (fun h5 => ?_) (fun h5 => ?_)
    · replace hm := o_t hm h5
      refine z_aload_n (pc' := 55) hM1 rfl rfl rfl ?_
      refine z_fldR (pc' := 58) hM1 rfl (zf_7_4 hG) rfl rfl ?_
      refine z_iload (pc' := 60) hM1 rfl rfl rfl ?_
      obtain ⟨h7, hm⟩ := o_x hm
      obtain ⟨z6, ez6, hm⟩ := o_v hm
      refine z_iald (pc' := 61) (zGN hG) hM1 rfl rfl h7 ez6 ?_
      refine z_istore (pc' := 63) (l' := [some (zr 0 0 20), some (zr 7 0 a1), some (zr 5 0 a2), some (zr 10 0 12), some (zi x4), some (zi x5), some (zi z6), d7]) hM1 rfl rfl rfl rfl ?_
      refine z_aload_n (pc' := 64) hM1 rfl rfl rfl ?_
      refine z_fldR (pc' := 67) hM1 rfl (zf_5_10 hG) rfl rfl ?_
      refine z_iload (pc' := 69) hM1 rfl rfl rfl ?_
      obtain ⟨h9, hm⟩ := o_x hm
      obtain ⟨z8, ez8, hm⟩ := o_v hm
      refine z_iald (pc' := 70) (zGN hG) hM1 rfl rfl h9 ez8 ?_
      refine z_istore (pc' := 72) (l' := [some (zr 0 0 20), some (zr 7 0 a1), some (zr 5 0 a2), some (zr 10 0 12), some (zi x4), some (zi x5), some (zi z6), some (zi z8)]) hM1 rfl rfl rfl rfl ?_
      refine z_aload_n (pc' := 73) hM1 rfl rfl rfl ?_
      refine z_fldR (pc' := 76) hM1 rfl (zf_0_3 hG) rfl rfl ?_
      refine z_iload (pc' := 78) hM1 rfl rfl rfl ?_
      refine z_bipush (pc' := 80) hM1 rfl rfl rfl ?_
      obtain ⟨z10, ez10, h11, hm⟩ := o_z hm
      refine z_imul (pc' := 81) hM1 rfl rfl ez10 h11 ?_
      refine z_iload (pc' := 83) hM1 rfl rfl rfl ?_
      obtain ⟨z12, ez12, h13, hm⟩ := o_z hm
      refine z_iadd (pc' := 84) hM1 rfl rfl ez12 h13 ?_
      refine z_aload_n (pc' := 85) hM1 rfl rfl rfl ?_
      refine z_aload_n (pc' := 86) hM1 rfl rfl rfl ?_
      refine z_iload (pc' := 88) hM1 rfl rfl rfl ?_
      refine z_iload (pc' := 90) hM1 rfl rfl rfl ?_
      refine z_iload (pc' := 92) hM1 rfl rfl rfl ?_
      refine z_iload (pc' := 94) hM1 rfl rfl rfl ?_
      obtain ⟨z14, s15, h16, hm⟩ := o_c hm
      refine z_cv (d := d + 56) (pc' := 97) hM1 rfl hM99 rfl rfl rfl rfl rfl rfl (c99 (d := d + 50) hG h16) rfl ?_
      obtain ⟨h18, hm⟩ := o_x hm
      obtain ⟨s17, es17, hm⟩ := o_v hm
      refine z_iast (pc' := 98) hM1 rfl rfl h18 es17 ?_
      obtain ⟨z19, ez19, h20, hm⟩ := o_z hm
      refine z_iinc (pc' := 101) (l' := [some (zr 0 0 20), some (zr 7 0 a1), some (zr 5 0 a2), some (zr 10 0 12), some (zi x4), some (zi z19), some (zi z6), some (zi z8)]) hM1 rfl rfl rfl ez19 h20 rfl rfl ?_
      refine z_goto (t := 34) hM1 rfl ?_
      exact ih hm
    · replace hm := o_f hm h5
      obtain ⟨z21, ez21, h22, hm⟩ := o_z hm
      refine z_iinc (pc' := 107) (l' := [some (zr 0 0 20), some (zr 7 0 a1), some (zr 5 0 a2), some (zr 10 0 12), some (zi z21), some (zi x5), d6, d7]) hM1 rfl rfl rfl ez21 h22 rfl rfl ?_
      refine z_goto (t := 22) hM1 rfl ?_
      exact hk22 hm
  · replace hm := o_f hm h3
    obtain ⟨z23, ez23, h24, hm⟩ := o_z hm
    refine z_iinc (pc' := 107) (l' := [some (zr 0 0 20), some (zr 7 0 a1), some (zr 5 0 a2), some (zr 10 0 12), some (zi z23), some (zi x5), d6, d7]) hM1 rfl rfl rfl ez23 h24 rfl rfl ?_
    refine z_goto (t := 22) hM1 rfl ?_
    exact hk22 hm
def m1_22 : Nat → Nat → Nat → Int → zS → Option (Int × zS)
  | 0, _, _, _, _ => none
  | n + 1, a1, a2, x4, s => oV (s.1 20 5) fun z1 => if x4 < z1 then m1_34 (m1_22 n) zFu a1 a2 x4 (0 : Int) s else oV (sI s 20 1 (-1 : Int)) fun s3 => oV (sI s3 20 4 (0 : Int)) fun s4 => oC (M2 zRf2 (0 : Int) (0 : Int) (0 : Int) (0 : Int) s4) fun z5 s6 => some (0, s6)
theorem c1_22 {G : aHp} {d : Nat} (hG : zG G) : ∀ {n : Nat} {a1 : Nat} {a2 : Nat} {x4 : Int} {d5 d6 d7 : Option zV} {s : zS} {r_ : Int} {s_ : zS}, m1_22 n a1 a2 x4 s = some (r_, s_) → Zp G (d + 57) 1 22 [some (zr 0 0 20), some (zr 7 0 a1), some (zr 5 0 a2), some (zr 10 0 12), some (zi x4), d5, d6, d7] [] s (zRet none s_) := by
  intro n
  induction n with
  | zero => intro a1 a2 x4 d5 d6 d7 s r_ s_ hm; cases hm
  | succ n ih =>
  intro a1 a2 x4 d5 d6 d7 s r_ s_ hm
  replace hm : (oV (s.1 20 5) fun z1 => if x4 < z1 then m1_34 (m1_22 n) zFu a1 a2 x4 (0 : Int) s else oV (sI s 20 1 (-1 : Int)) fun s3 => oV (sI s3 20 4 (0 : Int)) fun s4 => oC (M2 zRf2 (0 : Int) (0 : Int) (0 : Int) (0 : Int) s4) fun z5 s6 => some (0, s6)) = some (r_, s_) := hm
  refine z_iload (pc' := 24) hM1 rfl rfl rfl ?_
  refine z_aload_n (pc' := 25) hM1 rfl rfl rfl ?_
  obtain ⟨z1, ez1, hm⟩ := o_v hm
  refine z_fldI (pc' := 28) hM1 rfl rfl rfl ez1 ?_
  refine z_cmpge (pc' := 31) (t := 110) hM1 rfl rfl (fun h2 => ?_) (fun h2 => ?_)
  · replace hm := o_t hm h2
    refine z_iconst (pc' := 32) hM1 rfl rfl rfl ?_
    refine z_istore (pc' := 34) (l' := [some (zr 0 0 20), some (zr 7 0 a1), some (zr 5 0 a2), some (zr 10 0 12), some (zi x4), some (zi (0 : Int)), d6, d7]) hM1 rfl rfl rfl rfl ?_
    exact c1_34 hG ih hm
  · replace hm := o_f hm h2
    refine z_aload_n (pc' := 111) hM1 rfl rfl rfl ?_
    refine z_iconst (pc' := 112) hM1 rfl rfl rfl ?_
    obtain ⟨s3, es3, hm⟩ := o_v hm
    refine z_putI (pc' := 115) hM1 rfl rfl rfl es3 ?_
    refine z_aload_n (pc' := 116) hM1 rfl rfl rfl ?_
    refine z_iconst (pc' := 117) hM1 rfl rfl rfl ?_
    obtain ⟨s4, es4, hm⟩ := o_v hm
    refine z_putI (pc' := 120) hM1 rfl rfl rfl es4 ?_
    refine z_aload_n (pc' := 121) hM1 rfl rfl rfl ?_
    refine z_iconst (pc' := 122) hM1 rfl rfl rfl ?_
    refine z_iconst (pc' := 123) hM1 rfl rfl rfl ?_
    refine z_iconst (pc' := 124) hM1 rfl rfl rfl ?_
    refine z_iconst (pc' := 125) hM1 rfl rfl rfl ?_
    obtain ⟨z5, s6, h7, hm⟩ := o_c hm
    refine z_cvV (d := d + 56) (pc' := 128) hM1 rfl hM2 rfl rfl rfl rfl rfl rfl (z_up (by unfold zRf2; omega) (C2 hG zRf2 h7)) rfl ?_
    cases hm
    exact z_retV hM1 rfl rfl ⟨rfl, rfl⟩
def m1 (a1 : Nat) (a2 : Nat) (s : zS) : Option (Int × zS) := oV (s.1 (a2 + 5) 0) fun z1 => oV (sI s 20 5 z1) fun s2 => oC (m293 48 23 (-1 : Int) s2) fun z3 s4 => m1_22 zFu a1 a2 (0 : Int) s4
theorem c1 {G : aHp} {d : Nat} (hG : zG G) {a1 : Nat} {a2 : Nat} {s : zS} {r_ : Int} {s_ : zS} (hm : m1 a1 a2 s = some (r_, s_)) : Zp G (d + 57) 1 0 [some (zr 0 0 20), some (zr 7 0 a1), some (zr 5 0 a2), some (zr 10 0 12), none, none, none, none] [] s (zRet none s_) := by
  replace hm : (oV (s.1 (a2 + 5) 0) fun z1 => oV (sI s 20 5 z1) fun s2 => oC (m293 48 23 (-1 : Int) s2) fun z3 s4 => m1_22 zFu a1 a2 (0 : Int) s4) = some (r_, s_) := hm
  refine z_aload_n (pc' := 1) hM1 rfl rfl rfl ?_
  refine z_aload_n (pc' := 2) hM1 rfl rfl rfl ?_
  refine z_fldR (pc' := 5) hM1 rfl (zf_5_2 hG) rfl rfl ?_
  obtain ⟨z1, ez1, hm⟩ := o_v hm
  refine z_fldI (pc' := 8) hM1 rfl rfl rfl ez1 ?_
  obtain ⟨s2, es2, hm⟩ := o_v hm
  refine z_putI (pc' := 11) hM1 rfl rfl rfl es2 ?_
  refine z_aload_n (pc' := 12) hM1 rfl rfl rfl ?_
  refine z_fldR (pc' := 15) hM1 rfl (zf_0_3 hG) rfl rfl ?_
  refine z_iconst (pc' := 16) hM1 rfl rfl rfl ?_
  obtain ⟨z3, s4, h5, hm⟩ := o_c hm
  refine z_csV (d := d + 56) (pc' := 19) hM1 rfl hM293 rfl rfl rfl rfl (c293 (d := d + 55) hG h5) rfl ?_
  refine z_iconst (pc' := 20) hM1 rfl rfl rfl ?_
  refine z_istore (pc' := 22) (l' := [some (zr 0 0 20), some (zr 7 0 a1), some (zr 5 0 a2), some (zr 10 0 12), some (zi (0 : Int)), none, none, none]) hM1 rfl rfl rfl rfl ?_
  exact c1_22 hG hm
def m6_4 : Nat → Nat → Int → Int → zS → Option (Int × zS)
  | 0, _, _, _, _ => none
  | n + 1, a1, x2, x3, s => oV (s.2.2 3) fun w1 => oV (s.2.2 3) fun w2 => oV (s.1 (w2 + 5) 0) fun z3 => if x3 < z3 then oC (m5 a1 x3 s) fun z5 s6 => if z5 = (0 : Int) then oZ (x3 + (1 : Int)) fun z9 => m6_4 n a1 x2 z9 s6 else oZ (x2 + (1 : Int)) fun z11 => oZ (x3 + (1 : Int)) fun z13 => m6_4 n a1 z11 z13 s6 else some (x2, s)
theorem c6_4 {G : aHp} {d : Nat} (hG : zG G) : ∀ {n : Nat} {a1 : Nat} {x2 : Int} {x3 : Int} {s : zS} {r_ : Int} {s_ : zS}, m6_4 n a1 x2 x3 s = some (r_, s_) → Zp G (d + 2) 6 4 [some (zr 1 0 10), some (zr 7 0 a1), some (zi x2), some (zi x3)] [] s (zRet (some (zi r_)) s_) := by
  intro n
  induction n with
  | zero => intro a1 x2 x3 s r_ s_ hm; cases hm
  | succ n ih =>
  intro a1 x2 x3 s r_ s_ hm
  replace hm : (oV (s.2.2 3) fun w1 => oV (s.2.2 3) fun w2 => oV (s.1 (w2 + 5) 0) fun z3 => if x3 < z3 then oC (m5 a1 x3 s) fun z5 s6 => if z5 = (0 : Int) then oZ (x3 + (1 : Int)) fun z9 => m6_4 n a1 x2 z9 s6 else oZ (x2 + (1 : Int)) fun z11 => oZ (x3 + (1 : Int)) fun z13 => m6_4 n a1 z11 z13 s6 else some (x2, s)) = some (r_, s_) := hm
  refine z_aload_n (pc' := 5) hM6 rfl rfl rfl ?_
  obtain ⟨w1, ew1, hm⟩ := o_v hm
  refine z_fldM (pc' := 8) (q := 2) hG.2.1 hM6 rfl rfl (Or.inr (Or.inr rfl)) rfl rfl ew1 ?_
  refine z_ifnull (pc' := 11) hM6 rfl rfl ?_
  refine z_iload_n (pc' := 12) hM6 rfl rfl rfl ?_
  refine z_aload_n (pc' := 13) hM6 rfl rfl rfl ?_
  obtain ⟨w2, ew2, hm⟩ := o_v hm
  refine z_fldM (pc' := 16) (q := 2) hG.2.1 hM6 rfl rfl (Or.inr (Or.inr rfl)) rfl rfl ew2 ?_
  refine z_fldR (pc' := 19) hM6 rfl (zf_5_2 hG) rfl rfl ?_
  obtain ⟨z3, ez3, hm⟩ := o_v hm
  refine z_fldI (pc' := 22) hM6 rfl rfl rfl ez3 ?_
  refine z_cmpge (pc' := 25) (t := 43) hM6 rfl rfl (fun h4 => ?_) (fun h4 => ?_)
  · replace hm := o_t hm h4
    refine z_aload_n (pc' := 26) hM6 rfl rfl rfl ?_
    refine z_aload_n (pc' := 27) hM6 rfl rfl rfl ?_
    refine z_iload_n (pc' := 28) hM6 rfl rfl rfl ?_
    obtain ⟨z5, s6, h7, hm⟩ := o_c hm
    refine z_cv (d := d + 1) (pc' := 31) hM6 rfl hM5 rfl rfl rfl rfl rfl rfl (c5 (d := d) hG h7) rfl ?_
    refine z_ifeq (pc' := 34) (t := 37) hM6 rfl rfl (fun h8 => ?_) (fun h8 => ?_)
    · replace hm := o_t hm h8
      obtain ⟨z9, ez9, h10, hm⟩ := o_z hm
      refine z_iinc (pc' := 40) (l' := [some (zr 1 0 10), some (zr 7 0 a1), some (zi x2), some (zi z9)]) hM6 rfl rfl rfl ez9 h10 rfl rfl ?_
      refine z_goto (t := 4) hM6 rfl ?_
      exact ih hm
    · replace hm := o_f hm h8
      obtain ⟨z11, ez11, h12, hm⟩ := o_z hm
      refine z_iinc (pc' := 37) (l' := [some (zr 1 0 10), some (zr 7 0 a1), some (zi z11), some (zi x3)]) hM6 rfl rfl rfl ez11 h12 rfl rfl ?_
      obtain ⟨z13, ez13, h14, hm⟩ := o_z hm
      refine z_iinc (pc' := 40) (l' := [some (zr 1 0 10), some (zr 7 0 a1), some (zi z11), some (zi z13)]) hM6 rfl rfl rfl ez13 h14 rfl rfl ?_
      refine z_goto (t := 4) hM6 rfl ?_
      exact ih hm
  · replace hm := o_f hm h4
    refine z_iload_n (pc' := 44) hM6 rfl rfl rfl ?_
    cases hm
    exact z_retI hM6 rfl rfl ⟨rfl, rfl⟩
def m6 (a1 : Nat) (s : zS) : Option (Int × zS) := m6_4 zFu a1 (0 : Int) (0 : Int) s
theorem c6 {G : aHp} {d : Nat} (hG : zG G) {a1 : Nat} {s : zS} {r_ : Int} {s_ : zS} (hm : m6 a1 s = some (r_, s_)) : Zp G (d + 2) 6 0 [some (zr 1 0 10), some (zr 7 0 a1), none, none] [] s (zRet (some (zi r_)) s_) := by
  replace hm : (m6_4 zFu a1 (0 : Int) (0 : Int) s) = some (r_, s_) := hm
  refine z_iconst (pc' := 1) hM6 rfl rfl rfl ?_
  refine z_istore_n (pc' := 2) (l' := [some (zr 1 0 10), some (zr 7 0 a1), some (zi (0 : Int)), none]) hM6 rfl rfl rfl rfl ?_
  refine z_iconst (pc' := 3) hM6 rfl rfl rfl ?_
  refine z_istore_n (pc' := 4) (l' := [some (zr 1 0 10), some (zr 7 0 a1), some (zi (0 : Int)), some (zi (0 : Int))]) hM6 rfl rfl rfl rfl ?_
  exact c6_4 hG hm
def m7_31 : Nat → Nat → Int → Int → Int → zS → Option (Int × zS)
  | 0, _, _, _, _, _ => none
  | n + 1, a1, x2, x3, x4, s => oV (s.2.2 3) fun w1 => oV (s.1 w1 18) fun z2 => if x4 < z2 then oC (m5 a1 x2 s) fun z4 s5 => if z4 = (0 : Int) then oX x2 6 (oV (s5.1 (a1 + 2) x2) fun z8 => oC (m8 a1 x2 z8 x3 s5) fun z10 s11 => oZ (x4 + (1 : Int)) fun z13 => m7_31 n a1 x2 x3 z13 s11) else some (0, s5) else some (0, s)
theorem c7_31 {G : aHp} {d : Nat} (hG : zG G) : ∀ {n : Nat} {a1 : Nat} {x2 : Int} {x3 : Int} {x4 : Int} {s : zS} {r_ : Int} {s_ : zS}, m7_31 n a1 x2 x3 x4 s = some (r_, s_) → Zp G (d + 6) 7 31 [some (zr 1 0 10), some (zr 7 0 a1), some (zi x2), some (zi x3), some (zi x4)] [] s (zRet none s_) := by
  intro n
  induction n with
  | zero => intro a1 x2 x3 x4 s r_ s_ hm; cases hm
  | succ n ih =>
  intro a1 x2 x3 x4 s r_ s_ hm
  replace hm : (oV (s.2.2 3) fun w1 => oV (s.1 w1 18) fun z2 => if x4 < z2 then oC (m5 a1 x2 s) fun z4 s5 => if z4 = (0 : Int) then oX x2 6 (oV (s5.1 (a1 + 2) x2) fun z8 => oC (m8 a1 x2 z8 x3 s5) fun z10 s11 => oZ (x4 + (1 : Int)) fun z13 => m7_31 n a1 x2 x3 z13 s11) else some (0, s5) else some (0, s)) = some (r_, s_) := hm
  refine z_iload (pc' := 33) hM7 rfl rfl rfl ?_
  refine z_aload_n (pc' := 34) hM7 rfl rfl rfl ?_
  obtain ⟨w1, ew1, hm⟩ := o_v hm
  refine z_fldM (pc' := 37) (q := 2) hG.2.1 hM7 rfl rfl (Or.inr (Or.inr rfl)) rfl rfl ew1 ?_
  obtain ⟨z2, ez2, hm⟩ := o_v hm
  refine z_fldI (pc' := 40) hM7 rfl rfl rfl ez2 ?_
  refine z_cmpge (pc' := 43) (t := 71) hM7 rfl rfl (fun h3 => ?_) (fun h3 => ?_)
  · replace hm := o_t hm h3
    refine z_aload_n (pc' := 44) hM7 rfl rfl rfl ?_
    refine z_aload_n (pc' := 45) hM7 rfl rfl rfl ?_
    refine z_iload_n (pc' := 46) hM7 rfl rfl rfl ?_
    obtain ⟨z4, s5, h6, hm⟩ := o_c hm
    refine z_cv (d := d + 5) (pc' := 49) hM7 rfl hM5 rfl rfl rfl rfl rfl rfl (c5 (d := d + 4) hG h6) rfl ?_
    refine z_ifne (pc' := 52) (t := 71) hM7 rfl rfl (fun h7 => ?_) (fun h7 => ?_)
    · replace hm := o_t hm h7
      refine z_aload_n (pc' := 53) hM7 rfl rfl rfl ?_
      refine z_aload_n (pc' := 54) hM7 rfl rfl rfl ?_
      refine z_iload_n (pc' := 55) hM7 rfl rfl rfl ?_
      refine z_aload_n (pc' := 56) hM7 rfl rfl rfl ?_
      refine z_fldR (pc' := 59) hM7 rfl (zf_7_1 hG) rfl rfl ?_
      refine z_iload_n (pc' := 60) hM7 rfl rfl rfl ?_
      obtain ⟨h9, hm⟩ := o_x hm
      obtain ⟨z8, ez8, hm⟩ := o_v hm
      refine z_iald (pc' := 61) (zGN hG) hM7 rfl rfl h9 ez8 ?_
      refine z_iload_n (pc' := 62) hM7 rfl rfl rfl ?_
      obtain ⟨z10, s11, h12, hm⟩ := o_c hm
      refine z_cvV (d := d + 5) (pc' := 65) hM7 rfl hM8 rfl rfl rfl rfl rfl rfl (c8 (d := d) hG h12) rfl ?_
      obtain ⟨z13, ez13, h14, hm⟩ := o_z hm
      refine z_iinc (pc' := 68) (l' := [some (zr 1 0 10), some (zr 7 0 a1), some (zi x2), some (zi x3), some (zi z13)]) hM7 rfl rfl rfl ez13 h14 rfl rfl ?_
      refine z_goto (t := 31) hM7 rfl ?_
      exact ih hm
    · replace hm := o_f hm h7
      cases hm
      exact z_retV hM7 rfl rfl ⟨rfl, rfl⟩
  · replace hm := o_f hm h3
    cases hm
    exact z_retV hM7 rfl rfl ⟨rfl, rfl⟩
def m7 (a1 : Nat) (x2 : Int) (s : zS) : Option (Int × zS) := oV (s.2.2 3) fun w1 => oX x2 6 (oV (s.1 (a1 + 3) x2) fun z2 => if z2 = (-1 : Int) then some (0, s) else oV (s.2.2 3) fun w5 => oX x2 6 (oV (s.1 (w5 + 14) x2) fun z6 => m7_31 zFu a1 x2 z6 (0 : Int) s))
theorem c7 {G : aHp} {d : Nat} (hG : zG G) {a1 : Nat} {x2 : Int} {s : zS} {r_ : Int} {s_ : zS} (hm : m7 a1 x2 s = some (r_, s_)) : Zp G (d + 6) 7 0 [some (zr 1 0 10), some (zr 7 0 a1), some (zi x2), none, none] [] s (zRet none s_) := by
  replace hm : (oV (s.2.2 3) fun w1 => oX x2 6 (oV (s.1 (a1 + 3) x2) fun z2 => if z2 = (-1 : Int) then some (0, s) else oV (s.2.2 3) fun w5 => oX x2 6 (oV (s.1 (w5 + 14) x2) fun z6 => m7_31 zFu a1 x2 z6 (0 : Int) s))) = some (r_, s_) := hm
  refine z_aload_n (pc' := 1) hM7 rfl rfl rfl ?_
  obtain ⟨w1, ew1, hm⟩ := o_v hm
  refine z_fldM (pc' := 4) (q := 2) hG.2.1 hM7 rfl rfl (Or.inr (Or.inr rfl)) rfl rfl ew1 ?_
  refine z_ifnull (pc' := 7) hM7 rfl rfl ?_
  refine z_aload_n (pc' := 8) hM7 rfl rfl rfl ?_
  refine z_fldR (pc' := 11) hM7 rfl (zf_7_2 hG) rfl rfl ?_
  refine z_iload_n (pc' := 12) hM7 rfl rfl rfl ?_
  obtain ⟨h3, hm⟩ := o_x hm
  obtain ⟨z2, ez2, hm⟩ := o_v hm
  refine z_iald (pc' := 13) (zGN hG) hM7 rfl rfl h3 ez2 ?_
  refine z_iconst (pc' := 14) hM7 rfl rfl rfl ?_
  refine z_cmpne (pc' := 17) (t := 18) hM7 rfl rfl (fun h4 => ?_) (fun h4 => ?_)
  · replace hm := o_t hm h4
    cases hm
    exact z_retV hM7 rfl rfl ⟨rfl, rfl⟩
  · replace hm := o_f hm h4
    refine z_aload_n (pc' := 19) hM7 rfl rfl rfl ?_
    obtain ⟨w5, ew5, hm⟩ := o_v hm
    refine z_fldM (pc' := 22) (q := 2) hG.2.1 hM7 rfl rfl (Or.inr (Or.inr rfl)) rfl rfl ew5 ?_
    refine z_fldR (pc' := 25) hM7 rfl (zf_5_10 hG) rfl rfl ?_
    refine z_iload_n (pc' := 26) hM7 rfl rfl rfl ?_
    obtain ⟨h7, hm⟩ := o_x hm
    obtain ⟨z6, ez6, hm⟩ := o_v hm
    refine z_iald (pc' := 27) (zGN hG) hM7 rfl rfl h7 ez6 ?_
    refine z_istore_n (pc' := 28) (l' := [some (zr 1 0 10), some (zr 7 0 a1), some (zi x2), some (zi z6), none]) hM7 rfl rfl rfl rfl ?_
    refine z_iconst (pc' := 29) hM7 rfl rfl rfl ?_
    refine z_istore (pc' := 31) (l' := [some (zr 1 0 10), some (zr 7 0 a1), some (zi x2), some (zi z6), some (zi (0 : Int))]) hM7 rfl rfl rfl rfl ?_
    exact c7_31 hG hm
def m10_144 (a1 : Nat) (x2 : Int) (y1 : Int) (y2 : Int) (s : zS) : Option (Int × zS) := oX y1 10 (oV (sI s 11 y1 y2) fun s1 => oX x2 6 (oV (s1.1 (a1 + 3) x2) fun z3 => if z3 = (-1 : Int) then oX (9 : Int) 10 (oV (sI s1 11 (9 : Int) (0 : Int)) fun s6 => some (0, s6)) else oX x2 6 (oV (s1.1 (a1 + 3) x2) fun z8 => oX (9 : Int) 10 (oV (sI s1 11 (9 : Int) z8) fun s10 => some (0, s10)))))
set_option maxRecDepth 20000 in
theorem c10_144 {G : aHp} {d : Nat} (hG : zG G) {a1 : Nat} {x2 : Int} {y1 : Int} {y2 : Int} {d3 : Option zV} {s : zS} {r_ : Int} {s_ : zS} (hm : m10_144 a1 x2 y1 y2 s = some (r_, s_)) : Zp G (d + 3) 10 144 [some (zr 1 0 10), some (zr 7 0 a1), some (zi x2), d3] [zi y2, zi y1, zr 100 10 11] s (zRet none s_) := by
  replace hm : (oX y1 10 (oV (sI s 11 y1 y2) fun s1 => oX x2 6 (oV (s1.1 (a1 + 3) x2) fun z3 => if z3 = (-1 : Int) then oX (9 : Int) 10 (oV (sI s1 11 (9 : Int) (0 : Int)) fun s6 => some (0, s6)) else oX x2 6 (oV (s1.1 (a1 + 3) x2) fun z8 => oX (9 : Int) 10 (oV (sI s1 11 (9 : Int) z8) fun s10 => some (0, s10)))))) = some (r_, s_) := hm
  obtain ⟨h2, hm⟩ := o_x hm
  obtain ⟨s1, es1, hm⟩ := o_v hm
  refine z_iast (pc' := 145) hM10 rfl rfl h2 es1 ?_
  refine z_aload_n (pc' := 146) hM10 rfl rfl rfl ?_
  refine z_fldR (pc' := 149) hM10 rfl (zf_1_0 hG) rfl rfl ?_
  refine z_bipush (pc' := 151) hM10 rfl rfl rfl ?_
  refine z_aload_n (pc' := 152) hM10 rfl rfl rfl ?_
  refine z_fldR (pc' := 155) hM10 rfl (zf_7_2 hG) rfl rfl ?_
  refine z_iload_n (pc' := 156) hM10 rfl rfl rfl ?_
  obtain ⟨h4, hm⟩ := o_x hm
  obtain ⟨z3, ez3, hm⟩ := o_v hm
  refine z_iald (pc' := 157) (zGN hG) hM10 rfl rfl h4 ez3 ?_
  refine z_iconst (pc' := 158) hM10 rfl rfl rfl ?_
  refine z_cmpne (pc' := 161) (t := 165) hM10 rfl rfl (fun h5 => ?_) (fun h5 => ?_)
  · replace hm := o_t hm h5
    refine z_iconst (pc' := 162) hM10 rfl rfl rfl ?_
    refine z_goto (t := 171) hM10 rfl ?_
    obtain ⟨h7, hm⟩ := o_x hm
    obtain ⟨s6, es6, hm⟩ := o_v hm
    refine z_iast (pc' := 172) hM10 rfl rfl h7 es6 ?_
    cases hm
    exact z_retV hM10 rfl rfl ⟨rfl, rfl⟩
  · replace hm := o_f hm h5
    refine z_aload_n (pc' := 166) hM10 rfl rfl rfl ?_
    refine z_fldR (pc' := 169) hM10 rfl (zf_7_2 hG) rfl rfl ?_
    refine z_iload_n (pc' := 170) hM10 rfl rfl rfl ?_
    obtain ⟨h9, hm⟩ := o_x hm
    obtain ⟨z8, ez8, hm⟩ := o_v hm
    refine z_iald (pc' := 171) (zGN hG) hM10 rfl rfl h9 ez8 ?_
    obtain ⟨h11, hm⟩ := o_x hm
    obtain ⟨s10, es10, hm⟩ := o_v hm
    refine z_iast (pc' := 172) hM10 rfl rfl h11 es10 ?_
    cases hm
    exact z_retV hM10 rfl rfl ⟨rfl, rfl⟩
def m10_123 (a1 : Nat) (x2 : Int) (y1 : Int) (y2 : Int) (s : zS) : Option (Int × zS) := oX y1 10 (oV (sI s 11 y1 y2) fun s1 => oC (m5 a1 x2 s1) fun z3 s4 => if z3 = (0 : Int) then m10_144 a1 x2 (8 : Int) (0 : Int) s4 else m10_144 a1 x2 (8 : Int) (1 : Int) s4)
set_option maxRecDepth 20000 in
theorem c10_123 {G : aHp} {d : Nat} (hG : zG G) {a1 : Nat} {x2 : Int} {y1 : Int} {y2 : Int} {d3 : Option zV} {s : zS} {r_ : Int} {s_ : zS} (hm : m10_123 a1 x2 y1 y2 s = some (r_, s_)) : Zp G (d + 3) 10 123 [some (zr 1 0 10), some (zr 7 0 a1), some (zi x2), d3] [zi y2, zi y1, zr 100 10 11] s (zRet none s_) := by
  replace hm : (oX y1 10 (oV (sI s 11 y1 y2) fun s1 => oC (m5 a1 x2 s1) fun z3 s4 => if z3 = (0 : Int) then m10_144 a1 x2 (8 : Int) (0 : Int) s4 else m10_144 a1 x2 (8 : Int) (1 : Int) s4)) = some (r_, s_) := hm
  obtain ⟨h2, hm⟩ := o_x hm
  obtain ⟨s1, es1, hm⟩ := o_v hm
  refine z_iast (pc' := 124) hM10 rfl rfl h2 es1 ?_
  refine z_aload_n (pc' := 125) hM10 rfl rfl rfl ?_
  refine z_fldR (pc' := 128) hM10 rfl (zf_1_0 hG) rfl rfl ?_
  refine z_bipush (pc' := 130) hM10 rfl rfl rfl ?_
  refine z_aload_n (pc' := 131) hM10 rfl rfl rfl ?_
  refine z_aload_n (pc' := 132) hM10 rfl rfl rfl ?_
  refine z_iload_n (pc' := 133) hM10 rfl rfl rfl ?_
  obtain ⟨z3, s4, h5, hm⟩ := o_c hm
  refine z_cv (d := d + 2) (pc' := 136) hM10 rfl hM5 rfl rfl rfl rfl rfl rfl (c5 (d := d + 1) hG h5) rfl ?_
  refine z_ifeq (pc' := 139) (t := 143) hM10 rfl rfl (fun h6 => ?_) (fun h6 => ?_)
  · replace hm := o_t hm h6
    refine z_iconst (pc' := 144) hM10 rfl rfl rfl ?_
    exact c10_144 hG hm
  · replace hm := o_f hm h6
    refine z_iconst (pc' := 140) hM10 rfl rfl rfl ?_
    refine z_goto (t := 144) hM10 rfl ?_
    exact c10_144 hG hm
def m10 (a1 : Nat) (x2 : Int) (s : zS) : Option (Int × zS) := oV (s.2.2 3) fun w1 => oX x2 6 (oV (s.1 (a1 + 2) x2) fun z2 => oX (0 : Int) 10 (oV (sI s 11 (0 : Int) x2) fun s4 => oV (s4.2.2 3) fun w6 => oX x2 6 (oV (s4.1 (w6 + 13) x2) fun z7 => oX (1 : Int) 10 (oV (sI s4 11 (1 : Int) z7) fun s9 => oV (s9.2.2 3) fun w11 => oX x2 6 (oV (s9.1 (w11 + 14) x2) fun z12 => oX (2 : Int) 10 (oV (sI s9 11 (2 : Int) z12) fun s14 => oX z2 8 (oV (s14.1 (a1 + 1) z2) fun z16 => oX (3 : Int) 10 (oV (sI s14 11 (3 : Int) z16) fun s18 => oV (s18.2.2 3) fun w20 => oC (m42 w20 x2 z2 s18) fun z21 s22 => oX (4 : Int) 10 (oV (sI s22 11 (4 : Int) z21) fun s24 => oX x2 6 (oV (s24.1 (a1 + 4) x2) fun z26 => oX (5 : Int) 10 (oV (sI s24 11 (5 : Int) z26) fun s28 => oV (s28.1 a1 6) fun z30 => oX (6 : Int) 10 (oV (sI s28 11 (6 : Int) z30) fun s31 => oX x2 6 (oV (s31.1 (a1 + 3) x2) fun z33 => if z33 = (-1 : Int) then m10_123 a1 x2 (7 : Int) (0 : Int) s31 else m10_123 a1 x2 (7 : Int) (1 : Int) s31)))))))))))))
set_option maxRecDepth 20000 in
theorem c10 {G : aHp} {d : Nat} (hG : zG G) {a1 : Nat} {x2 : Int} {s : zS} {r_ : Int} {s_ : zS} (hm : m10 a1 x2 s = some (r_, s_)) : Zp G (d + 3) 10 0 [some (zr 1 0 10), some (zr 7 0 a1), some (zi x2), none] [] s (zRet none s_) := by
  replace hm : (oV (s.2.2 3) fun w1 => oX x2 6 (oV (s.1 (a1 + 2) x2) fun z2 => oX (0 : Int) 10 (oV (sI s 11 (0 : Int) x2) fun s4 => oV (s4.2.2 3) fun w6 => oX x2 6 (oV (s4.1 (w6 + 13) x2) fun z7 => oX (1 : Int) 10 (oV (sI s4 11 (1 : Int) z7) fun s9 => oV (s9.2.2 3) fun w11 => oX x2 6 (oV (s9.1 (w11 + 14) x2) fun z12 => oX (2 : Int) 10 (oV (sI s9 11 (2 : Int) z12) fun s14 => oX z2 8 (oV (s14.1 (a1 + 1) z2) fun z16 => oX (3 : Int) 10 (oV (sI s14 11 (3 : Int) z16) fun s18 => oV (s18.2.2 3) fun w20 => oC (m42 w20 x2 z2 s18) fun z21 s22 => oX (4 : Int) 10 (oV (sI s22 11 (4 : Int) z21) fun s24 => oX x2 6 (oV (s24.1 (a1 + 4) x2) fun z26 => oX (5 : Int) 10 (oV (sI s24 11 (5 : Int) z26) fun s28 => oV (s28.1 a1 6) fun z30 => oX (6 : Int) 10 (oV (sI s28 11 (6 : Int) z30) fun s31 => oX x2 6 (oV (s31.1 (a1 + 3) x2) fun z33 => if z33 = (-1 : Int) then m10_123 a1 x2 (7 : Int) (0 : Int) s31 else m10_123 a1 x2 (7 : Int) (1 : Int) s31)))))))))))))) = some (r_, s_) := hm
  refine z_aload_n (pc' := 1) hM10 rfl rfl rfl ?_
  obtain ⟨w1, ew1, hm⟩ := o_v hm
  refine z_fldM (pc' := 4) (q := 2) hG.2.1 hM10 rfl rfl (Or.inr (Or.inr rfl)) rfl rfl ew1 ?_
  refine z_ifnonnull (t := 8) hM10 rfl ?_
  refine z_aload_n (pc' := 9) hM10 rfl rfl rfl ?_
  refine z_fldR (pc' := 12) hM10 rfl (zf_7_1 hG) rfl rfl ?_
  refine z_iload_n (pc' := 13) hM10 rfl rfl rfl ?_
  obtain ⟨h3, hm⟩ := o_x hm
  obtain ⟨z2, ez2, hm⟩ := o_v hm
  refine z_iald (pc' := 14) (zGN hG) hM10 rfl rfl h3 ez2 ?_
  refine z_istore_n (pc' := 15) (l' := [some (zr 1 0 10), some (zr 7 0 a1), some (zi x2), some (zi z2)]) hM10 rfl rfl rfl rfl ?_
  refine z_aload_n (pc' := 16) hM10 rfl rfl rfl ?_
  refine z_fldR (pc' := 19) hM10 rfl (zf_1_0 hG) rfl rfl ?_
  refine z_iconst (pc' := 20) hM10 rfl rfl rfl ?_
  refine z_iload_n (pc' := 21) hM10 rfl rfl rfl ?_
  obtain ⟨h5, hm⟩ := o_x hm
  obtain ⟨s4, es4, hm⟩ := o_v hm
  refine z_iast (pc' := 22) hM10 rfl rfl h5 es4 ?_
  refine z_aload_n (pc' := 23) hM10 rfl rfl rfl ?_
  refine z_fldR (pc' := 26) hM10 rfl (zf_1_0 hG) rfl rfl ?_
  refine z_iconst (pc' := 27) hM10 rfl rfl rfl ?_
  refine z_aload_n (pc' := 28) hM10 rfl rfl rfl ?_
  obtain ⟨w6, ew6, hm⟩ := o_v hm
  refine z_fldM (pc' := 31) (q := 2) hG.2.1 hM10 rfl rfl (Or.inr (Or.inr rfl)) rfl rfl ew6 ?_
  refine z_fldR (pc' := 34) hM10 rfl (zf_5_9 hG) rfl rfl ?_
  refine z_iload_n (pc' := 35) hM10 rfl rfl rfl ?_
  obtain ⟨h8, hm⟩ := o_x hm
  obtain ⟨z7, ez7, hm⟩ := o_v hm
  refine z_iald (pc' := 36) (zGN hG) hM10 rfl rfl h8 ez7 ?_
  obtain ⟨h10, hm⟩ := o_x hm
  obtain ⟨s9, es9, hm⟩ := o_v hm
  refine z_iast (pc' := 37) hM10 rfl rfl h10 es9 ?_
  refine z_aload_n (pc' := 38) hM10 rfl rfl rfl ?_
  refine z_fldR (pc' := 41) hM10 rfl (zf_1_0 hG) rfl rfl ?_
  refine z_iconst (pc' := 42) hM10 rfl rfl rfl ?_
  refine z_aload_n (pc' := 43) hM10 rfl rfl rfl ?_
  obtain ⟨w11, ew11, hm⟩ := o_v hm
  refine z_fldM (pc' := 46) (q := 2) hG.2.1 hM10 rfl rfl (Or.inr (Or.inr rfl)) rfl rfl ew11 ?_
  refine z_fldR (pc' := 49) hM10 rfl (zf_5_10 hG) rfl rfl ?_
  refine z_iload_n (pc' := 50) hM10 rfl rfl rfl ?_
  obtain ⟨h13, hm⟩ := o_x hm
  obtain ⟨z12, ez12, hm⟩ := o_v hm
  refine z_iald (pc' := 51) (zGN hG) hM10 rfl rfl h13 ez12 ?_
  obtain ⟨h15, hm⟩ := o_x hm
  obtain ⟨s14, es14, hm⟩ := o_v hm
  refine z_iast (pc' := 52) hM10 rfl rfl h15 es14 ?_
  refine z_aload_n (pc' := 53) hM10 rfl rfl rfl ?_
  refine z_fldR (pc' := 56) hM10 rfl (zf_1_0 hG) rfl rfl ?_
  refine z_iconst (pc' := 57) hM10 rfl rfl rfl ?_
  refine z_aload_n (pc' := 58) hM10 rfl rfl rfl ?_
  refine z_fldR (pc' := 61) hM10 rfl (zf_7_0 hG) rfl rfl ?_
  refine z_iload_n (pc' := 62) hM10 rfl rfl rfl ?_
  obtain ⟨h17, hm⟩ := o_x hm
  obtain ⟨z16, ez16, hm⟩ := o_v hm
  refine z_iald (pc' := 63) (zGN hG) hM10 rfl rfl h17 ez16 ?_
  obtain ⟨h19, hm⟩ := o_x hm
  obtain ⟨s18, es18, hm⟩ := o_v hm
  refine z_iast (pc' := 64) hM10 rfl rfl h19 es18 ?_
  refine z_aload_n (pc' := 65) hM10 rfl rfl rfl ?_
  refine z_fldR (pc' := 68) hM10 rfl (zf_1_0 hG) rfl rfl ?_
  refine z_iconst (pc' := 69) hM10 rfl rfl rfl ?_
  refine z_aload_n (pc' := 70) hM10 rfl rfl rfl ?_
  obtain ⟨w20, ew20, hm⟩ := o_v hm
  refine z_fldM (pc' := 73) (q := 2) hG.2.1 hM10 rfl rfl (Or.inr (Or.inr rfl)) rfl rfl ew20 ?_
  refine z_iload_n (pc' := 74) hM10 rfl rfl rfl ?_
  refine z_iload_n (pc' := 75) hM10 rfl rfl rfl ?_
  obtain ⟨z21, s22, h23, hm⟩ := o_c hm
  refine z_cv (d := d + 2) (pc' := 78) hM10 rfl hM42 rfl rfl rfl rfl rfl rfl (c42 (d := d) hG h23) rfl ?_
  obtain ⟨h25, hm⟩ := o_x hm
  obtain ⟨s24, es24, hm⟩ := o_v hm
  refine z_iast (pc' := 79) hM10 rfl rfl h25 es24 ?_
  refine z_aload_n (pc' := 80) hM10 rfl rfl rfl ?_
  refine z_fldR (pc' := 83) hM10 rfl (zf_1_0 hG) rfl rfl ?_
  refine z_iconst (pc' := 84) hM10 rfl rfl rfl ?_
  refine z_aload_n (pc' := 85) hM10 rfl rfl rfl ?_
  refine z_fldR (pc' := 88) hM10 rfl (zf_7_3 hG) rfl rfl ?_
  refine z_iload_n (pc' := 89) hM10 rfl rfl rfl ?_
  obtain ⟨h27, hm⟩ := o_x hm
  obtain ⟨z26, ez26, hm⟩ := o_v hm
  refine z_iald (pc' := 90) (zGN hG) hM10 rfl rfl h27 ez26 ?_
  obtain ⟨h29, hm⟩ := o_x hm
  obtain ⟨s28, es28, hm⟩ := o_v hm
  refine z_iast (pc' := 91) hM10 rfl rfl h29 es28 ?_
  refine z_aload_n (pc' := 92) hM10 rfl rfl rfl ?_
  refine z_fldR (pc' := 95) hM10 rfl (zf_1_0 hG) rfl rfl ?_
  refine z_bipush (pc' := 97) hM10 rfl rfl rfl ?_
  refine z_aload_n (pc' := 98) hM10 rfl rfl rfl ?_
  obtain ⟨z30, ez30, hm⟩ := o_v hm
  refine z_fldI (pc' := 101) hM10 rfl rfl rfl ez30 ?_
  obtain ⟨h32, hm⟩ := o_x hm
  obtain ⟨s31, es31, hm⟩ := o_v hm
  refine z_iast (pc' := 102) hM10 rfl rfl h32 es31 ?_
  refine z_aload_n (pc' := 103) hM10 rfl rfl rfl ?_
  refine z_fldR (pc' := 106) hM10 rfl (zf_1_0 hG) rfl rfl ?_
  refine z_bipush (pc' := 108) hM10 rfl rfl rfl ?_
  refine z_aload_n (pc' := 109) hM10 rfl rfl rfl ?_
  refine z_fldR (pc' := 112) hM10 rfl (zf_7_2 hG) rfl rfl ?_
  refine z_iload_n (pc' := 113) hM10 rfl rfl rfl ?_
  obtain ⟨h34, hm⟩ := o_x hm
  obtain ⟨z33, ez33, hm⟩ := o_v hm
  refine z_iald (pc' := 114) (zGN hG) hM10 rfl rfl h34 ez33 ?_
  refine z_iconst (pc' := 115) hM10 rfl rfl rfl ?_
  refine z_cmpne (pc' := 118) (t := 122) hM10 rfl rfl (fun h35 => ?_) (fun h35 => ?_)
  · replace hm := o_t hm h35
    refine z_iconst (pc' := 119) hM10 rfl rfl rfl ?_
    refine z_goto (t := 123) hM10 rfl ?_
    exact c10_123 hG hm
  · replace hm := o_f hm h35
    refine z_iconst (pc' := 123) hM10 rfl rfl rfl ?_
    exact c10_123 hG hm
def m74 (x1 : Int) (s : zS) : Option (Int × zS) := if x1 < (0 : Int) then some ((-1 : Int), s) else oV (s.1 1 2) fun z2 => if x1 < z2 then oX x1 1600 (oV (s.1 2 x1) fun z4 => some (z4, s)) else some ((-1 : Int), s)
theorem c74 {G : aHp} {d : Nat} (hG : zG G) {x1 : Int} {s : zS} {r_ : Int} {s_ : zS} (hm : m74 x1 s = some (r_, s_)) : Zp G (d + 1) 74 0 [some (zr 8 0 1), some (zi x1)] [] s (zRet (some (zi r_)) s_) := by
  replace hm : (if x1 < (0 : Int) then some ((-1 : Int), s) else oV (s.1 1 2) fun z2 => if x1 < z2 then oX x1 1600 (oV (s.1 2 x1) fun z4 => some (z4, s)) else some ((-1 : Int), s)) = some (r_, s_) := hm
  refine z_iload_n (pc' := 1) hM74 rfl rfl rfl ?_
  refine z_iflt (pc' := 4) (t := 21) hM74 rfl rfl (fun h1 => ?_) (fun h1 => ?_)
  · replace hm := o_t hm h1
    refine z_iconst (pc' := 22) hM74 rfl rfl rfl ?_
    cases hm
    exact z_retI hM74 rfl rfl ⟨rfl, rfl⟩
  · replace hm := o_f hm h1
    refine z_iload_n (pc' := 5) hM74 rfl rfl rfl ?_
    refine z_aload_n (pc' := 6) hM74 rfl rfl rfl ?_
    obtain ⟨z2, ez2, hm⟩ := o_v hm
    refine z_fldI (pc' := 9) hM74 rfl rfl rfl ez2 ?_
    refine z_cmpge (pc' := 12) (t := 21) hM74 rfl rfl (fun h3 => ?_) (fun h3 => ?_)
    · replace hm := o_t hm h3
      refine z_aload_n (pc' := 13) hM74 rfl rfl rfl ?_
      refine z_fldR (pc' := 16) hM74 rfl (zf_8_0 hG) rfl rfl ?_
      refine z_iload_n (pc' := 17) hM74 rfl rfl rfl ?_
      obtain ⟨h5, hm⟩ := o_x hm
      obtain ⟨z4, ez4, hm⟩ := o_v hm
      refine z_iald (pc' := 18) (zGN hG) hM74 rfl rfl h5 ez4 ?_
      refine z_goto (t := 22) hM74 rfl ?_
      cases hm
      exact z_retI hM74 rfl rfl ⟨rfl, rfl⟩
    · replace hm := o_f hm h3
      refine z_iconst (pc' := 22) hM74 rfl rfl rfl ?_
      cases hm
      exact z_retI hM74 rfl rfl ⟨rfl, rfl⟩
def m12_76 : Nat → Int → Int → zS → Option (Int × zS)
  | 0, _, _, _ => none
  | n + 1, x3, x4, s => if x4 < x3 then oZ ((2 : Int) * x4) fun z2 => oC (m74 z2 s) fun z4 s5 => oX x4 16 (oV (sI s5 25 x4 z4) fun s7 => oZ ((2 : Int) * x4) fun z9 => oZ (z9 + (1 : Int)) fun z11 => oC (m74 z11 s7) fun z13 s14 => oX x4 16 (oV (sI s14 26 x4 z13) fun s16 => oZ (x4 + (1 : Int)) fun z18 => m12_76 n x3 z18 s16)) else oV (sI s 24 0 x3) fun s20 => some ((1 : Int), s20)
theorem c12_76 {G : aHp} {d : Nat} (hG : zG G) : ∀ {n : Nat} {x3 : Int} {x4 : Int} {d2 : Option zV} {s : zS} {r_ : Int} {s_ : zS}, m12_76 n x3 x4 s = some (r_, s_) → Zp G (d + 2) 12 76 [some (zr 2 0 24), some (zr 8 0 1), d2, some (zi x3), some (zi x4)] [] s (zRet (some (zi r_)) s_) := by
  intro n
  induction n with
  | zero => intro x3 x4 d2 s r_ s_ hm; cases hm
  | succ n ih =>
  intro x3 x4 d2 s r_ s_ hm
  replace hm : (if x4 < x3 then oZ ((2 : Int) * x4) fun z2 => oC (m74 z2 s) fun z4 s5 => oX x4 16 (oV (sI s5 25 x4 z4) fun s7 => oZ ((2 : Int) * x4) fun z9 => oZ (z9 + (1 : Int)) fun z11 => oC (m74 z11 s7) fun z13 s14 => oX x4 16 (oV (sI s14 26 x4 z13) fun s16 => oZ (x4 + (1 : Int)) fun z18 => m12_76 n x3 z18 s16)) else oV (sI s 24 0 x3) fun s20 => some ((1 : Int), s20)) = some (r_, s_) := hm
  refine z_iload (pc' := 78) hM12 rfl rfl rfl ?_
  refine z_iload_n (pc' := 79) hM12 rfl rfl rfl ?_
  refine z_cmpge (pc' := 82) (t := 120) hM12 rfl rfl (fun h1 => ?_) (fun h1 => ?_)
  · replace hm := o_t hm h1
    refine z_aload_n (pc' := 83) hM12 rfl rfl rfl ?_
    refine z_fldR (pc' := 86) hM12 rfl (zf_2_4 hG) rfl rfl ?_
    refine z_iload (pc' := 88) hM12 rfl rfl rfl ?_
    refine z_aload_n (pc' := 89) hM12 rfl rfl rfl ?_
    refine z_iconst (pc' := 90) hM12 rfl rfl rfl ?_
    refine z_iload (pc' := 92) hM12 rfl rfl rfl ?_
    obtain ⟨z2, ez2, h3, hm⟩ := o_z hm
    refine z_imul (pc' := 93) hM12 rfl rfl ez2 h3 ?_
    obtain ⟨z4, s5, h6, hm⟩ := o_c hm
    refine z_cv (d := d + 1) (pc' := 96) hM12 rfl hM74 rfl rfl rfl rfl rfl rfl (c74 (d := d) hG h6) rfl ?_
    obtain ⟨h8, hm⟩ := o_x hm
    obtain ⟨s7, es7, hm⟩ := o_v hm
    refine z_iast (pc' := 97) hM12 rfl rfl h8 es7 ?_
    refine z_aload_n (pc' := 98) hM12 rfl rfl rfl ?_
    refine z_fldR (pc' := 101) hM12 rfl (zf_2_5 hG) rfl rfl ?_
    refine z_iload (pc' := 103) hM12 rfl rfl rfl ?_
    refine z_aload_n (pc' := 104) hM12 rfl rfl rfl ?_
    refine z_iconst (pc' := 105) hM12 rfl rfl rfl ?_
    refine z_iload (pc' := 107) hM12 rfl rfl rfl ?_
    obtain ⟨z9, ez9, h10, hm⟩ := o_z hm
    refine z_imul (pc' := 108) hM12 rfl rfl ez9 h10 ?_
    refine z_iconst (pc' := 109) hM12 rfl rfl rfl ?_
    obtain ⟨z11, ez11, h12, hm⟩ := o_z hm
    refine z_iadd (pc' := 110) hM12 rfl rfl ez11 h12 ?_
    obtain ⟨z13, s14, h15, hm⟩ := o_c hm
    refine z_cv (d := d + 1) (pc' := 113) hM12 rfl hM74 rfl rfl rfl rfl rfl rfl (c74 (d := d) hG h15) rfl ?_
    obtain ⟨h17, hm⟩ := o_x hm
    obtain ⟨s16, es16, hm⟩ := o_v hm
    refine z_iast (pc' := 114) hM12 rfl rfl h17 es16 ?_
    obtain ⟨z18, ez18, h19, hm⟩ := o_z hm
    refine z_iinc (pc' := 117) (l' := [some (zr 2 0 24), some (zr 8 0 1), d2, some (zi x3), some (zi z18)]) hM12 rfl rfl rfl ez18 h19 rfl rfl ?_
    refine z_goto (t := 76) hM12 rfl ?_
    exact ih hm
  · replace hm := o_f hm h1
    refine z_aload_n (pc' := 121) hM12 rfl rfl rfl ?_
    refine z_iload_n (pc' := 122) hM12 rfl rfl rfl ?_
    obtain ⟨s20, es20, hm⟩ := o_v hm
    refine z_putI (pc' := 125) hM12 rfl rfl rfl es20 ?_
    refine z_iconst (pc' := 126) hM12 rfl rfl rfl ?_
    cases hm
    exact z_retZ hM12 rfl rfl (Or.inr rfl) ⟨rfl, rfl⟩
def m12_32 : Nat → Int → Int → Int → zS → Option (Int × zS)
  | 0, _, _, _, _ => none
  | n + 1, x2, x3, x4, s => if x4 < x3 then oZ ((2 : Int) * x4) fun z2 => oC (m74 z2 s) fun z4 s5 => if (30 : Int) < z4 then some ((0 : Int), s5) else oZ ((2 : Int) * x4) fun z8 => oZ (z8 + (1 : Int)) fun z10 => oC (m74 z10 s5) fun z12 s13 => if z12 < x2 then oZ (x4 + (1 : Int)) fun z16 => m12_32 n x2 x3 z16 s13 else some ((0 : Int), s13) else m12_76 zFu x3 (0 : Int) s
theorem c12_32 {G : aHp} {d : Nat} (hG : zG G) : ∀ {n : Nat} {x2 : Int} {x3 : Int} {x4 : Int} {s : zS} {r_ : Int} {s_ : zS}, m12_32 n x2 x3 x4 s = some (r_, s_) → Zp G (d + 2) 12 32 [some (zr 2 0 24), some (zr 8 0 1), some (zi x2), some (zi x3), some (zi x4)] [] s (zRet (some (zi r_)) s_) := by
  intro n
  induction n with
  | zero => intro x2 x3 x4 s r_ s_ hm; cases hm
  | succ n ih =>
  intro x2 x3 x4 s r_ s_ hm
  replace hm : (if x4 < x3 then oZ ((2 : Int) * x4) fun z2 => oC (m74 z2 s) fun z4 s5 => if (30 : Int) < z4 then some ((0 : Int), s5) else oZ ((2 : Int) * x4) fun z8 => oZ (z8 + (1 : Int)) fun z10 => oC (m74 z10 s5) fun z12 s13 => if z12 < x2 then oZ (x4 + (1 : Int)) fun z16 => m12_32 n x2 x3 z16 s13 else some ((0 : Int), s13) else m12_76 zFu x3 (0 : Int) s) = some (r_, s_) := hm
  refine z_iload (pc' := 34) hM12 rfl rfl rfl ?_
  refine z_iload_n (pc' := 35) hM12 rfl rfl rfl ?_
  refine z_cmpge (pc' := 38) (t := 73) hM12 rfl rfl (fun h1 => ?_) (fun h1 => ?_)
  · replace hm := o_t hm h1
    refine z_aload_n (pc' := 39) hM12 rfl rfl rfl ?_
    refine z_iconst (pc' := 40) hM12 rfl rfl rfl ?_
    refine z_iload (pc' := 42) hM12 rfl rfl rfl ?_
    obtain ⟨z2, ez2, h3, hm⟩ := o_z hm
    refine z_imul (pc' := 43) hM12 rfl rfl ez2 h3 ?_
    obtain ⟨z4, s5, h6, hm⟩ := o_c hm
    refine z_cv (d := d + 1) (pc' := 46) hM12 rfl hM74 rfl rfl rfl rfl rfl rfl (c74 (d := d) hG h6) rfl ?_
    refine z_bipush (pc' := 48) hM12 rfl rfl rfl ?_
    refine z_cmpgt (pc' := 51) (t := 65) hM12 rfl rfl (fun h7 => ?_) (fun h7 => ?_)
    · replace hm := o_t hm h7
      refine z_iconst (pc' := 66) hM12 rfl rfl rfl ?_
      cases hm
      exact z_retZ hM12 rfl rfl (Or.inl rfl) ⟨rfl, rfl⟩
    · replace hm := o_f hm h7
      refine z_aload_n (pc' := 52) hM12 rfl rfl rfl ?_
      refine z_iconst (pc' := 53) hM12 rfl rfl rfl ?_
      refine z_iload (pc' := 55) hM12 rfl rfl rfl ?_
      obtain ⟨z8, ez8, h9, hm⟩ := o_z hm
      refine z_imul (pc' := 56) hM12 rfl rfl ez8 h9 ?_
      refine z_iconst (pc' := 57) hM12 rfl rfl rfl ?_
      obtain ⟨z10, ez10, h11, hm⟩ := o_z hm
      refine z_iadd (pc' := 58) hM12 rfl rfl ez10 h11 ?_
      obtain ⟨z12, s13, h14, hm⟩ := o_c hm
      refine z_cv (d := d + 1) (pc' := 61) hM12 rfl hM74 rfl rfl rfl rfl rfl rfl (c74 (d := d) hG h14) rfl ?_
      refine z_iload_n (pc' := 62) hM12 rfl rfl rfl ?_
      refine z_cmplt (pc' := 65) (t := 67) hM12 rfl rfl (fun h15 => ?_) (fun h15 => ?_)
      · replace hm := o_t hm h15
        obtain ⟨z16, ez16, h17, hm⟩ := o_z hm
        refine z_iinc (pc' := 70) (l' := [some (zr 2 0 24), some (zr 8 0 1), some (zi x2), some (zi x3), some (zi z16)]) hM12 rfl rfl rfl ez16 h17 rfl rfl ?_
        refine z_goto (t := 32) hM12 rfl ?_
        exact ih hm
      · replace hm := o_f hm h15
        refine z_iconst (pc' := 66) hM12 rfl rfl rfl ?_
        cases hm
        exact z_retZ hM12 rfl rfl (Or.inl rfl) ⟨rfl, rfl⟩
  · replace hm := o_f hm h1
    refine z_iconst (pc' := 74) hM12 rfl rfl rfl ?_
    refine z_istore (pc' := 76) (l' := [some (zr 2 0 24), some (zr 8 0 1), some (zi x2), some (zi x3), some (zi (0 : Int))]) hM12 rfl rfl rfl rfl ?_
    exact c12_76 hG hm
def m12 (x2 : Int) (s : zS) : Option (Int × zS) := oV (s.1 1 2) fun z1 => oN (2 : Int) (oZ (Int.tdiv z1 (2 : Int)) fun z2 => oV (s.1 1 2) fun z4 => oN (2 : Int) (oV (Int.tmod z4 (2 : Int)) fun z5 => if z5 = (0 : Int) then if z2 < (1 : Int) then some ((0 : Int), s) else if (16 : Int) < z2 then some ((0 : Int), s) else m12_32 zFu x2 z2 (0 : Int) s else some ((0 : Int), s)))
theorem c12 {G : aHp} {d : Nat} (hG : zG G) {x2 : Int} {s : zS} {r_ : Int} {s_ : zS} (hm : m12 x2 s = some (r_, s_)) : Zp G (d + 2) 12 0 [some (zr 2 0 24), some (zr 8 0 1), some (zi x2), none, none] [] s (zRet (some (zi r_)) s_) := by
  replace hm : (oV (s.1 1 2) fun z1 => oN (2 : Int) (oZ (Int.tdiv z1 (2 : Int)) fun z2 => oV (s.1 1 2) fun z4 => oN (2 : Int) (oV (Int.tmod z4 (2 : Int)) fun z5 => if z5 = (0 : Int) then if z2 < (1 : Int) then some ((0 : Int), s) else if (16 : Int) < z2 then some ((0 : Int), s) else m12_32 zFu x2 z2 (0 : Int) s else some ((0 : Int), s)))) = some (r_, s_) := hm
  refine z_aload_n (pc' := 1) hM12 rfl rfl rfl ?_
  obtain ⟨z1, ez1, hm⟩ := o_v hm
  refine z_fldI (pc' := 4) hM12 rfl rfl rfl ez1 ?_
  refine z_iconst (pc' := 5) hM12 rfl rfl rfl ?_
  obtain ⟨nz2, hm⟩ := o_n hm
  obtain ⟨z2, ez2, h3, hm⟩ := o_z hm
  refine z_idiv (pc' := 6) hM12 rfl rfl nz2 ez2 h3 ?_
  refine z_istore_n (pc' := 7) (l' := [some (zr 2 0 24), some (zr 8 0 1), some (zi x2), some (zi z2), none]) hM12 rfl rfl rfl rfl ?_
  refine z_aload_n (pc' := 8) hM12 rfl rfl rfl ?_
  obtain ⟨z4, ez4, hm⟩ := o_v hm
  refine z_fldI (pc' := 11) hM12 rfl rfl rfl ez4 ?_
  refine z_iconst (pc' := 12) hM12 rfl rfl rfl ?_
  obtain ⟨nz5, hm⟩ := o_n hm
  obtain ⟨z5, ez5, hm⟩ := o_v hm
  refine z_irem (pc' := 13) hM12 rfl rfl nz5 ez5 ?_
  refine z_ifne (pc' := 16) (t := 27) hM12 rfl rfl (fun h6 => ?_) (fun h6 => ?_)
  · replace hm := o_t hm h6
    refine z_iload_n (pc' := 17) hM12 rfl rfl rfl ?_
    refine z_iconst (pc' := 18) hM12 rfl rfl rfl ?_
    refine z_cmplt (pc' := 21) (t := 27) hM12 rfl rfl (fun h7 => ?_) (fun h7 => ?_)
    · replace hm := o_t hm h7
      refine z_iconst (pc' := 28) hM12 rfl rfl rfl ?_
      cases hm
      exact z_retZ hM12 rfl rfl (Or.inl rfl) ⟨rfl, rfl⟩
    · replace hm := o_f hm h7
      refine z_iload_n (pc' := 22) hM12 rfl rfl rfl ?_
      refine z_bipush (pc' := 24) hM12 rfl rfl rfl ?_
      refine z_cmple (pc' := 27) (t := 29) hM12 rfl rfl (fun h8 => ?_) (fun h8 => ?_)
      · replace hm := o_t hm h8
        refine z_iconst (pc' := 28) hM12 rfl rfl rfl ?_
        cases hm
        exact z_retZ hM12 rfl rfl (Or.inl rfl) ⟨rfl, rfl⟩
      · replace hm := o_f hm h8
        refine z_iconst (pc' := 30) hM12 rfl rfl rfl ?_
        refine z_istore (pc' := 32) (l' := [some (zr 2 0 24), some (zr 8 0 1), some (zi x2), some (zi z2), some (zi (0 : Int))]) hM12 rfl rfl rfl rfl ?_
        exact c12_32 hG hm
  · replace hm := o_f hm h6
    refine z_iconst (pc' := 28) hM12 rfl rfl rfl ?_
    cases hm
    exact z_retZ hM12 rfl rfl (Or.inl rfl) ⟨rfl, rfl⟩
def m14_2 : Nat → Int → zS → Option (Int × zS)
  | 0, _, _ => none
  | n + 1, x2, s => oV (s.1 24 0) fun z1 => if x2 < z1 then oX x2 16 (oV (s.1 25 x2) fun z3 => oX z3 31 (oV (s.1 13 z3) fun z5 => oX x2 16 (oV (s.1 26 x2) fun z7 => if z5 = z7 then oZ (x2 + (1 : Int)) fun z10 => m14_2 n z10 s else some ((0 : Int), s)))) else some ((1 : Int), s)
theorem c14_2 {G : aHp} {d : Nat} (hG : zG G) : ∀ {n : Nat} {x2 : Int} {s : zS} {r_ : Int} {s_ : zS}, m14_2 n x2 s = some (r_, s_) → Zp G (d + 1) 14 2 [some (zr 2 0 24), some (zr 100 31 13), some (zi x2)] [] s (zRet (some (zi r_)) s_) := by
  intro n
  induction n with
  | zero => intro x2 s r_ s_ hm; cases hm
  | succ n ih =>
  intro x2 s r_ s_ hm
  replace hm : (oV (s.1 24 0) fun z1 => if x2 < z1 then oX x2 16 (oV (s.1 25 x2) fun z3 => oX z3 31 (oV (s.1 13 z3) fun z5 => oX x2 16 (oV (s.1 26 x2) fun z7 => if z5 = z7 then oZ (x2 + (1 : Int)) fun z10 => m14_2 n z10 s else some ((0 : Int), s)))) else some ((1 : Int), s)) = some (r_, s_) := hm
  refine z_iload_n (pc' := 3) hM14 rfl rfl rfl ?_
  refine z_aload_n (pc' := 4) hM14 rfl rfl rfl ?_
  obtain ⟨z1, ez1, hm⟩ := o_v hm
  refine z_fldI (pc' := 7) hM14 rfl rfl rfl ez1 ?_
  refine z_cmpge (pc' := 10) (t := 35) hM14 rfl rfl (fun h2 => ?_) (fun h2 => ?_)
  · replace hm := o_t hm h2
    refine z_aload_n (pc' := 11) hM14 rfl rfl rfl ?_
    refine z_aload_n (pc' := 12) hM14 rfl rfl rfl ?_
    refine z_fldR (pc' := 15) hM14 rfl (zf_2_4 hG) rfl rfl ?_
    refine z_iload_n (pc' := 16) hM14 rfl rfl rfl ?_
    obtain ⟨h4, hm⟩ := o_x hm
    obtain ⟨z3, ez3, hm⟩ := o_v hm
    refine z_iald (pc' := 17) (zGN hG) hM14 rfl rfl h4 ez3 ?_
    obtain ⟨h6, hm⟩ := o_x hm
    obtain ⟨z5, ez5, hm⟩ := o_v hm
    refine z_iald (pc' := 18) (zGN hG) hM14 rfl rfl h6 ez5 ?_
    refine z_aload_n (pc' := 19) hM14 rfl rfl rfl ?_
    refine z_fldR (pc' := 22) hM14 rfl (zf_2_5 hG) rfl rfl ?_
    refine z_iload_n (pc' := 23) hM14 rfl rfl rfl ?_
    obtain ⟨h8, hm⟩ := o_x hm
    obtain ⟨z7, ez7, hm⟩ := o_v hm
    refine z_iald (pc' := 24) (zGN hG) hM14 rfl rfl h8 ez7 ?_
    refine z_cmpeq (pc' := 27) (t := 29) hM14 rfl rfl (fun h9 => ?_) (fun h9 => ?_)
    · replace hm := o_t hm h9
      obtain ⟨z10, ez10, h11, hm⟩ := o_z hm
      refine z_iinc (pc' := 32) (l' := [some (zr 2 0 24), some (zr 100 31 13), some (zi z10)]) hM14 rfl rfl rfl ez10 h11 rfl rfl ?_
      refine z_goto (t := 2) hM14 rfl ?_
      exact ih hm
    · replace hm := o_f hm h9
      refine z_iconst (pc' := 28) hM14 rfl rfl rfl ?_
      cases hm
      exact z_retZ hM14 rfl rfl (Or.inl rfl) ⟨rfl, rfl⟩
  · replace hm := o_f hm h2
    refine z_iconst (pc' := 36) hM14 rfl rfl rfl ?_
    cases hm
    exact z_retZ hM14 rfl rfl (Or.inr rfl) ⟨rfl, rfl⟩
def m14  (s : zS) : Option (Int × zS) := m14_2 zFu (0 : Int) s
theorem c14 {G : aHp} {d : Nat} (hG : zG G) {s : zS} {r_ : Int} {s_ : zS} (hm : m14  s = some (r_, s_)) : Zp G (d + 1) 14 0 [some (zr 2 0 24), some (zr 100 31 13), none] [] s (zRet (some (zi r_)) s_) := by
  replace hm : (m14_2 zFu (0 : Int) s) = some (r_, s_) := hm
  refine z_iconst (pc' := 1) hM14 rfl rfl rfl ?_
  refine z_istore_n (pc' := 2) (l' := [some (zr 2 0 24), some (zr 100 31 13), some (zi (0 : Int))]) hM14 rfl rfl rfl rfl ?_
  exact c14_2 hG hm
def m15_2 : Nat → Int → zS → Option (Int × zS)
  | 0, _, _ => none
  | n + 1, x2, s => if (30 : Int) < x2 then some (0, s) else oZ (x2 * (7 : Int)) fun z2 => oX x2 31 (oV (s.1 13 x2) fun z4 => oZ (z2 + z4) fun z6 => oX z6 217 (oV (s.1 27 z6) fun z8 => oZ (z8 + (1 : Int)) fun z10 => oX z6 217 (oV (sI s 27 z6 z10) fun s12 => oZ (x2 + (1 : Int)) fun z14 => m15_2 n z14 s12)))
theorem c15_2 {G : aHp} {d : Nat} (hG : zG G) : ∀ {n : Nat} {x2 : Int} {s : zS} {r_ : Int} {s_ : zS}, m15_2 n x2 s = some (r_, s_) → Zp G (d + 1) 15 2 [some (zr 2 0 24), some (zr 100 31 13), some (zi x2)] [] s (zRet none s_) := by
  intro n
  induction n with
  | zero => intro x2 s r_ s_ hm; cases hm
  | succ n ih =>
  intro x2 s r_ s_ hm
  replace hm : (if (30 : Int) < x2 then some (0, s) else oZ (x2 * (7 : Int)) fun z2 => oX x2 31 (oV (s.1 13 x2) fun z4 => oZ (z2 + z4) fun z6 => oX z6 217 (oV (s.1 27 z6) fun z8 => oZ (z8 + (1 : Int)) fun z10 => oX z6 217 (oV (sI s 27 z6 z10) fun s12 => oZ (x2 + (1 : Int)) fun z14 => m15_2 n z14 s12)))) = some (r_, s_) := hm
  refine z_iload_n (pc' := 3) hM15 rfl rfl rfl ?_
  refine z_bipush (pc' := 5) hM15 rfl rfl rfl ?_
  refine z_cmpgt (pc' := 8) (t := 31) hM15 rfl rfl (fun h1 => ?_) (fun h1 => ?_)
  · replace hm := o_t hm h1
    cases hm
    exact z_retV hM15 rfl rfl ⟨rfl, rfl⟩
  · replace hm := o_f hm h1
    refine z_aload_n (pc' := 9) hM15 rfl rfl rfl ?_
    refine z_fldR (pc' := 12) hM15 rfl (zf_2_6 hG) rfl rfl ?_
    refine z_iload_n (pc' := 13) hM15 rfl rfl rfl ?_
    refine z_bipush (pc' := 15) hM15 rfl rfl rfl ?_
    obtain ⟨z2, ez2, h3, hm⟩ := o_z hm
    refine z_imul (pc' := 16) hM15 rfl rfl ez2 h3 ?_
    refine z_aload_n (pc' := 17) hM15 rfl rfl rfl ?_
    refine z_iload_n (pc' := 18) hM15 rfl rfl rfl ?_
    obtain ⟨h5, hm⟩ := o_x hm
    obtain ⟨z4, ez4, hm⟩ := o_v hm
    refine z_iald (pc' := 19) (zGN hG) hM15 rfl rfl h5 ez4 ?_
    obtain ⟨z6, ez6, h7, hm⟩ := o_z hm
    refine z_iadd (pc' := 20) hM15 rfl rfl ez6 h7 ?_
    refine z_dup2A (pc' := 21) hM15 rfl rfl ?_
    obtain ⟨h9, hm⟩ := o_x hm
    obtain ⟨z8, ez8, hm⟩ := o_v hm
    refine z_iald (pc' := 22) (zGN hG) hM15 rfl rfl h9 ez8 ?_
    refine z_iconst (pc' := 23) hM15 rfl rfl rfl ?_
    obtain ⟨z10, ez10, h11, hm⟩ := o_z hm
    refine z_iadd (pc' := 24) hM15 rfl rfl ez10 h11 ?_
    obtain ⟨h13, hm⟩ := o_x hm
    obtain ⟨s12, es12, hm⟩ := o_v hm
    refine z_iast (pc' := 25) hM15 rfl rfl h13 es12 ?_
    obtain ⟨z14, ez14, h15, hm⟩ := o_z hm
    refine z_iinc (pc' := 28) (l' := [some (zr 2 0 24), some (zr 100 31 13), some (zi z14)]) hM15 rfl rfl rfl ez14 h15 rfl rfl ?_
    refine z_goto (t := 2) hM15 rfl ?_
    exact ih hm
def m15  (s : zS) : Option (Int × zS) := m15_2 zFu (0 : Int) s
theorem c15 {G : aHp} {d : Nat} (hG : zG G) {s : zS} {r_ : Int} {s_ : zS} (hm : m15  s = some (r_, s_)) : Zp G (d + 1) 15 0 [some (zr 2 0 24), some (zr 100 31 13), none] [] s (zRet none s_) := by
  replace hm : (m15_2 zFu (0 : Int) s) = some (r_, s_) := hm
  refine z_iconst (pc' := 1) hM15 rfl rfl rfl ?_
  refine z_istore_n (pc' := 2) (l' := [some (zr 2 0 24), some (zr 100 31 13), some (zi (0 : Int))]) hM15 rfl rfl rfl rfl ?_
  exact c15_2 hG hm
def m13_41 (k26_ : Nat → Nat → Int → zS → Option (Int × zS)) : Nat → Nat → Nat → Int → Int → zS → Option (Int × zS)
  | 0, _, _, _, _, _ => none
  | n + 1, a1, a2, x4, x5, s => oV (s.1 (a2 + 3) 0) fun z1 => if x5 < z1 then oX x4 6 (oV (s.1 (a2 + 14) x4) fun z3 => oC (m99 a1 x4 x5 x5 z3 s) fun z5 s6 => oC (m14 s6) fun z8 s9 => if z8 = (0 : Int) then oZ (x5 + (1 : Int)) fun z12 => m13_41 k26_ n a1 a2 x4 z12 s9 else oV (s9.1 24 1) fun z14 => oZ (z14 + (1 : Int)) fun z15 => oV (sI s9 24 1 z15) fun s17 => oV (s17.1 24 2) fun z18 => oV (zShl (1 : Int) x4) fun z19 => oV (zOr z18 z19) fun z20 => oV (sI s17 24 2 z20) fun s21 => oV (s21.1 24 3) fun z22 => oV (zShl (1 : Int) x5) fun z23 => oV (zOr z22 z23) fun z24 => oV (sI s21 24 3 z24) fun s25 => oC (m15 s25) fun z26 s27 => oZ (x5 + (1 : Int)) fun z29 => m13_41 k26_ n a1 a2 x4 z29 s27) else oZ (x4 + (1 : Int)) fun z31 => k26_ a1 a2 z31 s
theorem c13_41 {G : aHp} {d : Nat} {k26_ : Nat → Nat → Int → zS → Option (Int × zS)} (hG : zG G) (hk26 : ∀ {a1 : Nat} {a2 : Nat} {x4 : Int} {d5 : Option zV} {s : zS} {r_ : Int} {s_ : zS}, k26_ a1 a2 x4 s = some (r_, s_) → Zp G (d + 7) 13 26 [some (zr 2 0 24), some (zr 7 0 a1), some (zr 5 0 a2), some (zr 10 0 12), some (zi x4), d5] [] s (zRet none s_)) : ∀ {n : Nat} {a1 : Nat} {a2 : Nat} {x4 : Int} {x5 : Int} {s : zS} {r_ : Int} {s_ : zS}, m13_41 k26_ n a1 a2 x4 x5 s = some (r_, s_) → Zp G (d + 7) 13 41 [some (zr 2 0 24), some (zr 7 0 a1), some (zr 5 0 a2), some (zr 10 0 12), some (zi x4), some (zi x5)] [] s (zRet none s_) := by
  intro n
  induction n with
  | zero => intro a1 a2 x4 x5 s r_ s_ hm; cases hm
  | succ n ih =>
  intro a1 a2 x4 x5 s r_ s_ hm
  replace hm : (oV (s.1 (a2 + 3) 0) fun z1 => if x5 < z1 then oX x4 6 (oV (s.1 (a2 + 14) x4) fun z3 => oC (m99 a1 x4 x5 x5 z3 s) fun z5 s6 => oC (m14 s6) fun z8 s9 => if z8 = (0 : Int) then oZ (x5 + (1 : Int)) fun z12 => m13_41 k26_ n a1 a2 x4 z12 s9 else oV (s9.1 24 1) fun z14 => oZ (z14 + (1 : Int)) fun z15 => oV (sI s9 24 1 z15) fun s17 => oV (s17.1 24 2) fun z18 => oV (zShl (1 : Int) x4) fun z19 => oV (zOr z18 z19) fun z20 => oV (sI s17 24 2 z20) fun s21 => oV (s21.1 24 3) fun z22 => oV (zShl (1 : Int) x5) fun z23 => oV (zOr z22 z23) fun z24 => oV (sI s21 24 3 z24) fun s25 => oC (m15 s25) fun z26 s27 => oZ (x5 + (1 : Int)) fun z29 => m13_41 k26_ n a1 a2 x4 z29 s27) else oZ (x4 + (1 : Int)) fun z31 => k26_ a1 a2 z31 s) = some (r_, s_) := hm
  refine z_iload (pc' := 43) hM13 rfl rfl rfl ?_
  refine z_aload_n (pc' := 44) hM13 rfl rfl rfl ?_
  refine z_fldR (pc' := 47) hM13 rfl (zf_5_1 hG) rfl rfl ?_
  obtain ⟨z1, ez1, hm⟩ := o_v hm
  refine z_fldI (pc' := 50) hM13 rfl rfl rfl ez1 ?_
  refine z_cmpge (pc' := 53) (t := 133) hM13 rfl rfl (fun h2 => ?_) (fun h2 => ?_)
  · replace hm := o_t hm h2
    refine z_aload_n (pc' := 54) hM13 rfl rfl rfl ?_
    refine z_aload_n (pc' := 55) hM13 rfl rfl rfl ?_
    refine z_iload (pc' := 57) hM13 rfl rfl rfl ?_
    refine z_iload (pc' := 59) hM13 rfl rfl rfl ?_
    refine z_iload (pc' := 61) hM13 rfl rfl rfl ?_
    refine z_aload_n (pc' := 62) hM13 rfl rfl rfl ?_
    refine z_fldR (pc' := 65) hM13 rfl (zf_5_10 hG) rfl rfl ?_
    refine z_iload (pc' := 67) hM13 rfl rfl rfl ?_
    obtain ⟨h4, hm⟩ := o_x hm
    obtain ⟨z3, ez3, hm⟩ := o_v hm
    refine z_iald (pc' := 68) (zGN hG) hM13 rfl rfl h4 ez3 ?_
    obtain ⟨z5, s6, h7, hm⟩ := o_c hm
    refine z_cv (d := d + 6) (pc' := 71) hM13 rfl hM99 rfl rfl rfl rfl rfl rfl (c99 (d := d) hG h7) rfl ?_
    refine z_pop (pc' := 72) hM13 rfl rfl ?_
    refine z_aload_n (pc' := 73) hM13 rfl rfl rfl ?_
    refine z_aload_n (pc' := 74) hM13 rfl rfl rfl ?_
    refine z_fldR (pc' := 77) hM13 rfl (zf_10_0 hG) rfl rfl ?_
    obtain ⟨z8, s9, h10, hm⟩ := o_c hm
    refine z_cv (d := d + 6) (pc' := 80) hM13 rfl hM14 rfl rfl rfl rfl rfl rfl (c14 (d := d + 5) hG h10) rfl ?_
    refine z_ifeq (pc' := 83) (t := 127) hM13 rfl rfl (fun h11 => ?_) (fun h11 => ?_)
    · replace hm := o_t hm h11
      obtain ⟨z12, ez12, h13, hm⟩ := o_z hm
      refine z_iinc (pc' := 130) (l' := [some (zr 2 0 24), some (zr 7 0 a1), some (zr 5 0 a2), some (zr 10 0 12), some (zi x4), some (zi z12)]) hM13 rfl rfl rfl ez12 h13 rfl rfl ?_
      refine z_goto (t := 41) hM13 rfl ?_
      exact ih hm
    · replace hm := o_f hm h11
      refine z_aload_n (pc' := 84) hM13 rfl rfl rfl ?_
      refine z_dupA (pc' := 85) hM13 rfl rfl ?_
      obtain ⟨z14, ez14, hm⟩ := o_v hm
      refine z_fldI (pc' := 88) hM13 rfl rfl rfl ez14 ?_
      refine z_iconst (pc' := 89) hM13 rfl rfl rfl ?_
      obtain ⟨z15, ez15, h16, hm⟩ := o_z hm
      refine z_iadd (pc' := 90) hM13 rfl rfl ez15 h16 ?_
      obtain ⟨s17, es17, hm⟩ := o_v hm
      refine z_putI (pc' := 93) hM13 rfl rfl rfl es17 ?_
      refine z_aload_n (pc' := 94) hM13 rfl rfl rfl ?_
      refine z_dupA (pc' := 95) hM13 rfl rfl ?_
      obtain ⟨z18, ez18, hm⟩ := o_v hm
      refine z_fldI (pc' := 98) hM13 rfl rfl rfl ez18 ?_
      refine z_iconst (pc' := 99) hM13 rfl rfl rfl ?_
      refine z_iload (pc' := 101) hM13 rfl rfl rfl ?_
      obtain ⟨z19, ez19, hm⟩ := o_v hm
      refine z_ishl (pc' := 102) hM13 rfl rfl ez19 ?_
      obtain ⟨z20, ez20, hm⟩ := o_v hm
      refine z_ior (pc' := 103) hM13 rfl rfl ez20 ?_
      obtain ⟨s21, es21, hm⟩ := o_v hm
      refine z_putI (pc' := 106) hM13 rfl rfl rfl es21 ?_
      refine z_aload_n (pc' := 107) hM13 rfl rfl rfl ?_
      refine z_dupA (pc' := 108) hM13 rfl rfl ?_
      obtain ⟨z22, ez22, hm⟩ := o_v hm
      refine z_fldI (pc' := 111) hM13 rfl rfl rfl ez22 ?_
      refine z_iconst (pc' := 112) hM13 rfl rfl rfl ?_
      refine z_iload (pc' := 114) hM13 rfl rfl rfl ?_
      obtain ⟨z23, ez23, hm⟩ := o_v hm
      refine z_ishl (pc' := 115) hM13 rfl rfl ez23 ?_
      obtain ⟨z24, ez24, hm⟩ := o_v hm
      refine z_ior (pc' := 116) hM13 rfl rfl ez24 ?_
      obtain ⟨s25, es25, hm⟩ := o_v hm
      refine z_putI (pc' := 119) hM13 rfl rfl rfl es25 ?_
      refine z_aload_n (pc' := 120) hM13 rfl rfl rfl ?_
      refine z_aload_n (pc' := 121) hM13 rfl rfl rfl ?_
      refine z_fldR (pc' := 124) hM13 rfl (zf_10_0 hG) rfl rfl ?_
      obtain ⟨z26, s27, h28, hm⟩ := o_c hm
      refine z_cvV (d := d + 6) (pc' := 127) hM13 rfl hM15 rfl rfl rfl rfl rfl rfl (c15 (d := d + 5) hG h28) rfl ?_
      obtain ⟨z29, ez29, h30, hm⟩ := o_z hm
      refine z_iinc (pc' := 130) (l' := [some (zr 2 0 24), some (zr 7 0 a1), some (zr 5 0 a2), some (zr 10 0 12), some (zi x4), some (zi z29)]) hM13 rfl rfl rfl ez29 h30 rfl rfl ?_
      refine z_goto (t := 41) hM13 rfl ?_
      exact ih hm
  · replace hm := o_f hm h2
    obtain ⟨z31, ez31, h32, hm⟩ := o_z hm
    refine z_iinc (pc' := 136) (l' := [some (zr 2 0 24), some (zr 7 0 a1), some (zr 5 0 a2), some (zr 10 0 12), some (zi z31), some (zi x5)]) hM13 rfl rfl rfl ez31 h32 rfl rfl ?_
    refine z_goto (t := 26) hM13 rfl ?_
    exact hk26 hm
def m13_26 : Nat → Nat → Nat → Int → zS → Option (Int × zS)
  | 0, _, _, _, _ => none
  | n + 1, a1, a2, x4, s => oV (s.1 (a2 + 5) 0) fun z1 => if x4 < z1 then m13_41 (m13_26 n) zFu a1 a2 x4 (0 : Int) s else some (0, s)
theorem c13_26 {G : aHp} {d : Nat} (hG : zG G) : ∀ {n : Nat} {a1 : Nat} {a2 : Nat} {x4 : Int} {d5 : Option zV} {s : zS} {r_ : Int} {s_ : zS}, m13_26 n a1 a2 x4 s = some (r_, s_) → Zp G (d + 7) 13 26 [some (zr 2 0 24), some (zr 7 0 a1), some (zr 5 0 a2), some (zr 10 0 12), some (zi x4), d5] [] s (zRet none s_) := by
  intro n
  induction n with
  | zero => intro a1 a2 x4 d5 s r_ s_ hm; cases hm
  | succ n ih =>
  intro a1 a2 x4 d5 s r_ s_ hm
  replace hm : (oV (s.1 (a2 + 5) 0) fun z1 => if x4 < z1 then m13_41 (m13_26 n) zFu a1 a2 x4 (0 : Int) s else some (0, s)) = some (r_, s_) := hm
  refine z_iload (pc' := 28) hM13 rfl rfl rfl ?_
  refine z_aload_n (pc' := 29) hM13 rfl rfl rfl ?_
  refine z_fldR (pc' := 32) hM13 rfl (zf_5_2 hG) rfl rfl ?_
  obtain ⟨z1, ez1, hm⟩ := o_v hm
  refine z_fldI (pc' := 35) hM13 rfl rfl rfl ez1 ?_
  refine z_cmpge (pc' := 38) (t := 139) hM13 rfl rfl (fun h2 => ?_) (fun h2 => ?_)
  · replace hm := o_t hm h2
    refine z_iconst (pc' := 39) hM13 rfl rfl rfl ?_
    refine z_istore (pc' := 41) (l' := [some (zr 2 0 24), some (zr 7 0 a1), some (zr 5 0 a2), some (zr 10 0 12), some (zi x4), some (zi (0 : Int))]) hM13 rfl rfl rfl rfl ?_
    exact c13_41 hG ih hm
  · replace hm := o_f hm h2
    cases hm
    exact z_retV hM13 rfl rfl ⟨rfl, rfl⟩
def m13 (a1 : Nat) (a2 : Nat) (s : zS) : Option (Int × zS) := oV (sI s 24 1 (0 : Int)) fun s1 => oV (sI s1 24 2 (0 : Int)) fun s2 => oV (sI s2 24 3 (0 : Int)) fun s3 => oC (m293 217 27 (0 : Int) s3) fun z4 s5 => m13_26 zFu a1 a2 (0 : Int) s5
theorem c13 {G : aHp} {d : Nat} (hG : zG G) {a1 : Nat} {a2 : Nat} {s : zS} {r_ : Int} {s_ : zS} (hm : m13 a1 a2 s = some (r_, s_)) : Zp G (d + 7) 13 0 [some (zr 2 0 24), some (zr 7 0 a1), some (zr 5 0 a2), some (zr 10 0 12), none, none] [] s (zRet none s_) := by
  replace hm : (oV (sI s 24 1 (0 : Int)) fun s1 => oV (sI s1 24 2 (0 : Int)) fun s2 => oV (sI s2 24 3 (0 : Int)) fun s3 => oC (m293 217 27 (0 : Int) s3) fun z4 s5 => m13_26 zFu a1 a2 (0 : Int) s5) = some (r_, s_) := hm
  refine z_aload_n (pc' := 1) hM13 rfl rfl rfl ?_
  refine z_iconst (pc' := 2) hM13 rfl rfl rfl ?_
  obtain ⟨s1, es1, hm⟩ := o_v hm
  refine z_putI (pc' := 5) hM13 rfl rfl rfl es1 ?_
  refine z_aload_n (pc' := 6) hM13 rfl rfl rfl ?_
  refine z_iconst (pc' := 7) hM13 rfl rfl rfl ?_
  obtain ⟨s2, es2, hm⟩ := o_v hm
  refine z_putI (pc' := 10) hM13 rfl rfl rfl es2 ?_
  refine z_aload_n (pc' := 11) hM13 rfl rfl rfl ?_
  refine z_iconst (pc' := 12) hM13 rfl rfl rfl ?_
  obtain ⟨s3, es3, hm⟩ := o_v hm
  refine z_putI (pc' := 15) hM13 rfl rfl rfl es3 ?_
  refine z_aload_n (pc' := 16) hM13 rfl rfl rfl ?_
  refine z_fldR (pc' := 19) hM13 rfl (zf_2_6 hG) rfl rfl ?_
  refine z_iconst (pc' := 20) hM13 rfl rfl rfl ?_
  obtain ⟨z4, s5, h6, hm⟩ := o_c hm
  refine z_csV (d := d + 6) (pc' := 23) hM13 rfl hM293 rfl rfl rfl rfl (c293 (d := d + 5) hG h6) rfl ?_
  refine z_iconst (pc' := 24) hM13 rfl rfl rfl ?_
  refine z_istore (pc' := 26) (l' := [some (zr 2 0 24), some (zr 7 0 a1), some (zr 5 0 a2), some (zr 10 0 12), some (zi (0 : Int)), none]) hM13 rfl rfl rfl rfl ?_
  exact c13_26 hG hm
def m16_4 : Nat → Int → Int → Int → zS → Option (Int × zS)
  | 0, _, _, _, _ => none
  | n + 1, x1, x2, x3, s => if x3 < (7 : Int) then oZ (x1 * (7 : Int)) fun z2 => oZ (z2 + x3) fun z4 => oX z4 217 (oV (s.1 27 z4) fun z6 => oC (m288 x2 z6 s) fun z8 s9 => oZ (x3 + (1 : Int)) fun z11 => m16_4 n x1 z8 z11 s9) else some (x2, s)
theorem c16_4 {G : aHp} {d : Nat} (hG : zG G) : ∀ {n : Nat} {x1 : Int} {x2 : Int} {x3 : Int} {s : zS} {r_ : Int} {s_ : zS}, m16_4 n x1 x2 x3 s = some (r_, s_) → Zp G (d + 2) 16 4 [some (zr 2 0 24), some (zi x1), some (zi x2), some (zi x3)] [] s (zRet (some (zi r_)) s_) := by
  intro n
  induction n with
  | zero => intro x1 x2 x3 s r_ s_ hm; cases hm
  | succ n ih =>
  intro x1 x2 x3 s r_ s_ hm
  replace hm : (if x3 < (7 : Int) then oZ (x1 * (7 : Int)) fun z2 => oZ (z2 + x3) fun z4 => oX z4 217 (oV (s.1 27 z4) fun z6 => oC (m288 x2 z6 s) fun z8 s9 => oZ (x3 + (1 : Int)) fun z11 => m16_4 n x1 z8 z11 s9) else some (x2, s)) = some (r_, s_) := hm
  refine z_iload_n (pc' := 5) hM16 rfl rfl rfl ?_
  refine z_bipush (pc' := 7) hM16 rfl rfl rfl ?_
  refine z_cmpge (pc' := 10) (t := 32) hM16 rfl rfl (fun h1 => ?_) (fun h1 => ?_)
  · replace hm := o_t hm h1
    refine z_iload_n (pc' := 11) hM16 rfl rfl rfl ?_
    refine z_aload_n (pc' := 12) hM16 rfl rfl rfl ?_
    refine z_fldR (pc' := 15) hM16 rfl (zf_2_6 hG) rfl rfl ?_
    refine z_iload_n (pc' := 16) hM16 rfl rfl rfl ?_
    refine z_bipush (pc' := 18) hM16 rfl rfl rfl ?_
    obtain ⟨z2, ez2, h3, hm⟩ := o_z hm
    refine z_imul (pc' := 19) hM16 rfl rfl ez2 h3 ?_
    refine z_iload_n (pc' := 20) hM16 rfl rfl rfl ?_
    obtain ⟨z4, ez4, h5, hm⟩ := o_z hm
    refine z_iadd (pc' := 21) hM16 rfl rfl ez4 h5 ?_
    obtain ⟨h7, hm⟩ := o_x hm
    obtain ⟨z6, ez6, hm⟩ := o_v hm
    refine z_iald (pc' := 22) (zGN hG) hM16 rfl rfl h7 ez6 ?_
    obtain ⟨z8, s9, h10, hm⟩ := o_c hm
    refine z_cs (d := d + 1) (pc' := 25) hM16 rfl hM288 rfl rfl rfl rfl (c288 (d := d) hG h10) rfl ?_
    refine z_istore_n (pc' := 26) (l' := [some (zr 2 0 24), some (zi x1), some (zi z8), some (zi x3)]) hM16 rfl rfl rfl rfl ?_
    obtain ⟨z11, ez11, h12, hm⟩ := o_z hm
    refine z_iinc (pc' := 29) (l' := [some (zr 2 0 24), some (zi x1), some (zi z8), some (zi z11)]) hM16 rfl rfl rfl ez11 h12 rfl rfl ?_
    refine z_goto (t := 4) hM16 rfl ?_
    exact ih hm
  · replace hm := o_f hm h1
    refine z_iload_n (pc' := 33) hM16 rfl rfl rfl ?_
    cases hm
    exact z_retI hM16 rfl rfl ⟨rfl, rfl⟩
def m16 (x1 : Int) (s : zS) : Option (Int × zS) := m16_4 zFu x1 (0 : Int) (0 : Int) s
theorem c16 {G : aHp} {d : Nat} (hG : zG G) {x1 : Int} {s : zS} {r_ : Int} {s_ : zS} (hm : m16 x1 s = some (r_, s_)) : Zp G (d + 2) 16 0 [some (zr 2 0 24), some (zi x1), none, none] [] s (zRet (some (zi r_)) s_) := by
  replace hm : (m16_4 zFu x1 (0 : Int) (0 : Int) s) = some (r_, s_) := hm
  refine z_iconst (pc' := 1) hM16 rfl rfl rfl ?_
  refine z_istore_n (pc' := 2) (l' := [some (zr 2 0 24), some (zi x1), some (zi (0 : Int)), none]) hM16 rfl rfl rfl rfl ?_
  refine z_iconst (pc' := 3) hM16 rfl rfl rfl ?_
  refine z_istore_n (pc' := 4) (l' := [some (zr 2 0 24), some (zi x1), some (zi (0 : Int)), some (zi (0 : Int))]) hM16 rfl rfl rfl rfl ?_
  exact c16_4 hG hm
def m17_4 : Nat → Int → Int → zS → Option (Int × zS)
  | 0, _, _, _ => none
  | n + 1, x1, x2, s => if (30 : Int) < x2 then some (x1, s) else oC (m16 x2 s) fun z2 s3 => oC (m16 x1 s3) fun z5 s6 => if z2 < z5 then oZ (x2 + (1 : Int)) fun z9 => m17_4 n x2 z9 s6 else oZ (x2 + (1 : Int)) fun z11 => m17_4 n x1 z11 s6
theorem c17_4 {G : aHp} {d : Nat} (hG : zG G) : ∀ {n : Nat} {x1 : Int} {x2 : Int} {s : zS} {r_ : Int} {s_ : zS}, m17_4 n x1 x2 s = some (r_, s_) → Zp G (d + 3) 17 4 [some (zr 2 0 24), some (zi x1), some (zi x2)] [] s (zRet (some (zi r_)) s_) := by
  intro n
  induction n with
  | zero => intro x1 x2 s r_ s_ hm; cases hm
  | succ n ih =>
  intro x1 x2 s r_ s_ hm
  replace hm : (if (30 : Int) < x2 then some (x1, s) else oC (m16 x2 s) fun z2 s3 => oC (m16 x1 s3) fun z5 s6 => if z2 < z5 then oZ (x2 + (1 : Int)) fun z9 => m17_4 n x2 z9 s6 else oZ (x2 + (1 : Int)) fun z11 => m17_4 n x1 z11 s6) = some (r_, s_) := hm
  refine z_iload_n (pc' := 5) hM17 rfl rfl rfl ?_
  refine z_bipush (pc' := 7) hM17 rfl rfl rfl ?_
  refine z_cmpgt (pc' := 10) (t := 31) hM17 rfl rfl (fun h1 => ?_) (fun h1 => ?_)
  · replace hm := o_t hm h1
    refine z_iload_n (pc' := 32) hM17 rfl rfl rfl ?_
    cases hm
    exact z_retI hM17 rfl rfl ⟨rfl, rfl⟩
  · replace hm := o_f hm h1
    refine z_aload_n (pc' := 11) hM17 rfl rfl rfl ?_
    refine z_iload_n (pc' := 12) hM17 rfl rfl rfl ?_
    obtain ⟨z2, s3, h4, hm⟩ := o_c hm
    refine z_cv (d := d + 2) (pc' := 15) hM17 rfl hM16 rfl rfl rfl rfl rfl rfl (c16 (d := d) hG h4) rfl ?_
    refine z_aload_n (pc' := 16) hM17 rfl rfl rfl ?_
    refine z_iload_n (pc' := 17) hM17 rfl rfl rfl ?_
    obtain ⟨z5, s6, h7, hm⟩ := o_c hm
    refine z_cv (d := d + 2) (pc' := 20) hM17 rfl hM16 rfl rfl rfl rfl rfl rfl (c16 (d := d) hG h7) rfl ?_
    refine z_cmpge (pc' := 23) (t := 25) hM17 rfl rfl (fun h8 => ?_) (fun h8 => ?_)
    · replace hm := o_t hm h8
      refine z_iload_n (pc' := 24) hM17 rfl rfl rfl ?_
      refine z_istore_n (pc' := 25) (l' := [some (zr 2 0 24), some (zi x2), some (zi x2)]) hM17 rfl rfl rfl rfl ?_
      obtain ⟨z9, ez9, h10, hm⟩ := o_z hm
      refine z_iinc (pc' := 28) (l' := [some (zr 2 0 24), some (zi x2), some (zi z9)]) hM17 rfl rfl rfl ez9 h10 rfl rfl ?_
      refine z_goto (t := 4) hM17 rfl ?_
      exact ih hm
    · replace hm := o_f hm h8
      obtain ⟨z11, ez11, h12, hm⟩ := o_z hm
      refine z_iinc (pc' := 28) (l' := [some (zr 2 0 24), some (zi x1), some (zi z11)]) hM17 rfl rfl rfl ez11 h12 rfl rfl ?_
      refine z_goto (t := 4) hM17 rfl ?_
      exact ih hm
def m17  (s : zS) : Option (Int × zS) := m17_4 zFu (0 : Int) (1 : Int) s
theorem c17 {G : aHp} {d : Nat} (hG : zG G) {s : zS} {r_ : Int} {s_ : zS} (hm : m17  s = some (r_, s_)) : Zp G (d + 3) 17 0 [some (zr 2 0 24), none, none] [] s (zRet (some (zi r_)) s_) := by
  replace hm : (m17_4 zFu (0 : Int) (1 : Int) s) = some (r_, s_) := hm
  refine z_iconst (pc' := 1) hM17 rfl rfl rfl ?_
  refine z_istore_n (pc' := 2) (l' := [some (zr 2 0 24), some (zi (0 : Int)), none]) hM17 rfl rfl rfl rfl ?_
  refine z_iconst (pc' := 3) hM17 rfl rfl rfl ?_
  refine z_istore_n (pc' := 4) (l' := [some (zr 2 0 24), some (zi (0 : Int)), some (zi (1 : Int))]) hM17 rfl rfl rfl rfl ?_
  exact c17_4 hG hm
def m19 (a0 : Nat) (x1 : Int) (s : zS) : Option (Int × zS) := oV (s.1 a0 2) fun z1 => if z1 < (1600 : Int) then oV (s.1 a0 2) fun z3 => oX z3 1600 (oV (sI s (a0 + 1) z3 x1) fun s4 => oV (s4.1 a0 2) fun z6 => oZ (z6 + (1 : Int)) fun z7 => oV (sI s4 a0 2 z7) fun s9 => some (0, s9)) else some (0, s)
theorem c19 {G : aHp} {d : Nat} (hG : zG G) {a0 : Nat} {x1 : Int} {s : zS} {r_ : Int} {s_ : zS} (hm : m19 a0 x1 s = some (r_, s_)) : Zp G (d + 1) 19 0 [some (zr 3 0 a0), some (zi x1)] [] s (zRet none s_) := by
  replace hm : (oV (s.1 a0 2) fun z1 => if z1 < (1600 : Int) then oV (s.1 a0 2) fun z3 => oX z3 1600 (oV (sI s (a0 + 1) z3 x1) fun s4 => oV (s4.1 a0 2) fun z6 => oZ (z6 + (1 : Int)) fun z7 => oV (sI s4 a0 2 z7) fun s9 => some (0, s9)) else some (0, s)) = some (r_, s_) := hm
  refine z_aload_n (pc' := 1) hM19 rfl rfl rfl ?_
  obtain ⟨z1, ez1, hm⟩ := o_v hm
  refine z_fldI (pc' := 4) hM19 rfl rfl rfl ez1 ?_
  refine z_sipush (pc' := 7) hM19 rfl rfl rfl ?_
  refine z_cmpge (pc' := 10) (t := 30) hM19 rfl rfl (fun h2 => ?_) (fun h2 => ?_)
  · replace hm := o_t hm h2
    refine z_aload_n (pc' := 11) hM19 rfl rfl rfl ?_
    refine z_fldR (pc' := 14) hM19 rfl (zf_3_0 hG) rfl rfl ?_
    refine z_aload_n (pc' := 15) hM19 rfl rfl rfl ?_
    obtain ⟨z3, ez3, hm⟩ := o_v hm
    refine z_fldI (pc' := 18) hM19 rfl rfl rfl ez3 ?_
    refine z_iload_n (pc' := 19) hM19 rfl rfl rfl ?_
    obtain ⟨h5, hm⟩ := o_x hm
    obtain ⟨s4, es4, hm⟩ := o_v hm
    refine z_iast (pc' := 20) hM19 rfl rfl h5 es4 ?_
    refine z_aload_n (pc' := 21) hM19 rfl rfl rfl ?_
    refine z_dupA (pc' := 22) hM19 rfl rfl ?_
    obtain ⟨z6, ez6, hm⟩ := o_v hm
    refine z_fldI (pc' := 25) hM19 rfl rfl rfl ez6 ?_
    refine z_iconst (pc' := 26) hM19 rfl rfl rfl ?_
    obtain ⟨z7, ez7, h8, hm⟩ := o_z hm
    refine z_iadd (pc' := 27) hM19 rfl rfl ez7 h8 ?_
    obtain ⟨s9, es9, hm⟩ := o_v hm
    refine z_putI (pc' := 30) hM19 rfl rfl rfl es9 ?_
    cases hm
    exact z_retV hM19 rfl rfl ⟨rfl, rfl⟩
  · replace hm := o_f hm h2
    cases hm
    exact z_retV hM19 rfl rfl ⟨rfl, rfl⟩
def m76_154 (x1 : Int) (x2 : Int) (x3 : Int) (x4 : Int) (s : zS) : Option (Int × zS) := oV (sI s 1 8 x3) fun s1 => if x4 = (0 : Int) then some (0, s1) else if x2 = (0 : Int) then some (0, s1) else oV (s1.1 1 4) fun z4 => if z4 = x1 then oV (sI s1 1 3 (5 : Int)) fun s6 => some (0, s6) else some (0, s1)
set_option maxRecDepth 20000 in
theorem c76_154 {G : aHp} {d : Nat} (hG : zG G) {x1 : Int} {x2 : Int} {x3 : Int} {x4 : Int} {s : zS} {r_ : Int} {s_ : zS} (hm : m76_154 x1 x2 x3 x4 s = some (r_, s_)) : Zp G (d + 1) 76 154 [some (zr 8 0 1), some (zi x1), some (zi x2), some (zi x3), some (zi x4)] [] s (zRet none s_) := by
  replace hm : (oV (sI s 1 8 x3) fun s1 => if x4 = (0 : Int) then some (0, s1) else if x2 = (0 : Int) then some (0, s1) else oV (s1.1 1 4) fun z4 => if z4 = x1 then oV (sI s1 1 3 (5 : Int)) fun s6 => some (0, s6) else some (0, s1)) = some (r_, s_) := hm
  refine z_aload_n (pc' := 155) hM76 rfl rfl rfl ?_
  refine z_iload_n (pc' := 156) hM76 rfl rfl rfl ?_
  obtain ⟨s1, es1, hm⟩ := o_v hm
  refine z_putI (pc' := 159) hM76 rfl rfl rfl es1 ?_
  refine z_iload (pc' := 161) hM76 rfl rfl rfl ?_
  refine z_ifeq (pc' := 164) (t := 181) hM76 rfl rfl (fun h2 => ?_) (fun h2 => ?_)
  · replace hm := o_t hm h2
    cases hm
    exact z_retV hM76 rfl rfl ⟨rfl, rfl⟩
  · replace hm := o_f hm h2
    refine z_iload_n (pc' := 165) hM76 rfl rfl rfl ?_
    refine z_ifeq (pc' := 168) (t := 181) hM76 rfl rfl (fun h3 => ?_) (fun h3 => ?_)
    · replace hm := o_t hm h3
      cases hm
      exact z_retV hM76 rfl rfl ⟨rfl, rfl⟩
    · replace hm := o_f hm h3
      refine z_aload_n (pc' := 169) hM76 rfl rfl rfl ?_
      obtain ⟨z4, ez4, hm⟩ := o_v hm
      refine z_fldI (pc' := 172) hM76 rfl rfl rfl ez4 ?_
      refine z_iload_n (pc' := 173) hM76 rfl rfl rfl ?_
      refine z_cmpne (pc' := 176) (t := 181) hM76 rfl rfl (fun h5 => ?_) (fun h5 => ?_)
      · replace hm := o_t hm h5
        refine z_aload_n (pc' := 177) hM76 rfl rfl rfl ?_
        refine z_iconst (pc' := 178) hM76 rfl rfl rfl ?_
        obtain ⟨s6, es6, hm⟩ := o_v hm
        refine z_putI (pc' := 181) hM76 rfl rfl rfl es6 ?_
        cases hm
        exact z_retV hM76 rfl rfl ⟨rfl, rfl⟩
      · replace hm := o_f hm h5
        cases hm
        exact z_retV hM76 rfl rfl ⟨rfl, rfl⟩
def m76_117 : Nat → Int → Int → Int → Int → zS → Option (Int × zS)
  | 0, _, _, _, _, _ => none
  | n + 1, x1, x2, x3, x4, s => if x4 = (0 : Int) then m76_154 x1 x2 x3 x4 s else oV (s.1 1 2) fun z2 => if x3 < z2 then oX x3 1600 (oV (s.1 2 x3) fun z4 => oX z4 256 (oV (s.1 4 z4) fun z6 => oV (s.1 1 3) fun z8 => if z6 = z8 then oZ (x3 + (1 : Int)) fun z10 => m76_117 n x1 x2 z10 x4 s else m76_154 x1 x2 x3 x4 s)) else m76_154 x1 x2 x3 x4 s
set_option maxRecDepth 20000 in
theorem c76_117 {G : aHp} {d : Nat} (hG : zG G) : ∀ {n : Nat} {x1 : Int} {x2 : Int} {x3 : Int} {x4 : Int} {s : zS} {r_ : Int} {s_ : zS}, m76_117 n x1 x2 x3 x4 s = some (r_, s_) → Zp G (d + 1) 76 117 [some (zr 8 0 1), some (zi x1), some (zi x2), some (zi x3), some (zi x4)] [] s (zRet none s_) := by
  intro n
  induction n with
  | zero => intro x1 x2 x3 x4 s r_ s_ hm; cases hm
  | succ n ih =>
  intro x1 x2 x3 x4 s r_ s_ hm
  replace hm : (if x4 = (0 : Int) then m76_154 x1 x2 x3 x4 s else oV (s.1 1 2) fun z2 => if x3 < z2 then oX x3 1600 (oV (s.1 2 x3) fun z4 => oX z4 256 (oV (s.1 4 z4) fun z6 => oV (s.1 1 3) fun z8 => if z6 = z8 then oZ (x3 + (1 : Int)) fun z10 => m76_117 n x1 x2 z10 x4 s else m76_154 x1 x2 x3 x4 s)) else m76_154 x1 x2 x3 x4 s) = some (r_, s_) := hm
  refine z_iload (pc' := 119) hM76 rfl rfl rfl ?_
  refine z_ifeq (pc' := 122) (t := 154) hM76 rfl rfl (fun h1 => ?_) (fun h1 => ?_)
  · replace hm := o_t hm h1
    exact c76_154 hG hm
  · replace hm := o_f hm h1
    refine z_iload_n (pc' := 123) hM76 rfl rfl rfl ?_
    refine z_aload_n (pc' := 124) hM76 rfl rfl rfl ?_
    obtain ⟨z2, ez2, hm⟩ := o_v hm
    refine z_fldI (pc' := 127) hM76 rfl rfl rfl ez2 ?_
    refine z_cmpge (pc' := 130) (t := 154) hM76 rfl rfl (fun h3 => ?_) (fun h3 => ?_)
    · replace hm := o_t hm h3
      refine z_aload_n (pc' := 131) hM76 rfl rfl rfl ?_
      refine z_fldR (pc' := 134) hM76 rfl (zf_8_7 hG) rfl rfl ?_
      refine z_aload_n (pc' := 135) hM76 rfl rfl rfl ?_
      refine z_fldR (pc' := 138) hM76 rfl (zf_8_0 hG) rfl rfl ?_
      refine z_iload_n (pc' := 139) hM76 rfl rfl rfl ?_
      obtain ⟨h5, hm⟩ := o_x hm
      obtain ⟨z4, ez4, hm⟩ := o_v hm
      refine z_iald (pc' := 140) (zGN hG) hM76 rfl rfl h5 ez4 ?_
      obtain ⟨h7, hm⟩ := o_x hm
      obtain ⟨z6, ez6, hm⟩ := o_v hm
      refine z_iald (pc' := 141) (zGN hG) hM76 rfl rfl h7 ez6 ?_
      refine z_aload_n (pc' := 142) hM76 rfl rfl rfl ?_
      obtain ⟨z8, ez8, hm⟩ := o_v hm
      refine z_fldI (pc' := 145) hM76 rfl rfl rfl ez8 ?_
      refine z_cmpne (pc' := 148) (t := 154) hM76 rfl rfl (fun h9 => ?_) (fun h9 => ?_)
      · replace hm := o_t hm h9
        obtain ⟨z10, ez10, h11, hm⟩ := o_z hm
        refine z_iinc (pc' := 151) (l' := [some (zr 8 0 1), some (zi x1), some (zi x2), some (zi z10), some (zi x4)]) hM76 rfl rfl rfl ez10 h11 rfl rfl ?_
        refine z_goto (t := 117) hM76 rfl ?_
        exact ih hm
      · replace hm := o_f hm h9
        exact c76_154 hG hm
    · replace hm := o_f hm h3
      exact c76_154 hG hm
def m76_94 (x1 : Int) (x2 : Int) (x3 : Int) (s : zS) : Option (Int × zS) := oV (s.1 1 3) fun z1 => if z1 = (1 : Int) then m76_117 zFu x1 x2 x3 (1 : Int) s else oV (s.1 1 3) fun z3 => if z3 = (2 : Int) then m76_117 zFu x1 x2 x3 (1 : Int) s else m76_117 zFu x1 x2 x3 (0 : Int) s
set_option maxRecDepth 20000 in
theorem c76_94 {G : aHp} {d : Nat} (hG : zG G) {x1 : Int} {x2 : Int} {x3 : Int} {d4 : Option zV} {s : zS} {r_ : Int} {s_ : zS} (hm : m76_94 x1 x2 x3 s = some (r_, s_)) : Zp G (d + 1) 76 94 [some (zr 8 0 1), some (zi x1), some (zi x2), some (zi x3), d4] [] s (zRet none s_) := by
  replace hm : (oV (s.1 1 3) fun z1 => if z1 = (1 : Int) then m76_117 zFu x1 x2 x3 (1 : Int) s else oV (s.1 1 3) fun z3 => if z3 = (2 : Int) then m76_117 zFu x1 x2 x3 (1 : Int) s else m76_117 zFu x1 x2 x3 (0 : Int) s) = some (r_, s_) := hm
  refine z_aload_n (pc' := 95) hM76 rfl rfl rfl ?_
  obtain ⟨z1, ez1, hm⟩ := o_v hm
  refine z_fldI (pc' := 98) hM76 rfl rfl rfl ez1 ?_
  refine z_iconst (pc' := 99) hM76 rfl rfl rfl ?_
  refine z_cmpeq (pc' := 102) (t := 110) hM76 rfl rfl (fun h2 => ?_) (fun h2 => ?_)
  · replace hm := o_t hm h2
    refine z_iconst (pc' := 111) hM76 rfl rfl rfl ?_
    refine z_goto (t := 115) hM76 rfl ?_
    refine z_istore (pc' := 117) (l' := [some (zr 8 0 1), some (zi x1), some (zi x2), some (zi x3), some (zi (1 : Int))]) hM76 rfl rfl rfl rfl ?_
    exact c76_117 hG hm
  · replace hm := o_f hm h2
    refine z_aload_n (pc' := 103) hM76 rfl rfl rfl ?_
    obtain ⟨z3, ez3, hm⟩ := o_v hm
    refine z_fldI (pc' := 106) hM76 rfl rfl rfl ez3 ?_
    refine z_iconst (pc' := 107) hM76 rfl rfl rfl ?_
    refine z_cmpne (pc' := 110) (t := 114) hM76 rfl rfl (fun h4 => ?_) (fun h4 => ?_)
    · replace hm := o_t hm h4
      refine z_iconst (pc' := 111) hM76 rfl rfl rfl ?_
      refine z_goto (t := 115) hM76 rfl ?_
      refine z_istore (pc' := 117) (l' := [some (zr 8 0 1), some (zi x1), some (zi x2), some (zi x3), some (zi (1 : Int))]) hM76 rfl rfl rfl rfl ?_
      exact c76_117 hG hm
    · replace hm := o_f hm h4
      refine z_iconst (pc' := 115) hM76 rfl rfl rfl ?_
      refine z_istore (pc' := 117) (l' := [some (zr 8 0 1), some (zi x1), some (zi x2), some (zi x3), some (zi (0 : Int))]) hM76 rfl rfl rfl rfl ?_
      exact c76_117 hG hm
def m76_58 (x1 : Int) (x2 : Int) (x3 : Int) (s : zS) : Option (Int × zS) := oV (sI s 1 4 x3) fun s1 => oV (sI s1 1 3 (0 : Int)) fun s2 => oV (s2.1 1 2) fun z3 => if x3 < z3 then oX x3 1600 (oV (s2.1 2 x3) fun z5 => oX z5 256 (oV (s2.1 4 z5) fun z7 => oV (sI s2 1 3 z7) fun s9 => oZ (x3 + (1 : Int)) fun z10 => m76_94 x1 x2 z10 s9)) else m76_94 x1 x2 x3 s2
set_option maxRecDepth 20000 in
theorem c76_58 {G : aHp} {d : Nat} (hG : zG G) {x1 : Int} {x2 : Int} {x3 : Int} {d4 : Option zV} {s : zS} {r_ : Int} {s_ : zS} (hm : m76_58 x1 x2 x3 s = some (r_, s_)) : Zp G (d + 1) 76 58 [some (zr 8 0 1), some (zi x1), some (zi x2), some (zi x3), d4] [] s (zRet none s_) := by
  replace hm : (oV (sI s 1 4 x3) fun s1 => oV (sI s1 1 3 (0 : Int)) fun s2 => oV (s2.1 1 2) fun z3 => if x3 < z3 then oX x3 1600 (oV (s2.1 2 x3) fun z5 => oX z5 256 (oV (s2.1 4 z5) fun z7 => oV (sI s2 1 3 z7) fun s9 => oZ (x3 + (1 : Int)) fun z10 => m76_94 x1 x2 z10 s9)) else m76_94 x1 x2 x3 s2) = some (r_, s_) := hm
  refine z_aload_n (pc' := 59) hM76 rfl rfl rfl ?_
  refine z_iload_n (pc' := 60) hM76 rfl rfl rfl ?_
  obtain ⟨s1, es1, hm⟩ := o_v hm
  refine z_putI (pc' := 63) hM76 rfl rfl rfl es1 ?_
  refine z_aload_n (pc' := 64) hM76 rfl rfl rfl ?_
  refine z_iconst (pc' := 65) hM76 rfl rfl rfl ?_
  obtain ⟨s2, es2, hm⟩ := o_v hm
  refine z_putI (pc' := 68) hM76 rfl rfl rfl es2 ?_
  refine z_iload_n (pc' := 69) hM76 rfl rfl rfl ?_
  refine z_aload_n (pc' := 70) hM76 rfl rfl rfl ?_
  obtain ⟨z3, ez3, hm⟩ := o_v hm
  refine z_fldI (pc' := 73) hM76 rfl rfl rfl ez3 ?_
  refine z_cmpge (pc' := 76) (t := 94) hM76 rfl rfl (fun h4 => ?_) (fun h4 => ?_)
  · replace hm := o_t hm h4
    refine z_aload_n (pc' := 77) hM76 rfl rfl rfl ?_
    refine z_aload_n (pc' := 78) hM76 rfl rfl rfl ?_
    refine z_fldR (pc' := 81) hM76 rfl (zf_8_7 hG) rfl rfl ?_
    refine z_aload_n (pc' := 82) hM76 rfl rfl rfl ?_
    refine z_fldR (pc' := 85) hM76 rfl (zf_8_0 hG) rfl rfl ?_
    refine z_iload_n (pc' := 86) hM76 rfl rfl rfl ?_
    obtain ⟨h6, hm⟩ := o_x hm
    obtain ⟨z5, ez5, hm⟩ := o_v hm
    refine z_iald (pc' := 87) (zGN hG) hM76 rfl rfl h6 ez5 ?_
    obtain ⟨h8, hm⟩ := o_x hm
    obtain ⟨z7, ez7, hm⟩ := o_v hm
    refine z_iald (pc' := 88) (zGN hG) hM76 rfl rfl h8 ez7 ?_
    obtain ⟨s9, es9, hm⟩ := o_v hm
    refine z_putI (pc' := 91) hM76 rfl rfl rfl es9 ?_
    obtain ⟨z10, ez10, h11, hm⟩ := o_z hm
    refine z_iinc (pc' := 94) (l' := [some (zr 8 0 1), some (zi x1), some (zi x2), some (zi z10), d4]) hM76 rfl rfl rfl ez10 h11 rfl rfl ?_
    exact c76_94 hG hm
  · replace hm := o_f hm h4
    exact c76_94 hG hm
def m76_29 : Nat → Int → Int → Int → zS → Option (Int × zS)
  | 0, _, _, _, _ => none
  | n + 1, x1, x2, x3, s => oV (s.1 1 2) fun z1 => if x3 < z1 then oX x3 1600 (oV (s.1 2 x3) fun z3 => oX z3 256 (oV (s.1 4 z3) fun z5 => if z5 = (4 : Int) then oZ (x3 + (1 : Int)) fun z8 => m76_29 n x1 x2 z8 s else m76_58 x1 x2 x3 s)) else m76_58 x1 x2 x3 s
set_option maxRecDepth 20000 in
theorem c76_29 {G : aHp} {d : Nat} (hG : zG G) : ∀ {n : Nat} {x1 : Int} {x2 : Int} {x3 : Int} {d4 : Option zV} {s : zS} {r_ : Int} {s_ : zS}, m76_29 n x1 x2 x3 s = some (r_, s_) → Zp G (d + 1) 76 29 [some (zr 8 0 1), some (zi x1), some (zi x2), some (zi x3), d4] [] s (zRet none s_) := by
  intro n
  induction n with
  | zero => intro x1 x2 x3 d4 s r_ s_ hm; cases hm
  | succ n ih =>
  intro x1 x2 x3 d4 s r_ s_ hm
  replace hm : (oV (s.1 1 2) fun z1 => if x3 < z1 then oX x3 1600 (oV (s.1 2 x3) fun z3 => oX z3 256 (oV (s.1 4 z3) fun z5 => if z5 = (4 : Int) then oZ (x3 + (1 : Int)) fun z8 => m76_29 n x1 x2 z8 s else m76_58 x1 x2 x3 s)) else m76_58 x1 x2 x3 s) = some (r_, s_) := hm
  refine z_iload_n (pc' := 30) hM76 rfl rfl rfl ?_
  refine z_aload_n (pc' := 31) hM76 rfl rfl rfl ?_
  obtain ⟨z1, ez1, hm⟩ := o_v hm
  refine z_fldI (pc' := 34) hM76 rfl rfl rfl ez1 ?_
  refine z_cmpge (pc' := 37) (t := 58) hM76 rfl rfl (fun h2 => ?_) (fun h2 => ?_)
  · replace hm := o_t hm h2
    refine z_aload_n (pc' := 38) hM76 rfl rfl rfl ?_
    refine z_fldR (pc' := 41) hM76 rfl (zf_8_7 hG) rfl rfl ?_
    refine z_aload_n (pc' := 42) hM76 rfl rfl rfl ?_
    refine z_fldR (pc' := 45) hM76 rfl (zf_8_0 hG) rfl rfl ?_
    refine z_iload_n (pc' := 46) hM76 rfl rfl rfl ?_
    obtain ⟨h4, hm⟩ := o_x hm
    obtain ⟨z3, ez3, hm⟩ := o_v hm
    refine z_iald (pc' := 47) (zGN hG) hM76 rfl rfl h4 ez3 ?_
    obtain ⟨h6, hm⟩ := o_x hm
    obtain ⟨z5, ez5, hm⟩ := o_v hm
    refine z_iald (pc' := 48) (zGN hG) hM76 rfl rfl h6 ez5 ?_
    refine z_iconst (pc' := 49) hM76 rfl rfl rfl ?_
    refine z_cmpne (pc' := 52) (t := 58) hM76 rfl rfl (fun h7 => ?_) (fun h7 => ?_)
    · replace hm := o_t hm h7
      obtain ⟨z8, ez8, h9, hm⟩ := o_z hm
      refine z_iinc (pc' := 55) (l' := [some (zr 8 0 1), some (zi x1), some (zi x2), some (zi z8), d4]) hM76 rfl rfl rfl ez8 h9 rfl rfl ?_
      refine z_goto (t := 29) hM76 rfl ?_
      exact ih hm
    · replace hm := o_f hm h7
      exact c76_58 hG hm
  · replace hm := o_f hm h2
    exact c76_58 hG hm
def m76  (s : zS) : Option (Int × zS) := oV (s.1 1 8) fun z1 => oV (s.1 1 3) fun z2 => if z2 = (1 : Int) then m76_29 zFu z1 (1 : Int) z1 s else oV (s.1 1 3) fun z4 => if z4 = (2 : Int) then m76_29 zFu z1 (1 : Int) z1 s else m76_29 zFu z1 (0 : Int) z1 s
set_option maxRecDepth 20000 in
theorem c76 {G : aHp} {d : Nat} (hG : zG G) {s : zS} {r_ : Int} {s_ : zS} (hm : m76  s = some (r_, s_)) : Zp G (d + 1) 76 0 [some (zr 8 0 1), none, none, none, none] [] s (zRet none s_) := by
  replace hm : (oV (s.1 1 8) fun z1 => oV (s.1 1 3) fun z2 => if z2 = (1 : Int) then m76_29 zFu z1 (1 : Int) z1 s else oV (s.1 1 3) fun z4 => if z4 = (2 : Int) then m76_29 zFu z1 (1 : Int) z1 s else m76_29 zFu z1 (0 : Int) z1 s) = some (r_, s_) := hm
  refine z_aload_n (pc' := 1) hM76 rfl rfl rfl ?_
  obtain ⟨z1, ez1, hm⟩ := o_v hm
  refine z_fldI (pc' := 4) hM76 rfl rfl rfl ez1 ?_
  refine z_istore_n (pc' := 5) (l' := [some (zr 8 0 1), some (zi z1), none, none, none]) hM76 rfl rfl rfl rfl ?_
  refine z_aload_n (pc' := 6) hM76 rfl rfl rfl ?_
  obtain ⟨z2, ez2, hm⟩ := o_v hm
  refine z_fldI (pc' := 9) hM76 rfl rfl rfl ez2 ?_
  refine z_iconst (pc' := 10) hM76 rfl rfl rfl ?_
  refine z_cmpeq (pc' := 13) (t := 21) hM76 rfl rfl (fun h3 => ?_) (fun h3 => ?_)
  · replace hm := o_t hm h3
    refine z_iconst (pc' := 22) hM76 rfl rfl rfl ?_
    refine z_goto (t := 26) hM76 rfl ?_
    refine z_istore_n (pc' := 27) (l' := [some (zr 8 0 1), some (zi z1), some (zi (1 : Int)), none, none]) hM76 rfl rfl rfl rfl ?_
    refine z_iload_n (pc' := 28) hM76 rfl rfl rfl ?_
    refine z_istore_n (pc' := 29) (l' := [some (zr 8 0 1), some (zi z1), some (zi (1 : Int)), some (zi z1), none]) hM76 rfl rfl rfl rfl ?_
    exact c76_29 hG hm
  · replace hm := o_f hm h3
    refine z_aload_n (pc' := 14) hM76 rfl rfl rfl ?_
    obtain ⟨z4, ez4, hm⟩ := o_v hm
    refine z_fldI (pc' := 17) hM76 rfl rfl rfl ez4 ?_
    refine z_iconst (pc' := 18) hM76 rfl rfl rfl ?_
    refine z_cmpne (pc' := 21) (t := 25) hM76 rfl rfl (fun h5 => ?_) (fun h5 => ?_)
    · replace hm := o_t hm h5
      refine z_iconst (pc' := 22) hM76 rfl rfl rfl ?_
      refine z_goto (t := 26) hM76 rfl ?_
      refine z_istore_n (pc' := 27) (l' := [some (zr 8 0 1), some (zi z1), some (zi (1 : Int)), none, none]) hM76 rfl rfl rfl rfl ?_
      refine z_iload_n (pc' := 28) hM76 rfl rfl rfl ?_
      refine z_istore_n (pc' := 29) (l' := [some (zr 8 0 1), some (zi z1), some (zi (1 : Int)), some (zi z1), none]) hM76 rfl rfl rfl rfl ?_
      exact c76_29 hG hm
    · replace hm := o_f hm h5
      refine z_iconst (pc' := 26) hM76 rfl rfl rfl ?_
      refine z_istore_n (pc' := 27) (l' := [some (zr 8 0 1), some (zi z1), some (zi (0 : Int)), none, none]) hM76 rfl rfl rfl rfl ?_
      refine z_iload_n (pc' := 28) hM76 rfl rfl rfl ?_
      refine z_istore_n (pc' := 29) (l' := [some (zr 8 0 1), some (zi z1), some (zi (0 : Int)), some (zi z1), none]) hM76 rfl rfl rfl rfl ?_
      exact c76_29 hG hm
