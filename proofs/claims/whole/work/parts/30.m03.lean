/-! ===== methods (by gen_mir.py) ===== -/
def m24 (a1 : Nat) (s : zS) : Option (Int × zS) := oC (m76 s) fun z1 s2 => oC (m26 a1 (0 : Int) s2) fun z4 s5 => oC (M29 zRf1 (3 : Int) (0 : Int) s5) fun z7 s8 => oD z7 (some (z7, s8))
theorem c24 {G : aHp} {d : Nat} (hG : zG G) {a1 : Nat} {s : zS} {r_ : Int} {s_ : zS} (hm : m24 a1 s = some (r_, s_)) : Zp G (d + 329) 24 0 [some (zr 4 0 8), some (zr 3 0 a1)] [] s (zRet (some (zi r_)) s_) := by
  replace hm : (oC (m76 s) fun z1 s2 => oC (m26 a1 (0 : Int) s2) fun z4 s5 => oC (M29 zRf1 (3 : Int) (0 : Int) s5) fun z7 s8 => oD z7 (some (z7, s8))) = some (r_, s_) := hm
  refine z_aload_n (pc' := 1) hM24 rfl rfl rfl ?_
  refine z_fldR (pc' := 4) hM24 rfl (zf_4_0 hG) rfl rfl ?_
  obtain ⟨z1, s2, h3, hm⟩ := o_c hm
  refine z_cvV (d := d + 328) (pc' := 7) hM24 rfl hM76 rfl rfl rfl rfl rfl rfl (c76 (d := d + 327) hG h3) rfl ?_
  refine z_aload_n (pc' := 8) hM24 rfl rfl rfl ?_
  refine z_aload_n (pc' := 9) hM24 rfl rfl rfl ?_
  refine z_iconst (pc' := 10) hM24 rfl rfl rfl ?_
  obtain ⟨z4, s5, h6, hm⟩ := o_c hm
  refine z_cvV (d := d + 328) (pc' := 13) hM24 rfl hM26 rfl rfl rfl rfl rfl rfl (c26 (d := d + 327) hG h6) rfl ?_
  refine z_aload_n (pc' := 14) hM24 rfl rfl rfl ?_
  refine z_iconst (pc' := 15) hM24 rfl rfl rfl ?_
  refine z_iconst (pc' := 16) hM24 rfl rfl rfl ?_
  obtain ⟨z7, s8, h9, hm⟩ := o_c hm
  refine z_cv (d := d + 328) (pc' := 19) hM24 rfl hM29 rfl rfl rfl rfl rfl rfl (z_up (by unfold zRf1; omega) (C29 hG zRf1 h9)) rfl ?_
  obtain ⟨h10, hm⟩ := o_d hm
  cases hm
  exact z_retZ hM24 rfl rfl h10 ⟨rfl, rfl⟩
def m75  (s : zS) : Option (Int × zS) := oV (sI s 1 5 (0 : Int)) fun s1 => oV (sI s1 1 6 (-1 : Int)) fun s2 => oV (sI s2 1 3 (0 : Int)) fun s3 => oV (sI s3 1 8 (0 : Int)) fun s4 => oC (m76 s4) fun z5 s6 => some (0, s6)
theorem c75 {G : aHp} {d : Nat} (hG : zG G) {s : zS} {r_ : Int} {s_ : zS} (hm : m75  s = some (r_, s_)) : Zp G (d + 2) 75 0 [some (zr 8 0 1)] [] s (zRet none s_) := by
  replace hm : (oV (sI s 1 5 (0 : Int)) fun s1 => oV (sI s1 1 6 (-1 : Int)) fun s2 => oV (sI s2 1 3 (0 : Int)) fun s3 => oV (sI s3 1 8 (0 : Int)) fun s4 => oC (m76 s4) fun z5 s6 => some (0, s6)) = some (r_, s_) := hm
  refine z_aload_n (pc' := 1) hM75 rfl rfl rfl ?_
  refine z_iconst (pc' := 2) hM75 rfl rfl rfl ?_
  obtain ⟨s1, es1, hm⟩ := o_v hm
  refine z_putI (pc' := 5) hM75 rfl rfl rfl es1 ?_
  refine z_aload_n (pc' := 6) hM75 rfl rfl rfl ?_
  refine z_iconst (pc' := 7) hM75 rfl rfl rfl ?_
  obtain ⟨s2, es2, hm⟩ := o_v hm
  refine z_putI (pc' := 10) hM75 rfl rfl rfl es2 ?_
  refine z_aload_n (pc' := 11) hM75 rfl rfl rfl ?_
  refine z_iconst (pc' := 12) hM75 rfl rfl rfl ?_
  obtain ⟨s3, es3, hm⟩ := o_v hm
  refine z_putI (pc' := 15) hM75 rfl rfl rfl es3 ?_
  refine z_aload_n (pc' := 16) hM75 rfl rfl rfl ?_
  refine z_iconst (pc' := 17) hM75 rfl rfl rfl ?_
  obtain ⟨s4, es4, hm⟩ := o_v hm
  refine z_putI (pc' := 20) hM75 rfl rfl rfl es4 ?_
  refine z_aload_n (pc' := 21) hM75 rfl rfl rfl ?_
  obtain ⟨z5, s6, h7, hm⟩ := o_c hm
  refine z_cvV (d := d + 1) (pc' := 24) hM75 rfl hM76 rfl rfl rfl rfl rfl rfl (c76 (d := d) hG h7) rfl ?_
  cases hm
  exact z_retV hM75 rfl rfl ⟨rfl, rfl⟩
def m27  (s : zS) : Option (Int × zS) := oC (m80 34 s) fun z1 s2 => if z1 = (0 : Int) then oC (m80 35 s2) fun z5 s6 => if z5 = (0 : Int) then oC (m80 36 s6) fun z9 s10 => if z9 = (0 : Int) then oC (m80 37 s10) fun z13 s14 => if z13 = (0 : Int) then oC (m80 38 s14) fun z17 s18 => if z17 = (0 : Int) then oC (m80 39 s18) fun z21 s22 => if z21 = (0 : Int) then some ((-1 : Int), s22) else some ((5 : Int), s22) else some ((4 : Int), s18) else some ((3 : Int), s14) else some ((2 : Int), s10) else some ((1 : Int), s6) else some ((0 : Int), s2)
theorem c27 {G : aHp} {d : Nat} (hG : zG G) {s : zS} {r_ : Int} {s_ : zS} (hm : m27  s = some (r_, s_)) : Zp G (d + 6) 27 0 [some (zr 4 0 8)] [] s (zRet (some (zi r_)) s_) := by
  replace hm : (oC (m80 34 s) fun z1 s2 => if z1 = (0 : Int) then oC (m80 35 s2) fun z5 s6 => if z5 = (0 : Int) then oC (m80 36 s6) fun z9 s10 => if z9 = (0 : Int) then oC (m80 37 s10) fun z13 s14 => if z13 = (0 : Int) then oC (m80 38 s14) fun z17 s18 => if z17 = (0 : Int) then oC (m80 39 s18) fun z21 s22 => if z21 = (0 : Int) then some ((-1 : Int), s22) else some ((5 : Int), s22) else some ((4 : Int), s18) else some ((3 : Int), s14) else some ((2 : Int), s10) else some ((1 : Int), s6) else some ((0 : Int), s2)) = some (r_, s_) := hm
  refine z_aload_n (pc' := 1) hM27 rfl rfl rfl ?_
  refine z_fldR (pc' := 4) hM27 rfl (zf_4_0 hG) rfl rfl ?_
  refine z_ldcT (pc' := 6) hM27 rfl rfl rfl ?_
  obtain ⟨z1, s2, h3, hm⟩ := o_c hm
  refine z_cv (d := d + 5) (pc' := 9) hM27 rfl hM80 rfl rfl rfl rfl rfl rfl (c80 (d := d) hG h3) rfl ?_
  refine z_ifeq (pc' := 12) (t := 14) hM27 rfl rfl (fun h4 => ?_) (fun h4 => ?_)
  · replace hm := o_t hm h4
    refine z_aload_n (pc' := 15) hM27 rfl rfl rfl ?_
    refine z_fldR (pc' := 18) hM27 rfl (zf_4_0 hG) rfl rfl ?_
    refine z_ldcT (pc' := 20) hM27 rfl rfl rfl ?_
    obtain ⟨z5, s6, h7, hm⟩ := o_c hm
    refine z_cv (d := d + 5) (pc' := 23) hM27 rfl hM80 rfl rfl rfl rfl rfl rfl (c80 (d := d) hG h7) rfl ?_
    refine z_ifeq (pc' := 26) (t := 28) hM27 rfl rfl (fun h8 => ?_) (fun h8 => ?_)
    · replace hm := o_t hm h8
      refine z_aload_n (pc' := 29) hM27 rfl rfl rfl ?_
      refine z_fldR (pc' := 32) hM27 rfl (zf_4_0 hG) rfl rfl ?_
      refine z_ldcT (pc' := 34) hM27 rfl rfl rfl ?_
      obtain ⟨z9, s10, h11, hm⟩ := o_c hm
      refine z_cv (d := d + 5) (pc' := 37) hM27 rfl hM80 rfl rfl rfl rfl rfl rfl (c80 (d := d) hG h11) rfl ?_
      refine z_ifeq (pc' := 40) (t := 42) hM27 rfl rfl (fun h12 => ?_) (fun h12 => ?_)
      · replace hm := o_t hm h12
        refine z_aload_n (pc' := 43) hM27 rfl rfl rfl ?_
        refine z_fldR (pc' := 46) hM27 rfl (zf_4_0 hG) rfl rfl ?_
        refine z_ldcT (pc' := 48) hM27 rfl rfl rfl ?_
        obtain ⟨z13, s14, h15, hm⟩ := o_c hm
        refine z_cv (d := d + 5) (pc' := 51) hM27 rfl hM80 rfl rfl rfl rfl rfl rfl (c80 (d := d) hG h15) rfl ?_
        refine z_ifeq (pc' := 54) (t := 56) hM27 rfl rfl (fun h16 => ?_) (fun h16 => ?_)
        · replace hm := o_t hm h16
          refine z_aload_n (pc' := 57) hM27 rfl rfl rfl ?_
          refine z_fldR (pc' := 60) hM27 rfl (zf_4_0 hG) rfl rfl ?_
          refine z_ldcT (pc' := 62) hM27 rfl rfl rfl ?_
          obtain ⟨z17, s18, h19, hm⟩ := o_c hm
          refine z_cv (d := d + 5) (pc' := 65) hM27 rfl hM80 rfl rfl rfl rfl rfl rfl (c80 (d := d) hG h19) rfl ?_
          refine z_ifeq (pc' := 68) (t := 70) hM27 rfl rfl (fun h20 => ?_) (fun h20 => ?_)
          · replace hm := o_t hm h20
            refine z_aload_n (pc' := 71) hM27 rfl rfl rfl ?_
            refine z_fldR (pc' := 74) hM27 rfl (zf_4_0 hG) rfl rfl ?_
            refine z_ldcT (pc' := 76) hM27 rfl rfl rfl ?_
            obtain ⟨z21, s22, h23, hm⟩ := o_c hm
            refine z_cv (d := d + 5) (pc' := 79) hM27 rfl hM80 rfl rfl rfl rfl rfl rfl (c80 (d := d) hG h23) rfl ?_
            refine z_ifeq (pc' := 82) (t := 86) hM27 rfl rfl (fun h24 => ?_) (fun h24 => ?_)
            · replace hm := o_t hm h24
              refine z_iconst (pc' := 87) hM27 rfl rfl rfl ?_
              cases hm
              exact z_retI hM27 rfl rfl ⟨rfl, rfl⟩
            · replace hm := o_f hm h24
              refine z_iconst (pc' := 83) hM27 rfl rfl rfl ?_
              refine z_goto (t := 87) hM27 rfl ?_
              cases hm
              exact z_retI hM27 rfl rfl ⟨rfl, rfl⟩
          · replace hm := o_f hm h20
            refine z_iconst (pc' := 69) hM27 rfl rfl rfl ?_
            cases hm
            exact z_retI hM27 rfl rfl ⟨rfl, rfl⟩
        · replace hm := o_f hm h16
          refine z_iconst (pc' := 55) hM27 rfl rfl rfl ?_
          cases hm
          exact z_retI hM27 rfl rfl ⟨rfl, rfl⟩
      · replace hm := o_f hm h12
        refine z_iconst (pc' := 41) hM27 rfl rfl rfl ?_
        cases hm
        exact z_retI hM27 rfl rfl ⟨rfl, rfl⟩
    · replace hm := o_f hm h8
      refine z_iconst (pc' := 27) hM27 rfl rfl rfl ?_
      cases hm
      exact z_retI hM27 rfl rfl ⟨rfl, rfl⟩
  · replace hm := o_f hm h4
    refine z_iconst (pc' := 13) hM27 rfl rfl rfl ?_
    cases hm
    exact z_retI hM27 rfl rfl ⟨rfl, rfl⟩
def m25_51 (x2 : Int) (y1 : Int) (s : zS) : Option (Int × zS) := oC (M29 zRf1 y1 (0 : Int) s) fun z1 s2 => if z1 = (0 : Int) then some ((-1 : Int), s2) else oV (s2.1 1 3) fun z5 => if z5 = (0 : Int) then some (x2, s2) else oC (m78 s2) fun z7 s8 => some ((-1 : Int), s8)
theorem c25_51 {G : aHp} {d : Nat} (hG : zG G) {x2 : Int} {y1 : Int} {d1 : Option zV} {s : zS} {r_ : Int} {s_ : zS} (hm : m25_51 x2 y1 s = some (r_, s_)) : Zp G (d + 329) 25 51 [some (zr 4 0 8), d1, some (zi x2)] [zi y1, zr 4 0 8] s (zRet (some (zi r_)) s_) := by
  replace hm : (oC (M29 zRf1 y1 (0 : Int) s) fun z1 s2 => if z1 = (0 : Int) then some ((-1 : Int), s2) else oV (s2.1 1 3) fun z5 => if z5 = (0 : Int) then some (x2, s2) else oC (m78 s2) fun z7 s8 => some ((-1 : Int), s8)) = some (r_, s_) := hm
  refine z_iconst (pc' := 52) hM25 rfl rfl rfl ?_
  obtain ⟨z1, s2, h3, hm⟩ := o_c hm
  refine z_cv (d := d + 328) (pc' := 55) hM25 rfl hM29 rfl rfl rfl rfl rfl rfl (z_up (by unfold zRf1; omega) (C29 hG zRf1 h3)) rfl ?_
  refine z_ifne (pc' := 58) (t := 60) hM25 rfl rfl (fun h4 => ?_) (fun h4 => ?_)
  · replace hm := o_t hm h4
    refine z_iconst (pc' := 59) hM25 rfl rfl rfl ?_
    cases hm
    exact z_retI hM25 rfl rfl ⟨rfl, rfl⟩
  · replace hm := o_f hm h4
    refine z_aload_n (pc' := 61) hM25 rfl rfl rfl ?_
    refine z_fldR (pc' := 64) hM25 rfl (zf_4_0 hG) rfl rfl ?_
    obtain ⟨z5, ez5, hm⟩ := o_v hm
    refine z_fldI (pc' := 67) hM25 rfl rfl rfl ez5 ?_
    refine z_ifeq (pc' := 70) (t := 80) hM25 rfl rfl (fun h6 => ?_) (fun h6 => ?_)
    · replace hm := o_t hm h6
      refine z_iload_n (pc' := 81) hM25 rfl rfl rfl ?_
      cases hm
      exact z_retI hM25 rfl rfl ⟨rfl, rfl⟩
    · replace hm := o_f hm h6
      refine z_aload_n (pc' := 71) hM25 rfl rfl rfl ?_
      refine z_fldR (pc' := 74) hM25 rfl (zf_4_0 hG) rfl rfl ?_
      obtain ⟨z7, s8, h9, hm⟩ := o_c hm
      refine z_cv (d := d + 328) (pc' := 77) hM25 rfl hM78 rfl rfl rfl rfl rfl rfl (c78 (d := d + 327) hG h9) rfl ?_
      refine z_pop (pc' := 78) hM25 rfl rfl ?_
      refine z_iconst (pc' := 79) hM25 rfl rfl rfl ?_
      cases hm
      exact z_retI hM25 rfl rfl ⟨rfl, rfl⟩
def m25 (a1 : Nat) (s : zS) : Option (Int × zS) := oC (m75 s) fun z1 s2 => oC (m27 s2) fun z4 s5 => if z4 = (-1 : Int) then oC (m78 s5) fun z8 s9 => some ((-1 : Int), s9) else oC (m76 s5) fun z11 s12 => oC (m26 a1 (1 : Int) s12) fun z14 s15 => if (2 : Int) < z4 then m25_51 z4 (3 : Int) s15 else m25_51 z4 (0 : Int) s15
theorem c25 {G : aHp} {d : Nat} (hG : zG G) {a1 : Nat} {s : zS} {r_ : Int} {s_ : zS} (hm : m25 a1 s = some (r_, s_)) : Zp G (d + 329) 25 0 [some (zr 4 0 8), some (zr 3 0 a1), none] [] s (zRet (some (zi r_)) s_) := by
  replace hm : (oC (m75 s) fun z1 s2 => oC (m27 s2) fun z4 s5 => if z4 = (-1 : Int) then oC (m78 s5) fun z8 s9 => some ((-1 : Int), s9) else oC (m76 s5) fun z11 s12 => oC (m26 a1 (1 : Int) s12) fun z14 s15 => if (2 : Int) < z4 then m25_51 z4 (3 : Int) s15 else m25_51 z4 (0 : Int) s15) = some (r_, s_) := hm
  refine z_aload_n (pc' := 1) hM25 rfl rfl rfl ?_
  refine z_fldR (pc' := 4) hM25 rfl (zf_4_0 hG) rfl rfl ?_
  obtain ⟨z1, s2, h3, hm⟩ := o_c hm
  refine z_cvV (d := d + 328) (pc' := 7) hM25 rfl hM75 rfl rfl rfl rfl rfl rfl (c75 (d := d + 326) hG h3) rfl ?_
  refine z_aload_n (pc' := 8) hM25 rfl rfl rfl ?_
  obtain ⟨z4, s5, h6, hm⟩ := o_c hm
  refine z_cv (d := d + 328) (pc' := 11) hM25 rfl hM27 rfl rfl rfl rfl rfl rfl (c27 (d := d + 322) hG h6) rfl ?_
  refine z_istore_n (pc' := 12) (l' := [some (zr 4 0 8), some (zr 3 0 a1), some (zi z4)]) hM25 rfl rfl rfl rfl ?_
  refine z_iload_n (pc' := 13) hM25 rfl rfl rfl ?_
  refine z_iconst (pc' := 14) hM25 rfl rfl rfl ?_
  refine z_cmpne (pc' := 17) (t := 27) hM25 rfl rfl (fun h7 => ?_) (fun h7 => ?_)
  · replace hm := o_t hm h7
    refine z_aload_n (pc' := 18) hM25 rfl rfl rfl ?_
    refine z_fldR (pc' := 21) hM25 rfl (zf_4_0 hG) rfl rfl ?_
    obtain ⟨z8, s9, h10, hm⟩ := o_c hm
    refine z_cv (d := d + 328) (pc' := 24) hM25 rfl hM78 rfl rfl rfl rfl rfl rfl (c78 (d := d + 327) hG h10) rfl ?_
    refine z_pop (pc' := 25) hM25 rfl rfl ?_
    refine z_iconst (pc' := 26) hM25 rfl rfl rfl ?_
    cases hm
    exact z_retI hM25 rfl rfl ⟨rfl, rfl⟩
  · replace hm := o_f hm h7
    refine z_aload_n (pc' := 28) hM25 rfl rfl rfl ?_
    refine z_fldR (pc' := 31) hM25 rfl (zf_4_0 hG) rfl rfl ?_
    obtain ⟨z11, s12, h13, hm⟩ := o_c hm
    refine z_cvV (d := d + 328) (pc' := 34) hM25 rfl hM76 rfl rfl rfl rfl rfl rfl (c76 (d := d + 327) hG h13) rfl ?_
    refine z_aload_n (pc' := 35) hM25 rfl rfl rfl ?_
    refine z_aload_n (pc' := 36) hM25 rfl rfl rfl ?_
    refine z_iconst (pc' := 37) hM25 rfl rfl rfl ?_
    obtain ⟨z14, s15, h16, hm⟩ := o_c hm
    refine z_cvV (d := d + 328) (pc' := 40) hM25 rfl hM26 rfl rfl rfl rfl rfl rfl (c26 (d := d + 327) hG h16) rfl ?_
    refine z_aload_n (pc' := 41) hM25 rfl rfl rfl ?_
    refine z_iload_n (pc' := 42) hM25 rfl rfl rfl ?_
    refine z_iconst (pc' := 43) hM25 rfl rfl rfl ?_
    refine z_cmpgt (pc' := 46) (t := 50) hM25 rfl rfl (fun h17 => ?_) (fun h17 => ?_)
    · replace hm := o_t hm h17
      refine z_iconst (pc' := 51) hM25 rfl rfl rfl ?_
      exact c25_51 hG hm
    · replace hm := o_f hm h17
      refine z_iconst (pc' := 47) hM25 rfl rfl rfl ?_
      refine z_goto (t := 51) hM25 rfl ?_
      exact c25_51 hG hm
def m39 (a0 : Nat) (s : zS) : Option (Int × zS) := oV (sI s (a0 + 1) 0 (0 : Int)) fun s1 => oV (sI s1 (a0 + 3) 0 (0 : Int)) fun s2 => oV (sI s2 (a0 + 5) 0 (0 : Int)) fun s3 => oV (sI s3 (a0 + 17) 2 (0 : Int)) fun s4 => oV (sI s4 (a0 + 20) 2 (0 : Int)) fun s5 => oV (sI s5 a0 15 (0 : Int)) fun s6 => oV (sI s6 a0 16 (0 : Int)) fun s7 => oV (sI s7 a0 17 (0 : Int)) fun s8 => oV (sI s8 a0 18 (3 : Int)) fun s9 => oV (sI s9 a0 19 (0 : Int)) fun s10 => oC (m293 49 (a0 + 7) (1000 : Int) s10) fun z11 s12 => some (0, s12)
theorem c39 {G : aHp} {d : Nat} (hG : zG G) {a0 : Nat} {s : zS} {r_ : Int} {s_ : zS} (hm : m39 a0 s = some (r_, s_)) : Zp G (d + 2) 39 0 [some (zr 5 0 a0)] [] s (zRet none s_) := by
  replace hm : (oV (sI s (a0 + 1) 0 (0 : Int)) fun s1 => oV (sI s1 (a0 + 3) 0 (0 : Int)) fun s2 => oV (sI s2 (a0 + 5) 0 (0 : Int)) fun s3 => oV (sI s3 (a0 + 17) 2 (0 : Int)) fun s4 => oV (sI s4 (a0 + 20) 2 (0 : Int)) fun s5 => oV (sI s5 a0 15 (0 : Int)) fun s6 => oV (sI s6 a0 16 (0 : Int)) fun s7 => oV (sI s7 a0 17 (0 : Int)) fun s8 => oV (sI s8 a0 18 (3 : Int)) fun s9 => oV (sI s9 a0 19 (0 : Int)) fun s10 => oC (m293 49 (a0 + 7) (1000 : Int) s10) fun z11 s12 => some (0, s12)) = some (r_, s_) := hm
  refine z_aload_n (pc' := 1) hM39 rfl rfl rfl ?_
  refine z_fldR (pc' := 4) hM39 rfl (zf_5_0 hG) rfl rfl ?_
  refine z_iconst (pc' := 5) hM39 rfl rfl rfl ?_
  obtain ⟨s1, es1, hm⟩ := o_v hm
  refine z_putI (pc' := 8) hM39 rfl rfl rfl es1 ?_
  refine z_aload_n (pc' := 9) hM39 rfl rfl rfl ?_
  refine z_fldR (pc' := 12) hM39 rfl (zf_5_1 hG) rfl rfl ?_
  refine z_iconst (pc' := 13) hM39 rfl rfl rfl ?_
  obtain ⟨s2, es2, hm⟩ := o_v hm
  refine z_putI (pc' := 16) hM39 rfl rfl rfl es2 ?_
  refine z_aload_n (pc' := 17) hM39 rfl rfl rfl ?_
  refine z_fldR (pc' := 20) hM39 rfl (zf_5_2 hG) rfl rfl ?_
  refine z_iconst (pc' := 21) hM39 rfl rfl rfl ?_
  obtain ⟨s3, es3, hm⟩ := o_v hm
  refine z_putI (pc' := 24) hM39 rfl rfl rfl es3 ?_
  refine z_aload_n (pc' := 25) hM39 rfl rfl rfl ?_
  refine z_fldR (pc' := 28) hM39 rfl (zf_5_13 hG) rfl rfl ?_
  refine z_iconst (pc' := 29) hM39 rfl rfl rfl ?_
  obtain ⟨s4, es4, hm⟩ := o_v hm
  refine z_putI (pc' := 32) hM39 rfl rfl rfl es4 ?_
  refine z_aload_n (pc' := 33) hM39 rfl rfl rfl ?_
  refine z_fldR (pc' := 36) hM39 rfl (zf_5_14 hG) rfl rfl ?_
  refine z_iconst (pc' := 37) hM39 rfl rfl rfl ?_
  obtain ⟨s5, es5, hm⟩ := o_v hm
  refine z_putI (pc' := 40) hM39 rfl rfl rfl es5 ?_
  refine z_aload_n (pc' := 41) hM39 rfl rfl rfl ?_
  refine z_iconst (pc' := 42) hM39 rfl rfl rfl ?_
  obtain ⟨s6, es6, hm⟩ := o_v hm
  refine z_putI (pc' := 45) hM39 rfl rfl rfl es6 ?_
  refine z_aload_n (pc' := 46) hM39 rfl rfl rfl ?_
  refine z_iconst (pc' := 47) hM39 rfl rfl rfl ?_
  obtain ⟨s7, es7, hm⟩ := o_v hm
  refine z_putI (pc' := 50) hM39 rfl rfl rfl es7 ?_
  refine z_aload_n (pc' := 51) hM39 rfl rfl rfl ?_
  refine z_iconst (pc' := 52) hM39 rfl rfl rfl ?_
  obtain ⟨s8, es8, hm⟩ := o_v hm
  refine z_putI (pc' := 55) hM39 rfl rfl rfl es8 ?_
  refine z_aload_n (pc' := 56) hM39 rfl rfl rfl ?_
  refine z_iconst (pc' := 57) hM39 rfl rfl rfl ?_
  obtain ⟨s9, es9, hm⟩ := o_v hm
  refine z_putI (pc' := 60) hM39 rfl rfl rfl es9 ?_
  refine z_aload_n (pc' := 61) hM39 rfl rfl rfl ?_
  refine z_iconst (pc' := 62) hM39 rfl rfl rfl ?_
  obtain ⟨s10, es10, hm⟩ := o_v hm
  refine z_putI (pc' := 65) hM39 rfl rfl rfl es10 ?_
  refine z_aload_n (pc' := 66) hM39 rfl rfl rfl ?_
  refine z_fldR (pc' := 69) hM39 rfl (zf_5_3 hG) rfl rfl ?_
  refine z_sipush (pc' := 72) hM39 rfl rfl rfl ?_
  obtain ⟨z11, s12, h13, hm⟩ := o_c hm
  refine z_csV (d := d + 1) (pc' := 75) hM39 rfl hM293 rfl rfl rfl rfl (c293 (d := d) hG h13) rfl ?_
  cases hm
  exact z_retV hM39 rfl rfl ⟨rfl, rfl⟩
def m40 (a0 : Nat) (x1 : Int) (x2 : Int) (x3 : Int) (s : zS) : Option (Int × zS) := oZ (x1 * (7 : Int)) fun z1 => oZ (z1 + x2) fun z3 => oX z3 49 (oV (sI s (a0 + 7) z3 x3) fun s5 => oZ (x2 * (7 : Int)) fun z7 => oZ (z7 + x1) fun z9 => oX z9 49 (oV (sI s5 (a0 + 7) z9 x3) fun s11 => oV (s11.1 a0 16) fun z13 => oZ (z13 + (1 : Int)) fun z14 => oV (sI s11 a0 16 z14) fun s16 => some (0, s16)))
theorem c40 {G : aHp} {d : Nat} (hG : zG G) {a0 : Nat} {x1 : Int} {x2 : Int} {x3 : Int} {s : zS} {r_ : Int} {s_ : zS} (hm : m40 a0 x1 x2 x3 s = some (r_, s_)) : Zp G (d + 1) 40 0 [some (zr 5 0 a0), some (zi x1), some (zi x2), some (zi x3)] [] s (zRet none s_) := by
  replace hm : (oZ (x1 * (7 : Int)) fun z1 => oZ (z1 + x2) fun z3 => oX z3 49 (oV (sI s (a0 + 7) z3 x3) fun s5 => oZ (x2 * (7 : Int)) fun z7 => oZ (z7 + x1) fun z9 => oX z9 49 (oV (sI s5 (a0 + 7) z9 x3) fun s11 => oV (s11.1 a0 16) fun z13 => oZ (z13 + (1 : Int)) fun z14 => oV (sI s11 a0 16 z14) fun s16 => some (0, s16)))) = some (r_, s_) := hm
  refine z_aload_n (pc' := 1) hM40 rfl rfl rfl ?_
  refine z_fldR (pc' := 4) hM40 rfl (zf_5_3 hG) rfl rfl ?_
  refine z_iload_n (pc' := 5) hM40 rfl rfl rfl ?_
  refine z_bipush (pc' := 7) hM40 rfl rfl rfl ?_
  obtain ⟨z1, ez1, h2, hm⟩ := o_z hm
  refine z_imul (pc' := 8) hM40 rfl rfl ez1 h2 ?_
  refine z_iload_n (pc' := 9) hM40 rfl rfl rfl ?_
  obtain ⟨z3, ez3, h4, hm⟩ := o_z hm
  refine z_iadd (pc' := 10) hM40 rfl rfl ez3 h4 ?_
  refine z_iload_n (pc' := 11) hM40 rfl rfl rfl ?_
  obtain ⟨h6, hm⟩ := o_x hm
  obtain ⟨s5, es5, hm⟩ := o_v hm
  refine z_iast (pc' := 12) hM40 rfl rfl h6 es5 ?_
  refine z_aload_n (pc' := 13) hM40 rfl rfl rfl ?_
  refine z_fldR (pc' := 16) hM40 rfl (zf_5_3 hG) rfl rfl ?_
  refine z_iload_n (pc' := 17) hM40 rfl rfl rfl ?_
  refine z_bipush (pc' := 19) hM40 rfl rfl rfl ?_
  obtain ⟨z7, ez7, h8, hm⟩ := o_z hm
  refine z_imul (pc' := 20) hM40 rfl rfl ez7 h8 ?_
  refine z_iload_n (pc' := 21) hM40 rfl rfl rfl ?_
  obtain ⟨z9, ez9, h10, hm⟩ := o_z hm
  refine z_iadd (pc' := 22) hM40 rfl rfl ez9 h10 ?_
  refine z_iload_n (pc' := 23) hM40 rfl rfl rfl ?_
  obtain ⟨h12, hm⟩ := o_x hm
  obtain ⟨s11, es11, hm⟩ := o_v hm
  refine z_iast (pc' := 24) hM40 rfl rfl h12 es11 ?_
  refine z_aload_n (pc' := 25) hM40 rfl rfl rfl ?_
  refine z_dupA (pc' := 26) hM40 rfl rfl ?_
  obtain ⟨z13, ez13, hm⟩ := o_v hm
  refine z_fldI (pc' := 29) hM40 rfl rfl rfl ez13 ?_
  refine z_iconst (pc' := 30) hM40 rfl rfl rfl ?_
  obtain ⟨z14, ez14, h15, hm⟩ := o_z hm
  refine z_iadd (pc' := 31) hM40 rfl rfl ez14 h15 ?_
  obtain ⟨s16, es16, hm⟩ := o_v hm
  refine z_putI (pc' := 34) hM40 rfl rfl rfl es16 ?_
  cases hm
  exact z_retV hM40 rfl rfl ⟨rfl, rfl⟩
def m41 (a0 : Nat) (x1 : Int) (x2 : Int) (s : zS) : Option (Int × zS) := oZ (x1 * (7 : Int)) fun z1 => oZ (z1 + x2) fun z3 => oX z3 49 (oV (s.1 (a0 + 7) z3) fun z5 => if z5 = (1000 : Int) then some ((0 : Int), s) else some ((1 : Int), s))
theorem c41 {G : aHp} {d : Nat} (hG : zG G) {a0 : Nat} {x1 : Int} {x2 : Int} {s : zS} {r_ : Int} {s_ : zS} (hm : m41 a0 x1 x2 s = some (r_, s_)) : Zp G (d + 1) 41 0 [some (zr 5 0 a0), some (zi x1), some (zi x2)] [] s (zRet (some (zi r_)) s_) := by
  replace hm : (oZ (x1 * (7 : Int)) fun z1 => oZ (z1 + x2) fun z3 => oX z3 49 (oV (s.1 (a0 + 7) z3) fun z5 => if z5 = (1000 : Int) then some ((0 : Int), s) else some ((1 : Int), s))) = some (r_, s_) := hm
  refine z_aload_n (pc' := 1) hM41 rfl rfl rfl ?_
  refine z_fldR (pc' := 4) hM41 rfl (zf_5_3 hG) rfl rfl ?_
  refine z_iload_n (pc' := 5) hM41 rfl rfl rfl ?_
  refine z_bipush (pc' := 7) hM41 rfl rfl rfl ?_
  obtain ⟨z1, ez1, h2, hm⟩ := o_z hm
  refine z_imul (pc' := 8) hM41 rfl rfl ez1 h2 ?_
  refine z_iload_n (pc' := 9) hM41 rfl rfl rfl ?_
  obtain ⟨z3, ez3, h4, hm⟩ := o_z hm
  refine z_iadd (pc' := 10) hM41 rfl rfl ez3 h4 ?_
  obtain ⟨h6, hm⟩ := o_x hm
  obtain ⟨z5, ez5, hm⟩ := o_v hm
  refine z_iald (pc' := 11) (zGN hG) hM41 rfl rfl h6 ez5 ?_
  refine z_sipush (pc' := 14) hM41 rfl rfl rfl ?_
  refine z_cmpeq (pc' := 17) (t := 21) hM41 rfl rfl (fun h7 => ?_) (fun h7 => ?_)
  · replace hm := o_t hm h7
    refine z_iconst (pc' := 22) hM41 rfl rfl rfl ?_
    cases hm
    exact z_retZ hM41 rfl rfl (Or.inl rfl) ⟨rfl, rfl⟩
  · replace hm := o_f hm h7
    refine z_iconst (pc' := 18) hM41 rfl rfl rfl ?_
    refine z_goto (t := 22) hM41 rfl ?_
    cases hm
    exact z_retZ hM41 rfl rfl (Or.inr rfl) ⟨rfl, rfl⟩
def m43_2 : Nat → Nat → Int → Int → zS → Option (Int × zS)
  | 0, _, _, _, _ => none
  | n + 1, a0, x1, x2, s => oV (s.1 (a0 + 5) 0) fun z1 => if x2 < z1 then oX x2 6 (oV (s.1 (a0 + 16) x2) fun z3 => if z3 = x1 then some ((1 : Int), s) else oZ (x2 + (1 : Int)) fun z6 => m43_2 n a0 x1 z6 s) else some ((0 : Int), s)
theorem c43_2 {G : aHp} {d : Nat} (hG : zG G) : ∀ {n : Nat} {a0 : Nat} {x1 : Int} {x2 : Int} {s : zS} {r_ : Int} {s_ : zS}, m43_2 n a0 x1 x2 s = some (r_, s_) → Zp G (d + 1) 43 2 [some (zr 5 0 a0), some (zi x1), some (zi x2)] [] s (zRet (some (zi r_)) s_) := by
  intro n
  induction n with
  | zero => intro a0 x1 x2 s r_ s_ hm; cases hm
  | succ n ih =>
  intro a0 x1 x2 s r_ s_ hm
  replace hm : (oV (s.1 (a0 + 5) 0) fun z1 => if x2 < z1 then oX x2 6 (oV (s.1 (a0 + 16) x2) fun z3 => if z3 = x1 then some ((1 : Int), s) else oZ (x2 + (1 : Int)) fun z6 => m43_2 n a0 x1 z6 s) else some ((0 : Int), s)) = some (r_, s_) := hm
  refine z_iload_n (pc' := 3) hM43 rfl rfl rfl ?_
  refine z_aload_n (pc' := 4) hM43 rfl rfl rfl ?_
  refine z_fldR (pc' := 7) hM43 rfl (zf_5_2 hG) rfl rfl ?_
  obtain ⟨z1, ez1, hm⟩ := o_v hm
  refine z_fldI (pc' := 10) hM43 rfl rfl rfl ez1 ?_
  refine z_cmpge (pc' := 13) (t := 31) hM43 rfl rfl (fun h2 => ?_) (fun h2 => ?_)
  · replace hm := o_t hm h2
    refine z_aload_n (pc' := 14) hM43 rfl rfl rfl ?_
    refine z_fldR (pc' := 17) hM43 rfl (zf_5_12 hG) rfl rfl ?_
    refine z_iload_n (pc' := 18) hM43 rfl rfl rfl ?_
    obtain ⟨h4, hm⟩ := o_x hm
    obtain ⟨z3, ez3, hm⟩ := o_v hm
    refine z_iald (pc' := 19) (zGN hG) hM43 rfl rfl h4 ez3 ?_
    refine z_iload_n (pc' := 20) hM43 rfl rfl rfl ?_
    refine z_cmpne (pc' := 23) (t := 25) hM43 rfl rfl (fun h5 => ?_) (fun h5 => ?_)
    · replace hm := o_t hm h5
      refine z_iconst (pc' := 24) hM43 rfl rfl rfl ?_
      cases hm
      exact z_retZ hM43 rfl rfl (Or.inr rfl) ⟨rfl, rfl⟩
    · replace hm := o_f hm h5
      obtain ⟨z6, ez6, h7, hm⟩ := o_z hm
      refine z_iinc (pc' := 28) (l' := [some (zr 5 0 a0), some (zi x1), some (zi z6)]) hM43 rfl rfl rfl ez6 h7 rfl rfl ?_
      refine z_goto (t := 2) hM43 rfl ?_
      exact ih hm
  · replace hm := o_f hm h2
    refine z_iconst (pc' := 32) hM43 rfl rfl rfl ?_
    cases hm
    exact z_retZ hM43 rfl rfl (Or.inl rfl) ⟨rfl, rfl⟩
def m43 (a0 : Nat) (x1 : Int) (s : zS) : Option (Int × zS) := m43_2 zFu a0 x1 (0 : Int) s
theorem c43 {G : aHp} {d : Nat} (hG : zG G) {a0 : Nat} {x1 : Int} {s : zS} {r_ : Int} {s_ : zS} (hm : m43 a0 x1 s = some (r_, s_)) : Zp G (d + 1) 43 0 [some (zr 5 0 a0), some (zi x1), none] [] s (zRet (some (zi r_)) s_) := by
  replace hm : (m43_2 zFu a0 x1 (0 : Int) s) = some (r_, s_) := hm
  refine z_iconst (pc' := 1) hM43 rfl rfl rfl ?_
  refine z_istore_n (pc' := 2) (l' := [some (zr 5 0 a0), some (zi x1), some (zi (0 : Int))]) hM43 rfl rfl rfl rfl ?_
  exact c43_2 hG hm
def m45_77 (k64_ : Nat → Int → Int → zS → Option (Int × zS)) : Nat → Nat → Int → Int → Int → zS → Option (Int × zS)
  | 0, _, _, _, _, _ => none
  | n + 1, a0, x1, x2, x3, s => oV (s.1 (a0 + 1) 0) fun z1 => if x3 < z1 then oZ (x2 * (7 : Int)) fun z3 => oZ (z3 + x1) fun z5 => oX z5 49 (oV (s.1 (a0 + 8) z5) fun z7 => oZ (x1 * (7 : Int)) fun z9 => oZ (z9 + x3) fun z11 => oX z11 49 (oV (s.1 (a0 + 8) z11) fun z13 => oZ (z7 + z13) fun z15 => oZ (x2 * (7 : Int)) fun z17 => oZ (z17 + x3) fun z19 => oX z19 49 (oV (s.1 (a0 + 8) z19) fun z21 => oC (m290 z21 z15 s) fun z23 s24 => oX z19 49 (oV (sI s24 (a0 + 8) z19 z23) fun s26 => oZ (x3 + (1 : Int)) fun z28 => m45_77 k64_ n a0 x1 x2 z28 s26)))) else oZ (x2 + (1 : Int)) fun z30 => k64_ a0 x1 z30 s
set_option maxRecDepth 20000 in
theorem c45_77 {G : aHp} {d : Nat} {k64_ : Nat → Int → Int → zS → Option (Int × zS)} (hG : zG G) (hk64 : ∀ {a0 : Nat} {x1 : Int} {x2 : Int} {d3 d4 d5 : Option zV} {s : zS} {r_ : Int} {s_ : zS}, k64_ a0 x1 x2 s = some (r_, s_) → Zp G (d + 5) 45 64 [some (zr 5 0 a0), some (zi x1), some (zi x2), d3, d4, d5] [] s (zRet none s_)) : ∀ {n : Nat} {a0 : Nat} {x1 : Int} {x2 : Int} {x3 : Int} {d4 d5 : Option zV} {s : zS} {r_ : Int} {s_ : zS}, m45_77 k64_ n a0 x1 x2 x3 s = some (r_, s_) → Zp G (d + 5) 45 77 [some (zr 5 0 a0), some (zi x1), some (zi x2), some (zi x3), d4, d5] [] s (zRet none s_) := by
  intro n
  induction n with
  | zero => intro a0 x1 x2 x3 d4 d5 s r_ s_ hm; cases hm
  | succ n ih =>
  intro a0 x1 x2 x3 d4 d5 s r_ s_ hm
  replace hm : (oV (s.1 (a0 + 1) 0) fun z1 => if x3 < z1 then oZ (x2 * (7 : Int)) fun z3 => oZ (z3 + x1) fun z5 => oX z5 49 (oV (s.1 (a0 + 8) z5) fun z7 => oZ (x1 * (7 : Int)) fun z9 => oZ (z9 + x3) fun z11 => oX z11 49 (oV (s.1 (a0 + 8) z11) fun z13 => oZ (z7 + z13) fun z15 => oZ (x2 * (7 : Int)) fun z17 => oZ (z17 + x3) fun z19 => oX z19 49 (oV (s.1 (a0 + 8) z19) fun z21 => oC (m290 z21 z15 s) fun z23 s24 => oX z19 49 (oV (sI s24 (a0 + 8) z19 z23) fun s26 => oZ (x3 + (1 : Int)) fun z28 => m45_77 k64_ n a0 x1 x2 z28 s26)))) else oZ (x2 + (1 : Int)) fun z30 => k64_ a0 x1 z30 s) = some (r_, s_) := hm
  refine z_iload_n (pc' := 78) hM45 rfl rfl rfl ?_
  refine z_aload_n (pc' := 79) hM45 rfl rfl rfl ?_
  refine z_fldR (pc' := 82) hM45 rfl (zf_5_0 hG) rfl rfl ?_
  obtain ⟨z1, ez1, hm⟩ := o_v hm
  refine z_fldI (pc' := 85) hM45 rfl rfl rfl ez1 ?_
  refine z_cmpge (pc' := 88) (t := 146) hM45 rfl rfl (fun h2 => ?_) (fun h2 => ?_)
  · replace hm := o_t hm h2
    refine z_aload_n (pc' := 89) hM45 rfl rfl rfl ?_
    refine z_fldR (pc' := 92) hM45 rfl (zf_5_4 hG) rfl rfl ?_
    refine z_iload_n (pc' := 93) hM45 rfl rfl rfl ?_
    refine z_bipush (pc' := 95) hM45 rfl rfl rfl ?_
    obtain ⟨z3, ez3, h4, hm⟩ := o_z hm
    refine z_imul (pc' := 96) hM45 rfl rfl ez3 h4 ?_
    refine z_iload_n (pc' := 97) hM45 rfl rfl rfl ?_
    obtain ⟨z5, ez5, h6, hm⟩ := o_z hm
    refine z_iadd (pc' := 98) hM45 rfl rfl ez5 h6 ?_
    obtain ⟨h8, hm⟩ := o_x hm
    obtain ⟨z7, ez7, hm⟩ := o_v hm
    refine z_iald (pc' := 99) (zGN hG) hM45 rfl rfl h8 ez7 ?_
    refine z_aload_n (pc' := 100) hM45 rfl rfl rfl ?_
    refine z_fldR (pc' := 103) hM45 rfl (zf_5_4 hG) rfl rfl ?_
    refine z_iload_n (pc' := 104) hM45 rfl rfl rfl ?_
    refine z_bipush (pc' := 106) hM45 rfl rfl rfl ?_
    obtain ⟨z9, ez9, h10, hm⟩ := o_z hm
    refine z_imul (pc' := 107) hM45 rfl rfl ez9 h10 ?_
    refine z_iload_n (pc' := 108) hM45 rfl rfl rfl ?_
    obtain ⟨z11, ez11, h12, hm⟩ := o_z hm
    refine z_iadd (pc' := 109) hM45 rfl rfl ez11 h12 ?_
    obtain ⟨h14, hm⟩ := o_x hm
    obtain ⟨z13, ez13, hm⟩ := o_v hm
    refine z_iald (pc' := 110) (zGN hG) hM45 rfl rfl h14 ez13 ?_
    obtain ⟨z15, ez15, h16, hm⟩ := o_z hm
    refine z_iadd (pc' := 111) hM45 rfl rfl ez15 h16 ?_
    refine z_istore (pc' := 113) (l' := [some (zr 5 0 a0), some (zi x1), some (zi x2), some (zi x3), some (zi z15), d5]) hM45 rfl rfl rfl rfl ?_
    refine z_iload_n (pc' := 114) hM45 rfl rfl rfl ?_
    refine z_bipush (pc' := 116) hM45 rfl rfl rfl ?_
    obtain ⟨z17, ez17, h18, hm⟩ := o_z hm
    refine z_imul (pc' := 117) hM45 rfl rfl ez17 h18 ?_
    refine z_iload_n (pc' := 118) hM45 rfl rfl rfl ?_
    obtain ⟨z19, ez19, h20, hm⟩ := o_z hm
    refine z_iadd (pc' := 119) hM45 rfl rfl ez19 h20 ?_
    refine z_istore (pc' := 121) (l' := [some (zr 5 0 a0), some (zi x1), some (zi x2), some (zi x3), some (zi z15), some (zi z19)]) hM45 rfl rfl rfl rfl ?_
    refine z_aload_n (pc' := 122) hM45 rfl rfl rfl ?_
    refine z_fldR (pc' := 125) hM45 rfl (zf_5_4 hG) rfl rfl ?_
    refine z_iload (pc' := 127) hM45 rfl rfl rfl ?_
    refine z_aload_n (pc' := 128) hM45 rfl rfl rfl ?_
    refine z_fldR (pc' := 131) hM45 rfl (zf_5_4 hG) rfl rfl ?_
    refine z_iload (pc' := 133) hM45 rfl rfl rfl ?_
    obtain ⟨h22, hm⟩ := o_x hm
    obtain ⟨z21, ez21, hm⟩ := o_v hm
    refine z_iald (pc' := 134) (zGN hG) hM45 rfl rfl h22 ez21 ?_
    refine z_iload (pc' := 136) hM45 rfl rfl rfl ?_
    obtain ⟨z23, s24, h25, hm⟩ := o_c hm
    refine z_cs (d := d + 4) (pc' := 139) hM45 rfl hM290 rfl rfl rfl rfl (c290 (d := d + 3) hG h25) rfl ?_
    obtain ⟨h27, hm⟩ := o_x hm
    obtain ⟨s26, es26, hm⟩ := o_v hm
    refine z_iast (pc' := 140) hM45 rfl rfl h27 es26 ?_
    obtain ⟨z28, ez28, h29, hm⟩ := o_z hm
    refine z_iinc (pc' := 143) (l' := [some (zr 5 0 a0), some (zi x1), some (zi x2), some (zi z28), some (zi z15), some (zi z19)]) hM45 rfl rfl rfl ez28 h29 rfl rfl ?_
    refine z_goto (t := 77) hM45 rfl ?_
    exact ih hm
  · replace hm := o_f hm h2
    obtain ⟨z30, ez30, h31, hm⟩ := o_z hm
    refine z_iinc (pc' := 149) (l' := [some (zr 5 0 a0), some (zi x1), some (zi z30), some (zi x3), d4, d5]) hM45 rfl rfl rfl ez30 h31 rfl rfl ?_
    refine z_goto (t := 64) hM45 rfl ?_
    exact hk64 hm
def m45_64 (k51_ : Nat → Int → zS → Option (Int × zS)) : Nat → Nat → Int → Int → zS → Option (Int × zS)
  | 0, _, _, _, _ => none
  | n + 1, a0, x1, x2, s => oV (s.1 (a0 + 1) 0) fun z1 => if x2 < z1 then m45_77 (m45_64 k51_ n) zFu a0 x1 x2 (0 : Int) s else oZ (x1 + (1 : Int)) fun z3 => k51_ a0 z3 s
set_option maxRecDepth 20000 in
theorem c45_64 {G : aHp} {d : Nat} {k51_ : Nat → Int → zS → Option (Int × zS)} (hG : zG G) (hk51 : ∀ {a0 : Nat} {x1 : Int} {d2 d3 d4 d5 : Option zV} {s : zS} {r_ : Int} {s_ : zS}, k51_ a0 x1 s = some (r_, s_) → Zp G (d + 5) 45 51 [some (zr 5 0 a0), some (zi x1), d2, d3, d4, d5] [] s (zRet none s_)) : ∀ {n : Nat} {a0 : Nat} {x1 : Int} {x2 : Int} {d3 d4 d5 : Option zV} {s : zS} {r_ : Int} {s_ : zS}, m45_64 k51_ n a0 x1 x2 s = some (r_, s_) → Zp G (d + 5) 45 64 [some (zr 5 0 a0), some (zi x1), some (zi x2), d3, d4, d5] [] s (zRet none s_) := by
  intro n
  induction n with
  | zero => intro a0 x1 x2 d3 d4 d5 s r_ s_ hm; cases hm
  | succ n ih =>
  intro a0 x1 x2 d3 d4 d5 s r_ s_ hm
  replace hm : (oV (s.1 (a0 + 1) 0) fun z1 => if x2 < z1 then m45_77 (m45_64 k51_ n) zFu a0 x1 x2 (0 : Int) s else oZ (x1 + (1 : Int)) fun z3 => k51_ a0 z3 s) = some (r_, s_) := hm
  refine z_iload_n (pc' := 65) hM45 rfl rfl rfl ?_
  refine z_aload_n (pc' := 66) hM45 rfl rfl rfl ?_
  refine z_fldR (pc' := 69) hM45 rfl (zf_5_0 hG) rfl rfl ?_
  obtain ⟨z1, ez1, hm⟩ := o_v hm
  refine z_fldI (pc' := 72) hM45 rfl rfl rfl ez1 ?_
  refine z_cmpge (pc' := 75) (t := 152) hM45 rfl rfl (fun h2 => ?_) (fun h2 => ?_)
  · replace hm := o_t hm h2
    refine z_iconst (pc' := 76) hM45 rfl rfl rfl ?_
    refine z_istore_n (pc' := 77) (l' := [some (zr 5 0 a0), some (zi x1), some (zi x2), some (zi (0 : Int)), d4, d5]) hM45 rfl rfl rfl rfl ?_
    exact c45_77 hG ih hm
  · replace hm := o_f hm h2
    obtain ⟨z3, ez3, h4, hm⟩ := o_z hm
    refine z_iinc (pc' := 155) (l' := [some (zr 5 0 a0), some (zi z3), some (zi x2), d3, d4, d5]) hM45 rfl rfl rfl ez3 h4 rfl rfl ?_
    refine z_goto (t := 51) hM45 rfl ?_
    exact hk51 hm
def m45_51 : Nat → Nat → Int → zS → Option (Int × zS)
  | 0, _, _, _ => none
  | n + 1, a0, x1, s => oV (s.1 (a0 + 1) 0) fun z1 => if x1 < z1 then m45_64 (m45_51 n) zFu a0 x1 (0 : Int) s else some (0, s)
set_option maxRecDepth 20000 in
theorem c45_51 {G : aHp} {d : Nat} (hG : zG G) : ∀ {n : Nat} {a0 : Nat} {x1 : Int} {d2 d3 d4 d5 : Option zV} {s : zS} {r_ : Int} {s_ : zS}, m45_51 n a0 x1 s = some (r_, s_) → Zp G (d + 5) 45 51 [some (zr 5 0 a0), some (zi x1), d2, d3, d4, d5] [] s (zRet none s_) := by
  intro n
  induction n with
  | zero => intro a0 x1 d2 d3 d4 d5 s r_ s_ hm; cases hm
  | succ n ih =>
  intro a0 x1 d2 d3 d4 d5 s r_ s_ hm
  replace hm : (oV (s.1 (a0 + 1) 0) fun z1 => if x1 < z1 then m45_64 (m45_51 n) zFu a0 x1 (0 : Int) s else some (0, s)) = some (r_, s_) := hm
  refine z_iload_n (pc' := 52) hM45 rfl rfl rfl ?_
  refine z_aload_n (pc' := 53) hM45 rfl rfl rfl ?_
  refine z_fldR (pc' := 56) hM45 rfl (zf_5_0 hG) rfl rfl ?_
  obtain ⟨z1, ez1, hm⟩ := o_v hm
  refine z_fldI (pc' := 59) hM45 rfl rfl rfl ez1 ?_
  refine z_cmpge (pc' := 62) (t := 158) hM45 rfl rfl (fun h2 => ?_) (fun h2 => ?_)
  · replace hm := o_t hm h2
    refine z_iconst (pc' := 63) hM45 rfl rfl rfl ?_
    refine z_istore_n (pc' := 64) (l' := [some (zr 5 0 a0), some (zi x1), some (zi (0 : Int)), d3, d4, d5]) hM45 rfl rfl rfl rfl ?_
    exact c45_64 hG ih hm
  · replace hm := o_f hm h2
    cases hm
    exact z_retV hM45 rfl rfl ⟨rfl, rfl⟩
def m45_20 : Nat → Nat → Int → zS → Option (Int × zS)
  | 0, _, _, _ => none
  | n + 1, a0, x1, s => oV (s.1 (a0 + 1) 0) fun z1 => if x1 < z1 then oZ (x1 * (7 : Int)) fun z3 => oZ (z3 + x1) fun z5 => oX z5 49 (oV (sI s (a0 + 8) z5 (0 : Int)) fun s7 => oZ (x1 + (1 : Int)) fun z9 => m45_20 n a0 z9 s7) else m45_51 zFu a0 (0 : Int) s
set_option maxRecDepth 20000 in
theorem c45_20 {G : aHp} {d : Nat} (hG : zG G) : ∀ {n : Nat} {a0 : Nat} {x1 : Int} {d2 d3 d4 d5 : Option zV} {s : zS} {r_ : Int} {s_ : zS}, m45_20 n a0 x1 s = some (r_, s_) → Zp G (d + 5) 45 20 [some (zr 5 0 a0), some (zi x1), d2, d3, d4, d5] [] s (zRet none s_) := by
  intro n
  induction n with
  | zero => intro a0 x1 d2 d3 d4 d5 s r_ s_ hm; cases hm
  | succ n ih =>
  intro a0 x1 d2 d3 d4 d5 s r_ s_ hm
  replace hm : (oV (s.1 (a0 + 1) 0) fun z1 => if x1 < z1 then oZ (x1 * (7 : Int)) fun z3 => oZ (z3 + x1) fun z5 => oX z5 49 (oV (sI s (a0 + 8) z5 (0 : Int)) fun s7 => oZ (x1 + (1 : Int)) fun z9 => m45_20 n a0 z9 s7) else m45_51 zFu a0 (0 : Int) s) = some (r_, s_) := hm
  refine z_iload_n (pc' := 21) hM45 rfl rfl rfl ?_
  refine z_aload_n (pc' := 22) hM45 rfl rfl rfl ?_
  refine z_fldR (pc' := 25) hM45 rfl (zf_5_0 hG) rfl rfl ?_
  obtain ⟨z1, ez1, hm⟩ := o_v hm
  refine z_fldI (pc' := 28) hM45 rfl rfl rfl ez1 ?_
  refine z_cmpge (pc' := 31) (t := 49) hM45 rfl rfl (fun h2 => ?_) (fun h2 => ?_)
  · replace hm := o_t hm h2
    refine z_aload_n (pc' := 32) hM45 rfl rfl rfl ?_
    refine z_fldR (pc' := 35) hM45 rfl (zf_5_4 hG) rfl rfl ?_
    refine z_iload_n (pc' := 36) hM45 rfl rfl rfl ?_
    refine z_bipush (pc' := 38) hM45 rfl rfl rfl ?_
    obtain ⟨z3, ez3, h4, hm⟩ := o_z hm
    refine z_imul (pc' := 39) hM45 rfl rfl ez3 h4 ?_
    refine z_iload_n (pc' := 40) hM45 rfl rfl rfl ?_
    obtain ⟨z5, ez5, h6, hm⟩ := o_z hm
    refine z_iadd (pc' := 41) hM45 rfl rfl ez5 h6 ?_
    refine z_iconst (pc' := 42) hM45 rfl rfl rfl ?_
    obtain ⟨h8, hm⟩ := o_x hm
    obtain ⟨s7, es7, hm⟩ := o_v hm
    refine z_iast (pc' := 43) hM45 rfl rfl h8 es7 ?_
    obtain ⟨z9, ez9, h10, hm⟩ := o_z hm
    refine z_iinc (pc' := 46) (l' := [some (zr 5 0 a0), some (zi z9), d2, d3, d4, d5]) hM45 rfl rfl rfl ez9 h10 rfl rfl ?_
    refine z_goto (t := 20) hM45 rfl ?_
    exact ih hm
  · replace hm := o_f hm h2
    refine z_iconst (pc' := 50) hM45 rfl rfl rfl ?_
    refine z_istore_n (pc' := 51) (l' := [some (zr 5 0 a0), some (zi (0 : Int)), d2, d3, d4, d5]) hM45 rfl rfl rfl rfl ?_
    exact c45_51 hG hm
def m45 (a0 : Nat) (s : zS) : Option (Int × zS) := oZ (49 : Nat) fun z1 => oY 49 49 (0 : Int) (0 : Int) z1 (oV (sC s (a0 + 7) (a0 + 8) (0 : Int) (0 : Int) z1) fun s3 => m45_20 zFu a0 (0 : Int) s3)
set_option maxRecDepth 20000 in
theorem c45 {G : aHp} {d : Nat} (hG : zG G) {a0 : Nat} {s : zS} {r_ : Int} {s_ : zS} (hm : m45 a0 s = some (r_, s_)) : Zp G (d + 5) 45 0 [some (zr 5 0 a0), none, none, none, none, none] [] s (zRet none s_) := by
  replace hm : (oZ (49 : Nat) fun z1 => oY 49 49 (0 : Int) (0 : Int) z1 (oV (sC s (a0 + 7) (a0 + 8) (0 : Int) (0 : Int) z1) fun s3 => m45_20 zFu a0 (0 : Int) s3)) = some (r_, s_) := hm
  refine z_aload_n (pc' := 1) hM45 rfl rfl rfl ?_
  refine z_fldR (pc' := 4) hM45 rfl (zf_5_3 hG) rfl rfl ?_
  refine z_iconst (pc' := 5) hM45 rfl rfl rfl ?_
  refine z_aload_n (pc' := 6) hM45 rfl rfl rfl ?_
  refine z_fldR (pc' := 9) hM45 rfl (zf_5_4 hG) rfl rfl ?_
  refine z_iconst (pc' := 10) hM45 rfl rfl rfl ?_
  refine z_aload_n (pc' := 11) hM45 rfl rfl rfl ?_
  refine z_fldR (pc' := 14) hM45 rfl (zf_5_4 hG) rfl rfl ?_
  obtain ⟨z1, ez1, h2, hm⟩ := o_z hm
  refine z_alen (pc' := 15) (zGN hG) hM45 rfl (Or.inl rfl) rfl ez1 h2 ?_
  obtain ⟨h4, hm⟩ := o_y hm
  obtain ⟨s3, es3, hm⟩ := o_v hm
  refine z_copy (pc' := 18) hM45 rfl (by omega) rfl rfl h4 es3 ?_
  refine z_iconst (pc' := 19) hM45 rfl rfl rfl ?_
  refine z_istore_n (pc' := 20) (l' := [some (zr 5 0 a0), some (zi (0 : Int)), none, none, none, none]) hM45 rfl rfl rfl rfl ?_
  exact c45_20 hG hm
def m46_29 : Nat → Nat → Int → Int → Int → Int → zS → Option (Int × zS)
  | 0, _, _, _, _, _, _ => none
  | n + 1, a0, x1, x2, x3, x4, s => oV (s.1 (a0 + 1) 0) fun z1 => if x4 < z1 then oZ (x1 * (7 : Int)) fun z3 => oZ (z3 + x4) fun z5 => oX z5 49 (oV (s.1 (a0 + 7) z5) fun z7 => oZ (x4 * (7 : Int)) fun z9 => oZ (z9 + x2) fun z11 => oX z11 49 (oV (s.1 (a0 + 8) z11) fun z13 => oZ (z7 + z13) fun z15 => if z15 = x3 then some (x4, s) else oZ (x4 + (1 : Int)) fun z18 => m46_29 n a0 x1 x2 x3 z18 s)) else some ((-1 : Int), s)
theorem c46_29 {G : aHp} {d : Nat} (hG : zG G) : ∀ {n : Nat} {a0 : Nat} {x1 : Int} {x2 : Int} {x3 : Int} {x4 : Int} {s : zS} {r_ : Int} {s_ : zS}, m46_29 n a0 x1 x2 x3 x4 s = some (r_, s_) → Zp G (d + 1) 46 29 [some (zr 5 0 a0), some (zi x1), some (zi x2), some (zi x3), some (zi x4)] [] s (zRet (some (zi r_)) s_) := by
  intro n
  induction n with
  | zero => intro a0 x1 x2 x3 x4 s r_ s_ hm; cases hm
  | succ n ih =>
  intro a0 x1 x2 x3 x4 s r_ s_ hm
  replace hm : (oV (s.1 (a0 + 1) 0) fun z1 => if x4 < z1 then oZ (x1 * (7 : Int)) fun z3 => oZ (z3 + x4) fun z5 => oX z5 49 (oV (s.1 (a0 + 7) z5) fun z7 => oZ (x4 * (7 : Int)) fun z9 => oZ (z9 + x2) fun z11 => oX z11 49 (oV (s.1 (a0 + 8) z11) fun z13 => oZ (z7 + z13) fun z15 => if z15 = x3 then some (x4, s) else oZ (x4 + (1 : Int)) fun z18 => m46_29 n a0 x1 x2 x3 z18 s)) else some ((-1 : Int), s)) = some (r_, s_) := hm
  refine z_iload (pc' := 31) hM46 rfl rfl rfl ?_
  refine z_aload_n (pc' := 32) hM46 rfl rfl rfl ?_
  refine z_fldR (pc' := 35) hM46 rfl (zf_5_0 hG) rfl rfl ?_
  obtain ⟨z1, ez1, hm⟩ := o_v hm
  refine z_fldI (pc' := 38) hM46 rfl rfl rfl ez1 ?_
  refine z_cmpge (pc' := 41) (t := 79) hM46 rfl rfl (fun h2 => ?_) (fun h2 => ?_)
  · replace hm := o_t hm h2
    refine z_aload_n (pc' := 42) hM46 rfl rfl rfl ?_
    refine z_fldR (pc' := 45) hM46 rfl (zf_5_3 hG) rfl rfl ?_
    refine z_iload_n (pc' := 46) hM46 rfl rfl rfl ?_
    refine z_bipush (pc' := 48) hM46 rfl rfl rfl ?_
    obtain ⟨z3, ez3, h4, hm⟩ := o_z hm
    refine z_imul (pc' := 49) hM46 rfl rfl ez3 h4 ?_
    refine z_iload (pc' := 51) hM46 rfl rfl rfl ?_
    obtain ⟨z5, ez5, h6, hm⟩ := o_z hm
    refine z_iadd (pc' := 52) hM46 rfl rfl ez5 h6 ?_
    obtain ⟨h8, hm⟩ := o_x hm
    obtain ⟨z7, ez7, hm⟩ := o_v hm
    refine z_iald (pc' := 53) (zGN hG) hM46 rfl rfl h8 ez7 ?_
    refine z_aload_n (pc' := 54) hM46 rfl rfl rfl ?_
    refine z_fldR (pc' := 57) hM46 rfl (zf_5_4 hG) rfl rfl ?_
    refine z_iload (pc' := 59) hM46 rfl rfl rfl ?_
    refine z_bipush (pc' := 61) hM46 rfl rfl rfl ?_
    obtain ⟨z9, ez9, h10, hm⟩ := o_z hm
    refine z_imul (pc' := 62) hM46 rfl rfl ez9 h10 ?_
    refine z_iload_n (pc' := 63) hM46 rfl rfl rfl ?_
    obtain ⟨z11, ez11, h12, hm⟩ := o_z hm
    refine z_iadd (pc' := 64) hM46 rfl rfl ez11 h12 ?_
    obtain ⟨h14, hm⟩ := o_x hm
    obtain ⟨z13, ez13, hm⟩ := o_v hm
    refine z_iald (pc' := 65) (zGN hG) hM46 rfl rfl h14 ez13 ?_
    obtain ⟨z15, ez15, h16, hm⟩ := o_z hm
    refine z_iadd (pc' := 66) hM46 rfl rfl ez15 h16 ?_
    refine z_iload_n (pc' := 67) hM46 rfl rfl rfl ?_
    refine z_cmpne (pc' := 70) (t := 73) hM46 rfl rfl (fun h17 => ?_) (fun h17 => ?_)
    · replace hm := o_t hm h17
      refine z_iload (pc' := 72) hM46 rfl rfl rfl ?_
      cases hm
      exact z_retI hM46 rfl rfl ⟨rfl, rfl⟩
    · replace hm := o_f hm h17
      obtain ⟨z18, ez18, h19, hm⟩ := o_z hm
      refine z_iinc (pc' := 76) (l' := [some (zr 5 0 a0), some (zi x1), some (zi x2), some (zi x3), some (zi z18)]) hM46 rfl rfl rfl ez18 h19 rfl rfl ?_
      refine z_goto (t := 29) hM46 rfl ?_
      exact ih hm
  · replace hm := o_f hm h2
    refine z_iconst (pc' := 80) hM46 rfl rfl rfl ?_
    cases hm
    exact z_retI hM46 rfl rfl ⟨rfl, rfl⟩
def m46 (a0 : Nat) (x1 : Int) (x2 : Int) (s : zS) : Option (Int × zS) := oZ (x1 * (7 : Int)) fun z1 => oZ (z1 + x2) fun z3 => oX z3 49 (oV (s.1 (a0 + 8) z3) fun z5 => if x1 = x2 then some ((-1 : Int), s) else if z5 < (1000 : Int) then m46_29 zFu a0 x1 x2 z5 (0 : Int) s else some ((-1 : Int), s))
theorem c46 {G : aHp} {d : Nat} (hG : zG G) {a0 : Nat} {x1 : Int} {x2 : Int} {s : zS} {r_ : Int} {s_ : zS} (hm : m46 a0 x1 x2 s = some (r_, s_)) : Zp G (d + 1) 46 0 [some (zr 5 0 a0), some (zi x1), some (zi x2), none, none] [] s (zRet (some (zi r_)) s_) := by
  replace hm : (oZ (x1 * (7 : Int)) fun z1 => oZ (z1 + x2) fun z3 => oX z3 49 (oV (s.1 (a0 + 8) z3) fun z5 => if x1 = x2 then some ((-1 : Int), s) else if z5 < (1000 : Int) then m46_29 zFu a0 x1 x2 z5 (0 : Int) s else some ((-1 : Int), s))) = some (r_, s_) := hm
  refine z_aload_n (pc' := 1) hM46 rfl rfl rfl ?_
  refine z_fldR (pc' := 4) hM46 rfl (zf_5_4 hG) rfl rfl ?_
  refine z_iload_n (pc' := 5) hM46 rfl rfl rfl ?_
  refine z_bipush (pc' := 7) hM46 rfl rfl rfl ?_
  obtain ⟨z1, ez1, h2, hm⟩ := o_z hm
  refine z_imul (pc' := 8) hM46 rfl rfl ez1 h2 ?_
  refine z_iload_n (pc' := 9) hM46 rfl rfl rfl ?_
  obtain ⟨z3, ez3, h4, hm⟩ := o_z hm
  refine z_iadd (pc' := 10) hM46 rfl rfl ez3 h4 ?_
  obtain ⟨h6, hm⟩ := o_x hm
  obtain ⟨z5, ez5, hm⟩ := o_v hm
  refine z_iald (pc' := 11) (zGN hG) hM46 rfl rfl h6 ez5 ?_
  refine z_istore_n (pc' := 12) (l' := [some (zr 5 0 a0), some (zi x1), some (zi x2), some (zi z5), none]) hM46 rfl rfl rfl rfl ?_
  refine z_iload_n (pc' := 13) hM46 rfl rfl rfl ?_
  refine z_iload_n (pc' := 14) hM46 rfl rfl rfl ?_
  refine z_cmpeq (pc' := 17) (t := 24) hM46 rfl rfl (fun h7 => ?_) (fun h7 => ?_)
  · replace hm := o_t hm h7
    refine z_iconst (pc' := 25) hM46 rfl rfl rfl ?_
    cases hm
    exact z_retI hM46 rfl rfl ⟨rfl, rfl⟩
  · replace hm := o_f hm h7
    refine z_iload_n (pc' := 18) hM46 rfl rfl rfl ?_
    refine z_sipush (pc' := 21) hM46 rfl rfl rfl ?_
    refine z_cmplt (pc' := 24) (t := 26) hM46 rfl rfl (fun h8 => ?_) (fun h8 => ?_)
    · replace hm := o_t hm h8
      refine z_iconst (pc' := 27) hM46 rfl rfl rfl ?_
      refine z_istore (pc' := 29) (l' := [some (zr 5 0 a0), some (zi x1), some (zi x2), some (zi z5), some (zi (0 : Int))]) hM46 rfl rfl rfl rfl ?_
      exact c46_29 hG hm
    · replace hm := o_f hm h8
      refine z_iconst (pc' := 25) hM46 rfl rfl rfl ?_
      cases hm
      exact z_retI hM46 rfl rfl ⟨rfl, rfl⟩
def m44_59 (k46_ : Nat → Int → zS → Option (Int × zS)) : Nat → Nat → Int → Int → zS → Option (Int × zS)
  | 0, _, _, _, _ => none
  | n + 1, a0, x1, x2, s => oV (s.1 (a0 + 1) 0) fun z1 => if x2 < z1 then oZ (x1 * (7 : Int)) fun z3 => oZ (z3 + x2) fun z5 => oC (m46 a0 x1 x2 s) fun z7 s8 => oX z5 49 (oV (sI s8 (a0 + 9) z5 z7) fun s10 => oZ (x2 + (1 : Int)) fun z12 => m44_59 k46_ n a0 x1 z12 s10) else oZ (x1 + (1 : Int)) fun z14 => k46_ a0 z14 s
theorem c44_59 {G : aHp} {d : Nat} {k46_ : Nat → Int → zS → Option (Int × zS)} (hG : zG G) (hk46 : ∀ {a0 : Nat} {x1 : Int} {d2 : Option zV} {s : zS} {r_ : Int} {s_ : zS}, k46_ a0 x1 s = some (r_, s_) → Zp G (d + 6) 44 46 [some (zr 5 0 a0), some (zi x1), d2] [] s (zRet none s_)) : ∀ {n : Nat} {a0 : Nat} {x1 : Int} {x2 : Int} {s : zS} {r_ : Int} {s_ : zS}, m44_59 k46_ n a0 x1 x2 s = some (r_, s_) → Zp G (d + 6) 44 59 [some (zr 5 0 a0), some (zi x1), some (zi x2)] [] s (zRet none s_) := by
  intro n
  induction n with
  | zero => intro a0 x1 x2 s r_ s_ hm; cases hm
  | succ n ih =>
  intro a0 x1 x2 s r_ s_ hm
  replace hm : (oV (s.1 (a0 + 1) 0) fun z1 => if x2 < z1 then oZ (x1 * (7 : Int)) fun z3 => oZ (z3 + x2) fun z5 => oC (m46 a0 x1 x2 s) fun z7 s8 => oX z5 49 (oV (sI s8 (a0 + 9) z5 z7) fun s10 => oZ (x2 + (1 : Int)) fun z12 => m44_59 k46_ n a0 x1 z12 s10) else oZ (x1 + (1 : Int)) fun z14 => k46_ a0 z14 s) = some (r_, s_) := hm
  refine z_iload_n (pc' := 60) hM44 rfl rfl rfl ?_
  refine z_aload_n (pc' := 61) hM44 rfl rfl rfl ?_
  refine z_fldR (pc' := 64) hM44 rfl (zf_5_0 hG) rfl rfl ?_
  obtain ⟨z1, ez1, hm⟩ := o_v hm
  refine z_fldI (pc' := 67) hM44 rfl rfl rfl ez1 ?_
  refine z_cmpge (pc' := 70) (t := 93) hM44 rfl rfl (fun h2 => ?_) (fun h2 => ?_)
  · replace hm := o_t hm h2
    refine z_aload_n (pc' := 71) hM44 rfl rfl rfl ?_
    refine z_fldR (pc' := 74) hM44 rfl (zf_5_5 hG) rfl rfl ?_
    refine z_iload_n (pc' := 75) hM44 rfl rfl rfl ?_
    refine z_bipush (pc' := 77) hM44 rfl rfl rfl ?_
    obtain ⟨z3, ez3, h4, hm⟩ := o_z hm
    refine z_imul (pc' := 78) hM44 rfl rfl ez3 h4 ?_
    refine z_iload_n (pc' := 79) hM44 rfl rfl rfl ?_
    obtain ⟨z5, ez5, h6, hm⟩ := o_z hm
    refine z_iadd (pc' := 80) hM44 rfl rfl ez5 h6 ?_
    refine z_aload_n (pc' := 81) hM44 rfl rfl rfl ?_
    refine z_iload_n (pc' := 82) hM44 rfl rfl rfl ?_
    refine z_iload_n (pc' := 83) hM44 rfl rfl rfl ?_
    obtain ⟨z7, s8, h9, hm⟩ := o_c hm
    refine z_cv (d := d + 5) (pc' := 86) hM44 rfl hM46 rfl rfl rfl rfl rfl rfl (c46 (d := d + 4) hG h9) rfl ?_
    obtain ⟨h11, hm⟩ := o_x hm
    obtain ⟨s10, es10, hm⟩ := o_v hm
    refine z_iast (pc' := 87) hM44 rfl rfl h11 es10 ?_
    obtain ⟨z12, ez12, h13, hm⟩ := o_z hm
    refine z_iinc (pc' := 90) (l' := [some (zr 5 0 a0), some (zi x1), some (zi z12)]) hM44 rfl rfl rfl ez12 h13 rfl rfl ?_
    refine z_goto (t := 59) hM44 rfl ?_
    exact ih hm
  · replace hm := o_f hm h2
    obtain ⟨z14, ez14, h15, hm⟩ := o_z hm
    refine z_iinc (pc' := 96) (l' := [some (zr 5 0 a0), some (zi z14), some (zi x2)]) hM44 rfl rfl rfl ez14 h15 rfl rfl ?_
    refine z_goto (t := 46) hM44 rfl ?_
    exact hk46 hm
def m44_46 : Nat → Nat → Int → zS → Option (Int × zS)
  | 0, _, _, _ => none
  | n + 1, a0, x1, s => oV (s.1 (a0 + 1) 0) fun z1 => if x1 < z1 then m44_59 (m44_46 n) zFu a0 x1 (0 : Int) s else some (0, s)
theorem c44_46 {G : aHp} {d : Nat} (hG : zG G) : ∀ {n : Nat} {a0 : Nat} {x1 : Int} {d2 : Option zV} {s : zS} {r_ : Int} {s_ : zS}, m44_46 n a0 x1 s = some (r_, s_) → Zp G (d + 6) 44 46 [some (zr 5 0 a0), some (zi x1), d2] [] s (zRet none s_) := by
  intro n
  induction n with
  | zero => intro a0 x1 d2 s r_ s_ hm; cases hm
  | succ n ih =>
  intro a0 x1 d2 s r_ s_ hm
  replace hm : (oV (s.1 (a0 + 1) 0) fun z1 => if x1 < z1 then m44_59 (m44_46 n) zFu a0 x1 (0 : Int) s else some (0, s)) = some (r_, s_) := hm
  refine z_iload_n (pc' := 47) hM44 rfl rfl rfl ?_
  refine z_aload_n (pc' := 48) hM44 rfl rfl rfl ?_
  refine z_fldR (pc' := 51) hM44 rfl (zf_5_0 hG) rfl rfl ?_
  obtain ⟨z1, ez1, hm⟩ := o_v hm
  refine z_fldI (pc' := 54) hM44 rfl rfl rfl ez1 ?_
  refine z_cmpge (pc' := 57) (t := 99) hM44 rfl rfl (fun h2 => ?_) (fun h2 => ?_)
  · replace hm := o_t hm h2
    refine z_iconst (pc' := 58) hM44 rfl rfl rfl ?_
    refine z_istore_n (pc' := 59) (l' := [some (zr 5 0 a0), some (zi x1), some (zi (0 : Int))]) hM44 rfl rfl rfl rfl ?_
    exact c44_59 hG ih hm
  · replace hm := o_f hm h2
    cases hm
    exact z_retV hM44 rfl rfl ⟨rfl, rfl⟩
def m44_20 (a0 : Nat) (s : zS) : Option (Int × zS) := oV (s.1 (a0 + 20) 2) fun z1 => if z1 = (0 : Int) then oC (m19 (a0 + 20) (10002 : Int) s) fun z3 s4 => oC (m45 a0 s4) fun z6 s7 => m44_46 zFu a0 (0 : Int) s7 else oC (m45 a0 s) fun z9 s10 => m44_46 zFu a0 (0 : Int) s10
theorem c44_20 {G : aHp} {d : Nat} (hG : zG G) {a0 : Nat} {d1 d2 : Option zV} {s : zS} {r_ : Int} {s_ : zS} (hm : m44_20 a0 s = some (r_, s_)) : Zp G (d + 6) 44 20 [some (zr 5 0 a0), d1, d2] [] s (zRet none s_) := by
  replace hm : (oV (s.1 (a0 + 20) 2) fun z1 => if z1 = (0 : Int) then oC (m19 (a0 + 20) (10002 : Int) s) fun z3 s4 => oC (m45 a0 s4) fun z6 s7 => m44_46 zFu a0 (0 : Int) s7 else oC (m45 a0 s) fun z9 s10 => m44_46 zFu a0 (0 : Int) s10) = some (r_, s_) := hm
  refine z_aload_n (pc' := 21) hM44 rfl rfl rfl ?_
  refine z_fldR (pc' := 24) hM44 rfl (zf_5_14 hG) rfl rfl ?_
  obtain ⟨z1, ez1, hm⟩ := o_v hm
  refine z_fldI (pc' := 27) hM44 rfl rfl rfl ez1 ?_
  refine z_ifne (pc' := 30) (t := 40) hM44 rfl rfl (fun h2 => ?_) (fun h2 => ?_)
  · replace hm := o_t hm h2
    refine z_aload_n (pc' := 31) hM44 rfl rfl rfl ?_
    refine z_fldR (pc' := 34) hM44 rfl (zf_5_14 hG) rfl rfl ?_
    refine z_sipush (pc' := 37) hM44 rfl rfl rfl ?_
    obtain ⟨z3, s4, h5, hm⟩ := o_c hm
    refine z_cvV (d := d + 5) (pc' := 40) hM44 rfl hM19 rfl rfl rfl rfl rfl rfl (c19 (d := d + 4) hG h5) rfl ?_
    refine z_aload_n (pc' := 41) hM44 rfl rfl rfl ?_
    obtain ⟨z6, s7, h8, hm⟩ := o_c hm
    refine z_cvV (d := d + 5) (pc' := 44) hM44 rfl hM45 rfl rfl rfl rfl rfl rfl (c45 (d := d) hG h8) rfl ?_
    refine z_iconst (pc' := 45) hM44 rfl rfl rfl ?_
    refine z_istore_n (pc' := 46) (l' := [some (zr 5 0 a0), some (zi (0 : Int)), d2]) hM44 rfl rfl rfl rfl ?_
    exact c44_46 hG hm
  · replace hm := o_f hm h2
    refine z_aload_n (pc' := 41) hM44 rfl rfl rfl ?_
    obtain ⟨z9, s10, h11, hm⟩ := o_c hm
    refine z_cvV (d := d + 5) (pc' := 44) hM44 rfl hM45 rfl rfl rfl rfl rfl rfl (c45 (d := d) hG h11) rfl ?_
    refine z_iconst (pc' := 45) hM44 rfl rfl rfl ?_
    refine z_istore_n (pc' := 46) (l' := [some (zr 5 0 a0), some (zi (0 : Int)), d2]) hM44 rfl rfl rfl rfl ?_
    exact c44_46 hG hm
def m44 (a0 : Nat) (s : zS) : Option (Int × zS) := oV (s.1 (a0 + 17) 2) fun z1 => if z1 = (0 : Int) then oC (m19 (a0 + 17) (10003 : Int) s) fun z3 s4 => m44_20 a0 s4 else m44_20 a0 s
theorem c44 {G : aHp} {d : Nat} (hG : zG G) {a0 : Nat} {s : zS} {r_ : Int} {s_ : zS} (hm : m44 a0 s = some (r_, s_)) : Zp G (d + 6) 44 0 [some (zr 5 0 a0), none, none] [] s (zRet none s_) := by
  replace hm : (oV (s.1 (a0 + 17) 2) fun z1 => if z1 = (0 : Int) then oC (m19 (a0 + 17) (10003 : Int) s) fun z3 s4 => m44_20 a0 s4 else m44_20 a0 s) = some (r_, s_) := hm
  refine z_aload_n (pc' := 1) hM44 rfl rfl rfl ?_
  refine z_fldR (pc' := 4) hM44 rfl (zf_5_13 hG) rfl rfl ?_
  obtain ⟨z1, ez1, hm⟩ := o_v hm
  refine z_fldI (pc' := 7) hM44 rfl rfl rfl ez1 ?_
  refine z_ifne (pc' := 10) (t := 20) hM44 rfl rfl (fun h2 => ?_) (fun h2 => ?_)
  · replace hm := o_t hm h2
    refine z_aload_n (pc' := 11) hM44 rfl rfl rfl ?_
    refine z_fldR (pc' := 14) hM44 rfl (zf_5_13 hG) rfl rfl ?_
    refine z_sipush (pc' := 17) hM44 rfl rfl rfl ?_
    obtain ⟨z3, s4, h5, hm⟩ := o_c hm
    refine z_cvV (d := d + 5) (pc' := 20) hM44 rfl hM19 rfl rfl rfl rfl rfl rfl (c19 (d := d + 4) hG h5) rfl ?_
    exact c44_20 hG hm
  · replace hm := o_f hm h2
    exact c44_20 hG hm
def m51 (a0 : Nat) (s : zS) : Option (Int × zS) := oV (s.1 a0 0) fun z1 => oV (s.1 a0 1) fun z2 => if z1 < z2 then some ((0 : Int), s) else some ((1 : Int), s)
theorem c51 {G : aHp} {d : Nat} (hG : zG G) {a0 : Nat} {s : zS} {r_ : Int} {s_ : zS} (hm : m51 a0 s = some (r_, s_)) : Zp G (d + 1) 51 0 [some (zr 6 0 a0)] [] s (zRet (some (zi r_)) s_) := by
  replace hm : (oV (s.1 a0 0) fun z1 => oV (s.1 a0 1) fun z2 => if z1 < z2 then some ((0 : Int), s) else some ((1 : Int), s)) = some (r_, s_) := hm
  refine z_aload_n (pc' := 1) hM51 rfl rfl rfl ?_
  obtain ⟨z1, ez1, hm⟩ := o_v hm
  refine z_fldI (pc' := 4) hM51 rfl rfl rfl ez1 ?_
  refine z_aload_n (pc' := 5) hM51 rfl rfl rfl ?_
  obtain ⟨z2, ez2, hm⟩ := o_v hm
  refine z_fldI (pc' := 8) hM51 rfl rfl rfl ez2 ?_
  refine z_cmplt (pc' := 11) (t := 15) hM51 rfl rfl (fun h3 => ?_) (fun h3 => ?_)
  · replace hm := o_t hm h3
    refine z_iconst (pc' := 16) hM51 rfl rfl rfl ?_
    cases hm
    exact z_retZ hM51 rfl rfl (Or.inl rfl) ⟨rfl, rfl⟩
  · replace hm := o_f hm h3
    refine z_iconst (pc' := 12) hM51 rfl rfl rfl ?_
    refine z_goto (t := 16) hM51 rfl ?_
    cases hm
    exact z_retZ hM51 rfl rfl (Or.inr rfl) ⟨rfl, rfl⟩
def m52 (a0 : Nat) (x1 : Int) (x2 : Int) (s : zS) : Option (Int × zS) := oC (m50 a0 x1 s) fun z1 s2 => if z1 = (0 : Int) then some ((-1 : Int), s2) else if x2 < (0 : Int) then some ((-1 : Int), s2) else if x2 < (6 : Int) then oZ (x1 * (6 : Int)) fun z7 => oZ (z7 + x2) fun z9 => oX z9 (zNl a0) (oV (s2.1 (a0 + 1) z9) fun z11 => some (z11, s2)) else some ((-1 : Int), s2)
theorem c52 {G : aHp} {d : Nat} (hG : zG G) {a0 : Nat} {x1 : Int} {x2 : Int} {s : zS} {r_ : Int} {s_ : zS} (hm : m52 a0 x1 x2 s = some (r_, s_)) : Zp G (d + 2) 52 0 [some (zr 6 0 a0), some (zi x1), some (zi x2)] [] s (zRet (some (zi r_)) s_) := by
  replace hm : (oC (m50 a0 x1 s) fun z1 s2 => if z1 = (0 : Int) then some ((-1 : Int), s2) else if x2 < (0 : Int) then some ((-1 : Int), s2) else if x2 < (6 : Int) then oZ (x1 * (6 : Int)) fun z7 => oZ (z7 + x2) fun z9 => oX z9 (zNl a0) (oV (s2.1 (a0 + 1) z9) fun z11 => some (z11, s2)) else some ((-1 : Int), s2)) = some (r_, s_) := hm
  refine z_aload_n (pc' := 1) hM52 rfl rfl rfl ?_
  refine z_iload_n (pc' := 2) hM52 rfl rfl rfl ?_
  obtain ⟨z1, s2, h3, hm⟩ := o_c hm
  refine z_cv (d := d + 1) (pc' := 5) hM52 rfl hM50 rfl rfl rfl rfl rfl rfl (c50 (d := d) hG h3) rfl ?_
  refine z_ifeq (pc' := 8) (t := 32) hM52 rfl rfl (fun h4 => ?_) (fun h4 => ?_)
  · replace hm := o_t hm h4
    refine z_iconst (pc' := 33) hM52 rfl rfl rfl ?_
    cases hm
    exact z_retI hM52 rfl rfl ⟨rfl, rfl⟩
  · replace hm := o_f hm h4
    refine z_iload_n (pc' := 9) hM52 rfl rfl rfl ?_
    refine z_iflt (pc' := 12) (t := 32) hM52 rfl rfl (fun h5 => ?_) (fun h5 => ?_)
    · replace hm := o_t hm h5
      refine z_iconst (pc' := 33) hM52 rfl rfl rfl ?_
      cases hm
      exact z_retI hM52 rfl rfl ⟨rfl, rfl⟩
    · replace hm := o_f hm h5
      refine z_iload_n (pc' := 13) hM52 rfl rfl rfl ?_
      refine z_bipush (pc' := 15) hM52 rfl rfl rfl ?_
      refine z_cmpge (pc' := 18) (t := 32) hM52 rfl rfl (fun h6 => ?_) (fun h6 => ?_)
      · replace hm := o_t hm h6
        refine z_aload_n (pc' := 19) hM52 rfl rfl rfl ?_
        refine z_fldR (pc' := 22) hM52 rfl (zf_6_2 hG) rfl rfl ?_
        refine z_iload_n (pc' := 23) hM52 rfl rfl rfl ?_
        refine z_bipush (pc' := 25) hM52 rfl rfl rfl ?_
        obtain ⟨z7, ez7, h8, hm⟩ := o_z hm
        refine z_imul (pc' := 26) hM52 rfl rfl ez7 h8 ?_
        refine z_iload_n (pc' := 27) hM52 rfl rfl rfl ?_
        obtain ⟨z9, ez9, h10, hm⟩ := o_z hm
        refine z_iadd (pc' := 28) hM52 rfl rfl ez9 h10 ?_
        obtain ⟨h12, hm⟩ := o_x hm
        obtain ⟨z11, ez11, hm⟩ := o_v hm
        refine z_iald (pc' := 29) (zGN hG) hM52 rfl rfl h12 ez11 ?_
        refine z_goto (t := 33) hM52 rfl ?_
        cases hm
        exact z_retI hM52 rfl rfl ⟨rfl, rfl⟩
      · replace hm := o_f hm h6
        refine z_iconst (pc' := 33) hM52 rfl rfl rfl ?_
        cases hm
        exact z_retI hM52 rfl rfl ⟨rfl, rfl⟩
def m53 (a0 : Nat) (s : zS) : Option (Int × zS) := oC (m51 a0 s) fun z1 s2 => if z1 = (0 : Int) then oV (s2.1 a0 0) fun z5 => oZ (z5 * (6 : Int)) fun z6 => oY 6 (zNl a0) (0 : Int) z6 (6 : Int) (oV (sC s2 3 (a0 + 1) (0 : Int) z6 (6 : Int)) fun s8 => oV (s8.1 a0 0) fun z10 => oZ (z10 + (1 : Int)) fun z11 => oV (sI s8 a0 0 z11) fun s13 => some (0, s13)) else some (0, s2)
theorem c53 {G : aHp} {d : Nat} (hG : zG G) {a0 : Nat} {s : zS} {r_ : Int} {s_ : zS} (hm : m53 a0 s = some (r_, s_)) : Zp G (d + 5) 53 0 [some (zr 6 0 a0), some (zr 100 6 3)] [] s (zRet none s_) := by
  replace hm : (oC (m51 a0 s) fun z1 s2 => if z1 = (0 : Int) then oV (s2.1 a0 0) fun z5 => oZ (z5 * (6 : Int)) fun z6 => oY 6 (zNl a0) (0 : Int) z6 (6 : Int) (oV (sC s2 3 (a0 + 1) (0 : Int) z6 (6 : Int)) fun s8 => oV (s8.1 a0 0) fun z10 => oZ (z10 + (1 : Int)) fun z11 => oV (sI s8 a0 0 z11) fun s13 => some (0, s13)) else some (0, s2)) = some (r_, s_) := hm
  refine z_aload_n (pc' := 1) hM53 rfl rfl rfl ?_
  obtain ⟨z1, s2, h3, hm⟩ := o_c hm
  refine z_cv (d := d + 4) (pc' := 4) hM53 rfl hM51 rfl rfl rfl rfl rfl rfl (c51 (d := d + 3) hG h3) rfl ?_
  refine z_ifne (pc' := 7) (t := 35) hM53 rfl rfl (fun h4 => ?_) (fun h4 => ?_)
  · replace hm := o_t hm h4
    refine z_aload_n (pc' := 8) hM53 rfl rfl rfl ?_
    refine z_iconst (pc' := 9) hM53 rfl rfl rfl ?_
    refine z_aload_n (pc' := 10) hM53 rfl rfl rfl ?_
    refine z_fldR (pc' := 13) hM53 rfl (zf_6_2 hG) rfl rfl ?_
    refine z_aload_n (pc' := 14) hM53 rfl rfl rfl ?_
    obtain ⟨z5, ez5, hm⟩ := o_v hm
    refine z_fldI (pc' := 17) hM53 rfl rfl rfl ez5 ?_
    refine z_bipush (pc' := 19) hM53 rfl rfl rfl ?_
    obtain ⟨z6, ez6, h7, hm⟩ := o_z hm
    refine z_imul (pc' := 20) hM53 rfl rfl ez6 h7 ?_
    refine z_bipush (pc' := 22) hM53 rfl rfl rfl ?_
    obtain ⟨h9, hm⟩ := o_y hm
    obtain ⟨s8, es8, hm⟩ := o_v hm
    refine z_copy (pc' := 25) hM53 rfl (by omega) rfl rfl h9 es8 ?_
    refine z_aload_n (pc' := 26) hM53 rfl rfl rfl ?_
    refine z_dupA (pc' := 27) hM53 rfl rfl ?_
    obtain ⟨z10, ez10, hm⟩ := o_v hm
    refine z_fldI (pc' := 30) hM53 rfl rfl rfl ez10 ?_
    refine z_iconst (pc' := 31) hM53 rfl rfl rfl ?_
    obtain ⟨z11, ez11, h12, hm⟩ := o_z hm
    refine z_iadd (pc' := 32) hM53 rfl rfl ez11 h12 ?_
    obtain ⟨s13, es13, hm⟩ := o_v hm
    refine z_putI (pc' := 35) hM53 rfl rfl rfl es13 ?_
    cases hm
    exact z_retV hM53 rfl rfl ⟨rfl, rfl⟩
  · replace hm := o_f hm h4
    cases hm
    exact z_retV hM53 rfl rfl ⟨rfl, rfl⟩
def m54_41 (k2_ : Nat → Int → zS → Option (Int × zS)) (a0 : Nat) (x2 : Int) (x3 : Int) (s : zS) : Option (Int × zS) := if x3 = (6 : Int) then some (x2, s) else oZ (x2 + (1 : Int)) fun z2 => k2_ a0 z2 s
theorem c54_41 {G : aHp} {d : Nat} {k2_ : Nat → Int → zS → Option (Int × zS)} (hG : zG G) (hk2 : ∀ {a0 : Nat} {x2 : Int} {d3 : Option zV} {s : zS} {r_ : Int} {s_ : zS}, k2_ a0 x2 s = some (r_, s_) → Zp G (d + 1) 54 2 [some (zr 6 0 a0), some (zr 100 6 3), some (zi x2), d3] [] s (zRet (some (zi r_)) s_)) {a0 : Nat} {x2 : Int} {x3 : Int} {s : zS} {r_ : Int} {s_ : zS} (hm : m54_41 k2_ a0 x2 x3 s = some (r_, s_)) : Zp G (d + 1) 54 41 [some (zr 6 0 a0), some (zr 100 6 3), some (zi x2), some (zi x3)] [] s (zRet (some (zi r_)) s_) := by
  replace hm : (if x3 = (6 : Int) then some (x2, s) else oZ (x2 + (1 : Int)) fun z2 => k2_ a0 z2 s) = some (r_, s_) := hm
  refine z_iload_n (pc' := 42) hM54 rfl rfl rfl ?_
  refine z_bipush (pc' := 44) hM54 rfl rfl rfl ?_
  refine z_cmpne (pc' := 47) (t := 49) hM54 rfl rfl (fun h1 => ?_) (fun h1 => ?_)
  · replace hm := o_t hm h1
    refine z_iload_n (pc' := 48) hM54 rfl rfl rfl ?_
    cases hm
    exact z_retI hM54 rfl rfl ⟨rfl, rfl⟩
  · replace hm := o_f hm h1
    obtain ⟨z2, ez2, h3, hm⟩ := o_z hm
    refine z_iinc (pc' := 52) (l' := [some (zr 6 0 a0), some (zr 100 6 3), some (zi z2), some (zi x3)]) hM54 rfl rfl rfl ez2 h3 rfl rfl ?_
    refine z_goto (t := 2) hM54 rfl ?_
    exact hk2 hm
def m54_12 (k2_ : Nat → Int → zS → Option (Int × zS)) : Nat → Nat → Int → Int → zS → Option (Int × zS)
  | 0, _, _, _, _ => none
  | n + 1, a0, x2, x3, s => if x3 < (6 : Int) then oZ (x2 * (6 : Int)) fun z2 => oZ (z2 + x3) fun z4 => oX z4 (zNl a0) (oV (s.1 (a0 + 1) z4) fun z6 => oX x3 6 (oV (s.1 3 x3) fun z8 => if z6 = z8 then oZ (x3 + (1 : Int)) fun z11 => m54_12 k2_ n a0 x2 z11 s else m54_41 k2_ a0 x2 x3 s)) else m54_41 k2_ a0 x2 x3 s
theorem c54_12 {G : aHp} {d : Nat} {k2_ : Nat → Int → zS → Option (Int × zS)} (hG : zG G) (hk2 : ∀ {a0 : Nat} {x2 : Int} {d3 : Option zV} {s : zS} {r_ : Int} {s_ : zS}, k2_ a0 x2 s = some (r_, s_) → Zp G (d + 1) 54 2 [some (zr 6 0 a0), some (zr 100 6 3), some (zi x2), d3] [] s (zRet (some (zi r_)) s_)) : ∀ {n : Nat} {a0 : Nat} {x2 : Int} {x3 : Int} {s : zS} {r_ : Int} {s_ : zS}, m54_12 k2_ n a0 x2 x3 s = some (r_, s_) → Zp G (d + 1) 54 12 [some (zr 6 0 a0), some (zr 100 6 3), some (zi x2), some (zi x3)] [] s (zRet (some (zi r_)) s_) := by
  intro n
  induction n with
  | zero => intro a0 x2 x3 s r_ s_ hm; cases hm
  | succ n ih =>
  intro a0 x2 x3 s r_ s_ hm
  replace hm : (if x3 < (6 : Int) then oZ (x2 * (6 : Int)) fun z2 => oZ (z2 + x3) fun z4 => oX z4 (zNl a0) (oV (s.1 (a0 + 1) z4) fun z6 => oX x3 6 (oV (s.1 3 x3) fun z8 => if z6 = z8 then oZ (x3 + (1 : Int)) fun z11 => m54_12 k2_ n a0 x2 z11 s else m54_41 k2_ a0 x2 x3 s)) else m54_41 k2_ a0 x2 x3 s) = some (r_, s_) := hm
  refine z_iload_n (pc' := 13) hM54 rfl rfl rfl ?_
  refine z_bipush (pc' := 15) hM54 rfl rfl rfl ?_
  refine z_cmpge (pc' := 18) (t := 41) hM54 rfl rfl (fun h1 => ?_) (fun h1 => ?_)
  · replace hm := o_t hm h1
    refine z_aload_n (pc' := 19) hM54 rfl rfl rfl ?_
    refine z_fldR (pc' := 22) hM54 rfl (zf_6_2 hG) rfl rfl ?_
    refine z_iload_n (pc' := 23) hM54 rfl rfl rfl ?_
    refine z_bipush (pc' := 25) hM54 rfl rfl rfl ?_
    obtain ⟨z2, ez2, h3, hm⟩ := o_z hm
    refine z_imul (pc' := 26) hM54 rfl rfl ez2 h3 ?_
    refine z_iload_n (pc' := 27) hM54 rfl rfl rfl ?_
    obtain ⟨z4, ez4, h5, hm⟩ := o_z hm
    refine z_iadd (pc' := 28) hM54 rfl rfl ez4 h5 ?_
    obtain ⟨h7, hm⟩ := o_x hm
    obtain ⟨z6, ez6, hm⟩ := o_v hm
    refine z_iald (pc' := 29) (zGN hG) hM54 rfl rfl h7 ez6 ?_
    refine z_aload_n (pc' := 30) hM54 rfl rfl rfl ?_
    refine z_iload_n (pc' := 31) hM54 rfl rfl rfl ?_
    obtain ⟨h9, hm⟩ := o_x hm
    obtain ⟨z8, ez8, hm⟩ := o_v hm
    refine z_iald (pc' := 32) (zGN hG) hM54 rfl rfl h9 ez8 ?_
    refine z_cmpne (pc' := 35) (t := 41) hM54 rfl rfl (fun h10 => ?_) (fun h10 => ?_)
    · replace hm := o_t hm h10
      obtain ⟨z11, ez11, h12, hm⟩ := o_z hm
      refine z_iinc (pc' := 38) (l' := [some (zr 6 0 a0), some (zr 100 6 3), some (zi x2), some (zi z11)]) hM54 rfl rfl rfl ez11 h12 rfl rfl ?_
      refine z_goto (t := 12) hM54 rfl ?_
      exact ih hm
    · replace hm := o_f hm h10
      exact c54_41 hG hk2 hm
  · replace hm := o_f hm h1
    exact c54_41 hG hk2 hm
def m54_2 : Nat → Nat → Int → zS → Option (Int × zS)
  | 0, _, _, _ => none
  | n + 1, a0, x2, s => oV (s.1 a0 0) fun z1 => if x2 < z1 then m54_12 (m54_2 n) zFu a0 x2 (0 : Int) s else some ((-1 : Int), s)
theorem c54_2 {G : aHp} {d : Nat} (hG : zG G) : ∀ {n : Nat} {a0 : Nat} {x2 : Int} {d3 : Option zV} {s : zS} {r_ : Int} {s_ : zS}, m54_2 n a0 x2 s = some (r_, s_) → Zp G (d + 1) 54 2 [some (zr 6 0 a0), some (zr 100 6 3), some (zi x2), d3] [] s (zRet (some (zi r_)) s_) := by
  intro n
  induction n with
  | zero => intro a0 x2 d3 s r_ s_ hm; cases hm
  | succ n ih =>
  intro a0 x2 d3 s r_ s_ hm
  replace hm : (oV (s.1 a0 0) fun z1 => if x2 < z1 then m54_12 (m54_2 n) zFu a0 x2 (0 : Int) s else some ((-1 : Int), s)) = some (r_, s_) := hm
  refine z_iload_n (pc' := 3) hM54 rfl rfl rfl ?_
  refine z_aload_n (pc' := 4) hM54 rfl rfl rfl ?_
  obtain ⟨z1, ez1, hm⟩ := o_v hm
  refine z_fldI (pc' := 7) hM54 rfl rfl rfl ez1 ?_
  refine z_cmpge (pc' := 10) (t := 55) hM54 rfl rfl (fun h2 => ?_) (fun h2 => ?_)
  · replace hm := o_t hm h2
    refine z_iconst (pc' := 11) hM54 rfl rfl rfl ?_
    refine z_istore_n (pc' := 12) (l' := [some (zr 6 0 a0), some (zr 100 6 3), some (zi x2), some (zi (0 : Int))]) hM54 rfl rfl rfl rfl ?_
    exact c54_12 hG ih hm
  · replace hm := o_f hm h2
    refine z_iconst (pc' := 56) hM54 rfl rfl rfl ?_
    cases hm
    exact z_retI hM54 rfl rfl ⟨rfl, rfl⟩
def m54 (a0 : Nat) (s : zS) : Option (Int × zS) := m54_2 zFu a0 (0 : Int) s
theorem c54 {G : aHp} {d : Nat} (hG : zG G) {a0 : Nat} {s : zS} {r_ : Int} {s_ : zS} (hm : m54 a0 s = some (r_, s_)) : Zp G (d + 1) 54 0 [some (zr 6 0 a0), some (zr 100 6 3), none, none] [] s (zRet (some (zi r_)) s_) := by
  replace hm : (m54_2 zFu a0 (0 : Int) s) = some (r_, s_) := hm
  refine z_iconst (pc' := 1) hM54 rfl rfl rfl ?_
  refine z_istore_n (pc' := 2) (l' := [some (zr 6 0 a0), some (zr 100 6 3), some (zi (0 : Int)), none]) hM54 rfl rfl rfl rfl ?_
  exact c54_2 hG hm
def m59 (a0 : Nat) (x1 : Int) (s : zS) : Option (Int × zS) := oV (s.1 a0 5) fun z1 => if z1 < (8 : Int) then oV (s.1 a0 5) fun z3 => oX z3 8 (oV (sI s (a0 + 5) z3 x1) fun s4 => oV (s4.1 a0 5) fun z6 => oZ (z6 + (1 : Int)) fun z7 => oV (sI s4 a0 5 z7) fun s9 => some (0, s9)) else some (0, s)
theorem c59 {G : aHp} {d : Nat} (hG : zG G) {a0 : Nat} {x1 : Int} {s : zS} {r_ : Int} {s_ : zS} (hm : m59 a0 x1 s = some (r_, s_)) : Zp G (d + 1) 59 0 [some (zr 7 0 a0), some (zi x1)] [] s (zRet none s_) := by
  replace hm : (oV (s.1 a0 5) fun z1 => if z1 < (8 : Int) then oV (s.1 a0 5) fun z3 => oX z3 8 (oV (sI s (a0 + 5) z3 x1) fun s4 => oV (s4.1 a0 5) fun z6 => oZ (z6 + (1 : Int)) fun z7 => oV (sI s4 a0 5 z7) fun s9 => some (0, s9)) else some (0, s)) = some (r_, s_) := hm
  refine z_aload_n (pc' := 1) hM59 rfl rfl rfl ?_
  obtain ⟨z1, ez1, hm⟩ := o_v hm
  refine z_fldI (pc' := 4) hM59 rfl rfl rfl ez1 ?_
  refine z_bipush (pc' := 6) hM59 rfl rfl rfl ?_
  refine z_cmpge (pc' := 9) (t := 29) hM59 rfl rfl (fun h2 => ?_) (fun h2 => ?_)
  · replace hm := o_t hm h2
    refine z_aload_n (pc' := 10) hM59 rfl rfl rfl ?_
    refine z_fldR (pc' := 13) hM59 rfl (zf_7_4 hG) rfl rfl ?_
    refine z_aload_n (pc' := 14) hM59 rfl rfl rfl ?_
    obtain ⟨z3, ez3, hm⟩ := o_v hm
    refine z_fldI (pc' := 17) hM59 rfl rfl rfl ez3 ?_
    refine z_iload_n (pc' := 18) hM59 rfl rfl rfl ?_
    obtain ⟨h5, hm⟩ := o_x hm
    obtain ⟨s4, es4, hm⟩ := o_v hm
    refine z_iast (pc' := 19) hM59 rfl rfl h5 es4 ?_
    refine z_aload_n (pc' := 20) hM59 rfl rfl rfl ?_
    refine z_dupA (pc' := 21) hM59 rfl rfl ?_
    obtain ⟨z6, ez6, hm⟩ := o_v hm
    refine z_fldI (pc' := 24) hM59 rfl rfl rfl ez6 ?_
    refine z_iconst (pc' := 25) hM59 rfl rfl rfl ?_
    obtain ⟨z7, ez7, h8, hm⟩ := o_z hm
    refine z_iadd (pc' := 26) hM59 rfl rfl ez7 h8 ?_
    obtain ⟨s9, es9, hm⟩ := o_v hm
    refine z_putI (pc' := 29) hM59 rfl rfl rfl es9 ?_
    cases hm
    exact z_retV hM59 rfl rfl ⟨rfl, rfl⟩
  · replace hm := o_f hm h2
    cases hm
    exact z_retV hM59 rfl rfl ⟨rfl, rfl⟩
def m57_65 : Nat → Nat → Nat → Int → zS → Option (Int × zS)
  | 0, _, _, _, _ => none
  | n + 1, a0, a1, x2, s => oV (s.1 (a1 + 3) 0) fun z1 => if x2 < z1 then oX x2 8 (oV (s.1 (a1 + 12) x2) fun z3 => oX x2 8 (oV (sI s (a0 + 1) x2 z3) fun s5 => oC (m43 a1 x2 s5) fun z7 s8 => if z7 = (0 : Int) then oC (m59 a0 x2 s8) fun z11 s12 => oZ (x2 + (1 : Int)) fun z14 => m57_65 n a0 a1 z14 s12 else oZ (x2 + (1 : Int)) fun z16 => m57_65 n a0 a1 z16 s8)) else some (0, s)
theorem c57_65 {G : aHp} {d : Nat} (hG : zG G) : ∀ {n : Nat} {a0 : Nat} {a1 : Nat} {x2 : Int} {s : zS} {r_ : Int} {s_ : zS}, m57_65 n a0 a1 x2 s = some (r_, s_) → Zp G (d + 2) 57 65 [some (zr 7 0 a0), some (zr 5 0 a1), some (zi x2)] [] s (zRet none s_) := by
  intro n
  induction n with
  | zero => intro a0 a1 x2 s r_ s_ hm; cases hm
  | succ n ih =>
  intro a0 a1 x2 s r_ s_ hm
  replace hm : (oV (s.1 (a1 + 3) 0) fun z1 => if x2 < z1 then oX x2 8 (oV (s.1 (a1 + 12) x2) fun z3 => oX x2 8 (oV (sI s (a0 + 1) x2 z3) fun s5 => oC (m43 a1 x2 s5) fun z7 s8 => if z7 = (0 : Int) then oC (m59 a0 x2 s8) fun z11 s12 => oZ (x2 + (1 : Int)) fun z14 => m57_65 n a0 a1 z14 s12 else oZ (x2 + (1 : Int)) fun z16 => m57_65 n a0 a1 z16 s8)) else some (0, s)) = some (r_, s_) := hm
  refine z_iload_n (pc' := 66) hM57 rfl rfl rfl ?_
  refine z_aload_n (pc' := 67) hM57 rfl rfl rfl ?_
  refine z_fldR (pc' := 70) hM57 rfl (zf_5_1 hG) rfl rfl ?_
  obtain ⟨z1, ez1, hm⟩ := o_v hm
  refine z_fldI (pc' := 73) hM57 rfl rfl rfl ez1 ?_
  refine z_cmpge (pc' := 76) (t := 107) hM57 rfl rfl (fun h2 => ?_) (fun h2 => ?_)
  · replace hm := o_t hm h2
    refine z_aload_n (pc' := 77) hM57 rfl rfl rfl ?_
    refine z_fldR (pc' := 80) hM57 rfl (zf_7_0 hG) rfl rfl ?_
    refine z_iload_n (pc' := 81) hM57 rfl rfl rfl ?_
    refine z_aload_n (pc' := 82) hM57 rfl rfl rfl ?_
    refine z_fldR (pc' := 85) hM57 rfl (zf_5_8 hG) rfl rfl ?_
    refine z_iload_n (pc' := 86) hM57 rfl rfl rfl ?_
    obtain ⟨h4, hm⟩ := o_x hm
    obtain ⟨z3, ez3, hm⟩ := o_v hm
    refine z_iald (pc' := 87) (zGN hG) hM57 rfl rfl h4 ez3 ?_
    obtain ⟨h6, hm⟩ := o_x hm
    obtain ⟨s5, es5, hm⟩ := o_v hm
    refine z_iast (pc' := 88) hM57 rfl rfl h6 es5 ?_
    refine z_aload_n (pc' := 89) hM57 rfl rfl rfl ?_
    refine z_iload_n (pc' := 90) hM57 rfl rfl rfl ?_
    obtain ⟨z7, s8, h9, hm⟩ := o_c hm
    refine z_cv (d := d + 1) (pc' := 93) hM57 rfl hM43 rfl rfl rfl rfl rfl rfl (c43 (d := d) hG h9) rfl ?_
    refine z_ifne (pc' := 96) (t := 101) hM57 rfl rfl (fun h10 => ?_) (fun h10 => ?_)
    · replace hm := o_t hm h10
      refine z_aload_n (pc' := 97) hM57 rfl rfl rfl ?_
      refine z_iload_n (pc' := 98) hM57 rfl rfl rfl ?_
      obtain ⟨z11, s12, h13, hm⟩ := o_c hm
      refine z_cvV (d := d + 1) (pc' := 101) hM57 rfl hM59 rfl rfl rfl rfl rfl rfl (c59 (d := d) hG h13) rfl ?_
      obtain ⟨z14, ez14, h15, hm⟩ := o_z hm
      refine z_iinc (pc' := 104) (l' := [some (zr 7 0 a0), some (zr 5 0 a1), some (zi z14)]) hM57 rfl rfl rfl ez14 h15 rfl rfl ?_
      refine z_goto (t := 65) hM57 rfl ?_
      exact ih hm
    · replace hm := o_f hm h10
      obtain ⟨z16, ez16, h17, hm⟩ := o_z hm
      refine z_iinc (pc' := 104) (l' := [some (zr 7 0 a0), some (zr 5 0 a1), some (zi z16)]) hM57 rfl rfl rfl ez16 h17 rfl rfl ?_
      refine z_goto (t := 65) hM57 rfl ?_
      exact ih hm
  · replace hm := o_f hm h2
    cases hm
    exact z_retV hM57 rfl rfl ⟨rfl, rfl⟩
def m57_20 : Nat → Nat → Nat → Int → zS → Option (Int × zS)
  | 0, _, _, _, _ => none
  | n + 1, a0, a1, x2, s => oV (s.1 (a1 + 5) 0) fun z1 => if x2 < z1 then oX x2 6 (oV (s.1 (a1 + 16) x2) fun z3 => oX x2 6 (oV (sI s (a0 + 2) x2 z3) fun s5 => oX x2 6 (oV (sI s5 (a0 + 3) x2 (-1 : Int)) fun s7 => oX x2 6 (oV (sI s7 (a0 + 4) x2 (0 : Int)) fun s9 => oZ (x2 + (1 : Int)) fun z11 => m57_20 n a0 a1 z11 s9)))) else m57_65 zFu a0 a1 (0 : Int) s
theorem c57_20 {G : aHp} {d : Nat} (hG : zG G) : ∀ {n : Nat} {a0 : Nat} {a1 : Nat} {x2 : Int} {s : zS} {r_ : Int} {s_ : zS}, m57_20 n a0 a1 x2 s = some (r_, s_) → Zp G (d + 2) 57 20 [some (zr 7 0 a0), some (zr 5 0 a1), some (zi x2)] [] s (zRet none s_) := by
  intro n
  induction n with
  | zero => intro a0 a1 x2 s r_ s_ hm; cases hm
  | succ n ih =>
  intro a0 a1 x2 s r_ s_ hm
  replace hm : (oV (s.1 (a1 + 5) 0) fun z1 => if x2 < z1 then oX x2 6 (oV (s.1 (a1 + 16) x2) fun z3 => oX x2 6 (oV (sI s (a0 + 2) x2 z3) fun s5 => oX x2 6 (oV (sI s5 (a0 + 3) x2 (-1 : Int)) fun s7 => oX x2 6 (oV (sI s7 (a0 + 4) x2 (0 : Int)) fun s9 => oZ (x2 + (1 : Int)) fun z11 => m57_20 n a0 a1 z11 s9)))) else m57_65 zFu a0 a1 (0 : Int) s) = some (r_, s_) := hm
  refine z_iload_n (pc' := 21) hM57 rfl rfl rfl ?_
  refine z_aload_n (pc' := 22) hM57 rfl rfl rfl ?_
  refine z_fldR (pc' := 25) hM57 rfl (zf_5_2 hG) rfl rfl ?_
  obtain ⟨z1, ez1, hm⟩ := o_v hm
  refine z_fldI (pc' := 28) hM57 rfl rfl rfl ez1 ?_
  refine z_cmpge (pc' := 31) (t := 63) hM57 rfl rfl (fun h2 => ?_) (fun h2 => ?_)
  · replace hm := o_t hm h2
    refine z_aload_n (pc' := 32) hM57 rfl rfl rfl ?_
    refine z_fldR (pc' := 35) hM57 rfl (zf_7_1 hG) rfl rfl ?_
    refine z_iload_n (pc' := 36) hM57 rfl rfl rfl ?_
    refine z_aload_n (pc' := 37) hM57 rfl rfl rfl ?_
    refine z_fldR (pc' := 40) hM57 rfl (zf_5_12 hG) rfl rfl ?_
    refine z_iload_n (pc' := 41) hM57 rfl rfl rfl ?_
    obtain ⟨h4, hm⟩ := o_x hm
    obtain ⟨z3, ez3, hm⟩ := o_v hm
    refine z_iald (pc' := 42) (zGN hG) hM57 rfl rfl h4 ez3 ?_
    obtain ⟨h6, hm⟩ := o_x hm
    obtain ⟨s5, es5, hm⟩ := o_v hm
    refine z_iast (pc' := 43) hM57 rfl rfl h6 es5 ?_
    refine z_aload_n (pc' := 44) hM57 rfl rfl rfl ?_
    refine z_fldR (pc' := 47) hM57 rfl (zf_7_2 hG) rfl rfl ?_
    refine z_iload_n (pc' := 48) hM57 rfl rfl rfl ?_
    refine z_iconst (pc' := 49) hM57 rfl rfl rfl ?_
    obtain ⟨h8, hm⟩ := o_x hm
    obtain ⟨s7, es7, hm⟩ := o_v hm
    refine z_iast (pc' := 50) hM57 rfl rfl h8 es7 ?_
    refine z_aload_n (pc' := 51) hM57 rfl rfl rfl ?_
    refine z_fldR (pc' := 54) hM57 rfl (zf_7_3 hG) rfl rfl ?_
    refine z_iload_n (pc' := 55) hM57 rfl rfl rfl ?_
    refine z_iconst (pc' := 56) hM57 rfl rfl rfl ?_
    obtain ⟨h10, hm⟩ := o_x hm
    obtain ⟨s9, es9, hm⟩ := o_v hm
    refine z_iast (pc' := 57) hM57 rfl rfl h10 es9 ?_
    obtain ⟨z11, ez11, h12, hm⟩ := o_z hm
    refine z_iinc (pc' := 60) (l' := [some (zr 7 0 a0), some (zr 5 0 a1), some (zi z11)]) hM57 rfl rfl rfl ez11 h12 rfl rfl ?_
    refine z_goto (t := 20) hM57 rfl ?_
    exact ih hm
  · replace hm := o_f hm h2
    refine z_iconst (pc' := 64) hM57 rfl rfl rfl ?_
    refine z_istore_n (pc' := 65) (l' := [some (zr 7 0 a0), some (zr 5 0 a1), some (zi (0 : Int))]) hM57 rfl rfl rfl rfl ?_
    exact c57_65 hG hm
def m57 (a0 : Nat) (a1 : Nat) (s : zS) : Option (Int × zS) := oV (sI s a0 6 (0 : Int)) fun s1 => oV (s1.1 a1 17) fun z2 => oV (sI s1 a0 7 z2) fun s3 => oV (sI s3 a0 5 (0 : Int)) fun s4 => m57_20 zFu a0 a1 (0 : Int) s4
theorem c57 {G : aHp} {d : Nat} (hG : zG G) {a0 : Nat} {a1 : Nat} {s : zS} {r_ : Int} {s_ : zS} (hm : m57 a0 a1 s = some (r_, s_)) : Zp G (d + 2) 57 0 [some (zr 7 0 a0), some (zr 5 0 a1), none] [] s (zRet none s_) := by
  replace hm : (oV (sI s a0 6 (0 : Int)) fun s1 => oV (s1.1 a1 17) fun z2 => oV (sI s1 a0 7 z2) fun s3 => oV (sI s3 a0 5 (0 : Int)) fun s4 => m57_20 zFu a0 a1 (0 : Int) s4) = some (r_, s_) := hm
  refine z_aload_n (pc' := 1) hM57 rfl rfl rfl ?_
  refine z_iconst (pc' := 2) hM57 rfl rfl rfl ?_
  obtain ⟨s1, es1, hm⟩ := o_v hm
  refine z_putI (pc' := 5) hM57 rfl rfl rfl es1 ?_
  refine z_aload_n (pc' := 6) hM57 rfl rfl rfl ?_
  refine z_aload_n (pc' := 7) hM57 rfl rfl rfl ?_
  obtain ⟨z2, ez2, hm⟩ := o_v hm
  refine z_fldI (pc' := 10) hM57 rfl rfl rfl ez2 ?_
  obtain ⟨s3, es3, hm⟩ := o_v hm
  refine z_putI (pc' := 13) hM57 rfl rfl rfl es3 ?_
  refine z_aload_n (pc' := 14) hM57 rfl rfl rfl ?_
  refine z_iconst (pc' := 15) hM57 rfl rfl rfl ?_
  obtain ⟨s4, es4, hm⟩ := o_v hm
  refine z_putI (pc' := 18) hM57 rfl rfl rfl es4 ?_
  refine z_iconst (pc' := 19) hM57 rfl rfl rfl ?_
  refine z_istore_n (pc' := 20) (l' := [some (zr 7 0 a0), some (zr 5 0 a1), some (zi (0 : Int))]) hM57 rfl rfl rfl rfl ?_
  exact c57_20 hG hm
def m58_2 : Nat → Nat → Int → Int → Int → zS → Option (Int × zS)
  | 0, _, _, _, _, _ => none
  | n + 1, a0, x1, x2, x3, s => if x3 < x2 then oX x3 6 (oV (s.1 (a0 + 2) x3) fun z2 => if z2 = x1 then some (x3, s) else oZ (x3 + (1 : Int)) fun z5 => m58_2 n a0 x1 x2 z5 s) else some ((-1 : Int), s)
theorem c58_2 {G : aHp} {d : Nat} (hG : zG G) : ∀ {n : Nat} {a0 : Nat} {x1 : Int} {x2 : Int} {x3 : Int} {s : zS} {r_ : Int} {s_ : zS}, m58_2 n a0 x1 x2 x3 s = some (r_, s_) → Zp G (d + 1) 58 2 [some (zr 7 0 a0), some (zi x1), some (zi x2), some (zi x3)] [] s (zRet (some (zi r_)) s_) := by
  intro n
  induction n with
  | zero => intro a0 x1 x2 x3 s r_ s_ hm; cases hm
  | succ n ih =>
  intro a0 x1 x2 x3 s r_ s_ hm
  replace hm : (if x3 < x2 then oX x3 6 (oV (s.1 (a0 + 2) x3) fun z2 => if z2 = x1 then some (x3, s) else oZ (x3 + (1 : Int)) fun z5 => m58_2 n a0 x1 x2 z5 s) else some ((-1 : Int), s)) = some (r_, s_) := hm
  refine z_iload_n (pc' := 3) hM58 rfl rfl rfl ?_
  refine z_iload_n (pc' := 4) hM58 rfl rfl rfl ?_
  refine z_cmpge (pc' := 7) (t := 25) hM58 rfl rfl (fun h1 => ?_) (fun h1 => ?_)
  · replace hm := o_t hm h1
    refine z_aload_n (pc' := 8) hM58 rfl rfl rfl ?_
    refine z_fldR (pc' := 11) hM58 rfl (zf_7_1 hG) rfl rfl ?_
    refine z_iload_n (pc' := 12) hM58 rfl rfl rfl ?_
    obtain ⟨h3, hm⟩ := o_x hm
    obtain ⟨z2, ez2, hm⟩ := o_v hm
    refine z_iald (pc' := 13) (zGN hG) hM58 rfl rfl h3 ez2 ?_
    refine z_iload_n (pc' := 14) hM58 rfl rfl rfl ?_
    refine z_cmpne (pc' := 17) (t := 19) hM58 rfl rfl (fun h4 => ?_) (fun h4 => ?_)
    · replace hm := o_t hm h4
      refine z_iload_n (pc' := 18) hM58 rfl rfl rfl ?_
      cases hm
      exact z_retI hM58 rfl rfl ⟨rfl, rfl⟩
    · replace hm := o_f hm h4
      obtain ⟨z5, ez5, h6, hm⟩ := o_z hm
      refine z_iinc (pc' := 22) (l' := [some (zr 7 0 a0), some (zi x1), some (zi x2), some (zi z5)]) hM58 rfl rfl rfl ez5 h6 rfl rfl ?_
      refine z_goto (t := 2) hM58 rfl ?_
      exact ih hm
  · replace hm := o_f hm h1
    refine z_iconst (pc' := 26) hM58 rfl rfl rfl ?_
    cases hm
    exact z_retI hM58 rfl rfl ⟨rfl, rfl⟩
def m58 (a0 : Nat) (x1 : Int) (x2 : Int) (s : zS) : Option (Int × zS) := m58_2 zFu a0 x1 x2 (0 : Int) s
theorem c58 {G : aHp} {d : Nat} (hG : zG G) {a0 : Nat} {x1 : Int} {x2 : Int} {s : zS} {r_ : Int} {s_ : zS} (hm : m58 a0 x1 x2 s = some (r_, s_)) : Zp G (d + 1) 58 0 [some (zr 7 0 a0), some (zi x1), some (zi x2), none] [] s (zRet (some (zi r_)) s_) := by
  replace hm : (m58_2 zFu a0 x1 x2 (0 : Int) s) = some (r_, s_) := hm
  refine z_iconst (pc' := 1) hM58 rfl rfl rfl ?_
  refine z_istore_n (pc' := 2) (l' := [some (zr 7 0 a0), some (zi x1), some (zi x2), some (zi (0 : Int))]) hM58 rfl rfl rfl rfl ?_
  exact c58_2 hG hm
def m60_19 : Nat → Nat → Int → Int → zS → Option (Int × zS)
  | 0, _, _, _, _ => none
  | n + 1, a0, x2, x3, s => oV (s.1 a0 5) fun z1 => if x3 < z1 then oZ (x3 + (1 : Int)) fun z3 => oX z3 8 (oV (s.1 (a0 + 5) z3) fun z5 => oX x3 8 (oV (sI s (a0 + 5) x3 z5) fun s7 => oZ (x3 + (1 : Int)) fun z9 => m60_19 n a0 x2 z9 s7)) else some (x2, s)
theorem c60_19 {G : aHp} {d : Nat} (hG : zG G) : ∀ {n : Nat} {a0 : Nat} {x2 : Int} {x3 : Int} {d1 : Option zV} {s : zS} {r_ : Int} {s_ : zS}, m60_19 n a0 x2 x3 s = some (r_, s_) → Zp G (d + 1) 60 19 [some (zr 7 0 a0), d1, some (zi x2), some (zi x3)] [] s (zRet (some (zi r_)) s_) := by
  intro n
  induction n with
  | zero => intro a0 x2 x3 d1 s r_ s_ hm; cases hm
  | succ n ih =>
  intro a0 x2 x3 d1 s r_ s_ hm
  replace hm : (oV (s.1 a0 5) fun z1 => if x3 < z1 then oZ (x3 + (1 : Int)) fun z3 => oX z3 8 (oV (s.1 (a0 + 5) z3) fun z5 => oX x3 8 (oV (sI s (a0 + 5) x3 z5) fun s7 => oZ (x3 + (1 : Int)) fun z9 => m60_19 n a0 x2 z9 s7)) else some (x2, s)) = some (r_, s_) := hm
  refine z_iload_n (pc' := 20) hM60 rfl rfl rfl ?_
  refine z_aload_n (pc' := 21) hM60 rfl rfl rfl ?_
  obtain ⟨z1, ez1, hm⟩ := o_v hm
  refine z_fldI (pc' := 24) hM60 rfl rfl rfl ez1 ?_
  refine z_cmpge (pc' := 27) (t := 47) hM60 rfl rfl (fun h2 => ?_) (fun h2 => ?_)
  · replace hm := o_t hm h2
    refine z_aload_n (pc' := 28) hM60 rfl rfl rfl ?_
    refine z_fldR (pc' := 31) hM60 rfl (zf_7_4 hG) rfl rfl ?_
    refine z_iload_n (pc' := 32) hM60 rfl rfl rfl ?_
    refine z_aload_n (pc' := 33) hM60 rfl rfl rfl ?_
    refine z_fldR (pc' := 36) hM60 rfl (zf_7_4 hG) rfl rfl ?_
    refine z_iload_n (pc' := 37) hM60 rfl rfl rfl ?_
    refine z_iconst (pc' := 38) hM60 rfl rfl rfl ?_
    obtain ⟨z3, ez3, h4, hm⟩ := o_z hm
    refine z_iadd (pc' := 39) hM60 rfl rfl ez3 h4 ?_
    obtain ⟨h6, hm⟩ := o_x hm
    obtain ⟨z5, ez5, hm⟩ := o_v hm
    refine z_iald (pc' := 40) (zGN hG) hM60 rfl rfl h6 ez5 ?_
    obtain ⟨h8, hm⟩ := o_x hm
    obtain ⟨s7, es7, hm⟩ := o_v hm
    refine z_iast (pc' := 41) hM60 rfl rfl h8 es7 ?_
    obtain ⟨z9, ez9, h10, hm⟩ := o_z hm
    refine z_iinc (pc' := 44) (l' := [some (zr 7 0 a0), d1, some (zi x2), some (zi z9)]) hM60 rfl rfl rfl ez9 h10 rfl rfl ?_
    refine z_goto (t := 19) hM60 rfl ?_
    exact ih hm
  · replace hm := o_f hm h2
    refine z_iload_n (pc' := 48) hM60 rfl rfl rfl ?_
    cases hm
    exact z_retI hM60 rfl rfl ⟨rfl, rfl⟩
def m60 (a0 : Nat) (x1 : Int) (s : zS) : Option (Int × zS) := oX x1 8 (oV (s.1 (a0 + 5) x1) fun z1 => oV (s.1 a0 5) fun z3 => oZ (z3 - (1 : Int)) fun z4 => oV (sI s a0 5 z4) fun s6 => m60_19 zFu a0 z1 x1 s6)
theorem c60 {G : aHp} {d : Nat} (hG : zG G) {a0 : Nat} {x1 : Int} {s : zS} {r_ : Int} {s_ : zS} (hm : m60 a0 x1 s = some (r_, s_)) : Zp G (d + 1) 60 0 [some (zr 7 0 a0), some (zi x1), none, none] [] s (zRet (some (zi r_)) s_) := by
  replace hm : (oX x1 8 (oV (s.1 (a0 + 5) x1) fun z1 => oV (s.1 a0 5) fun z3 => oZ (z3 - (1 : Int)) fun z4 => oV (sI s a0 5 z4) fun s6 => m60_19 zFu a0 z1 x1 s6)) = some (r_, s_) := hm
  refine z_aload_n (pc' := 1) hM60 rfl rfl rfl ?_
  refine z_fldR (pc' := 4) hM60 rfl (zf_7_4 hG) rfl rfl ?_
  refine z_iload_n (pc' := 5) hM60 rfl rfl rfl ?_
  obtain ⟨h2, hm⟩ := o_x hm
  obtain ⟨z1, ez1, hm⟩ := o_v hm
  refine z_iald (pc' := 6) (zGN hG) hM60 rfl rfl h2 ez1 ?_
  refine z_istore_n (pc' := 7) (l' := [some (zr 7 0 a0), some (zi x1), some (zi z1), none]) hM60 rfl rfl rfl rfl ?_
  refine z_aload_n (pc' := 8) hM60 rfl rfl rfl ?_
  refine z_dupA (pc' := 9) hM60 rfl rfl ?_
  obtain ⟨z3, ez3, hm⟩ := o_v hm
  refine z_fldI (pc' := 12) hM60 rfl rfl rfl ez3 ?_
  refine z_iconst (pc' := 13) hM60 rfl rfl rfl ?_
  obtain ⟨z4, ez4, h5, hm⟩ := o_z hm
  refine z_isub (pc' := 14) hM60 rfl rfl ez4 h5 ?_
  obtain ⟨s6, es6, hm⟩ := o_v hm
  refine z_putI (pc' := 17) hM60 rfl rfl rfl es6 ?_
  refine z_iload_n (pc' := 18) hM60 rfl rfl rfl ?_
  refine z_istore_n (pc' := 19) (l' := [some (zr 7 0 a0), some (zi x1), some (zi z1), some (zi x1)]) hM60 rfl rfl rfl rfl ?_
  exact c60_19 hG hm
def m61_23 : Nat → Nat → Nat → Int → Int → Int → Int → zS → Option (Int × zS)
  | 0, _, _, _, _, _, _, _ => none
  | n + 1, a0, a1, x2, x3, x4, x5, s => oV (s.1 a0 5) fun z1 => if x5 < z1 then oX x4 8 (oV (s.1 (a0 + 5) x4) fun z3 => oC (m42 a1 x2 z3 s) fun z5 s6 => oX x5 8 (oV (s6.1 (a0 + 5) x5) fun z8 => oC (m42 a1 x2 z8 s6) fun z10 s11 => oZ (z5 - z10) fun z13 => if (0 : Int) < z13 then oZ (x5 + (1 : Int)) fun z16 => m61_23 n a0 a1 x2 x3 x5 z16 s11 else if z13 = (0 : Int) then if x3 = (1 : Int) then oZ (x5 + (1 : Int)) fun z20 => m61_23 n a0 a1 x2 x3 x5 z20 s11 else oZ (x5 + (1 : Int)) fun z22 => m61_23 n a0 a1 x2 x3 x4 z22 s11 else oZ (x5 + (1 : Int)) fun z24 => m61_23 n a0 a1 x2 x3 x4 z24 s11)) else some (x4, s)
theorem c61_23 {G : aHp} {d : Nat} (hG : zG G) : ∀ {n : Nat} {a0 : Nat} {a1 : Nat} {x2 : Int} {x3 : Int} {x4 : Int} {x5 : Int} {d6 : Option zV} {s : zS} {r_ : Int} {s_ : zS}, m61_23 n a0 a1 x2 x3 x4 x5 s = some (r_, s_) → Zp G (d + 3) 61 23 [some (zr 7 0 a0), some (zr 5 0 a1), some (zi x2), some (zi x3), some (zi x4), some (zi x5), d6] [] s (zRet (some (zi r_)) s_) := by
  intro n
  induction n with
  | zero => intro a0 a1 x2 x3 x4 x5 d6 s r_ s_ hm; cases hm
  | succ n ih =>
  intro a0 a1 x2 x3 x4 x5 d6 s r_ s_ hm
  replace hm : (oV (s.1 a0 5) fun z1 => if x5 < z1 then oX x4 8 (oV (s.1 (a0 + 5) x4) fun z3 => oC (m42 a1 x2 z3 s) fun z5 s6 => oX x5 8 (oV (s6.1 (a0 + 5) x5) fun z8 => oC (m42 a1 x2 z8 s6) fun z10 s11 => oZ (z5 - z10) fun z13 => if (0 : Int) < z13 then oZ (x5 + (1 : Int)) fun z16 => m61_23 n a0 a1 x2 x3 x5 z16 s11 else if z13 = (0 : Int) then if x3 = (1 : Int) then oZ (x5 + (1 : Int)) fun z20 => m61_23 n a0 a1 x2 x3 x5 z20 s11 else oZ (x5 + (1 : Int)) fun z22 => m61_23 n a0 a1 x2 x3 x4 z22 s11 else oZ (x5 + (1 : Int)) fun z24 => m61_23 n a0 a1 x2 x3 x4 z24 s11)) else some (x4, s)) = some (r_, s_) := hm
  refine z_iload (pc' := 25) hM61 rfl rfl rfl ?_
  refine z_aload_n (pc' := 26) hM61 rfl rfl rfl ?_
  obtain ⟨z1, ez1, hm⟩ := o_v hm
  refine z_fldI (pc' := 29) hM61 rfl rfl rfl ez1 ?_
  refine z_cmpge (pc' := 32) (t := 84) hM61 rfl rfl (fun h2 => ?_) (fun h2 => ?_)
  · replace hm := o_t hm h2
    refine z_aload_n (pc' := 33) hM61 rfl rfl rfl ?_
    refine z_iload_n (pc' := 34) hM61 rfl rfl rfl ?_
    refine z_aload_n (pc' := 35) hM61 rfl rfl rfl ?_
    refine z_fldR (pc' := 38) hM61 rfl (zf_7_4 hG) rfl rfl ?_
    refine z_iload (pc' := 40) hM61 rfl rfl rfl ?_
    obtain ⟨h4, hm⟩ := o_x hm
    obtain ⟨z3, ez3, hm⟩ := o_v hm
    refine z_iald (pc' := 41) (zGN hG) hM61 rfl rfl h4 ez3 ?_
    obtain ⟨z5, s6, h7, hm⟩ := o_c hm
    refine z_cv (d := d + 2) (pc' := 44) hM61 rfl hM42 rfl rfl rfl rfl rfl rfl (c42 (d := d) hG h7) rfl ?_
    refine z_aload_n (pc' := 45) hM61 rfl rfl rfl ?_
    refine z_iload_n (pc' := 46) hM61 rfl rfl rfl ?_
    refine z_aload_n (pc' := 47) hM61 rfl rfl rfl ?_
    refine z_fldR (pc' := 50) hM61 rfl (zf_7_4 hG) rfl rfl ?_
    refine z_iload (pc' := 52) hM61 rfl rfl rfl ?_
    obtain ⟨h9, hm⟩ := o_x hm
    obtain ⟨z8, ez8, hm⟩ := o_v hm
    refine z_iald (pc' := 53) (zGN hG) hM61 rfl rfl h9 ez8 ?_
    obtain ⟨z10, s11, h12, hm⟩ := o_c hm
    refine z_cv (d := d + 2) (pc' := 56) hM61 rfl hM42 rfl rfl rfl rfl rfl rfl (c42 (d := d) hG h12) rfl ?_
    obtain ⟨z13, ez13, h14, hm⟩ := o_z hm
    refine z_isub (pc' := 57) hM61 rfl rfl ez13 h14 ?_
    refine z_istore (pc' := 59) (l' := [some (zr 7 0 a0), some (zr 5 0 a1), some (zi x2), some (zi x3), some (zi x4), some (zi x5), some (zi z13)]) hM61 rfl rfl rfl rfl ?_
    refine z_iload (pc' := 61) hM61 rfl rfl rfl ?_
    refine z_ifgt (pc' := 64) (t := 74) hM61 rfl rfl (fun h15 => ?_) (fun h15 => ?_)
    · replace hm := o_t hm h15
      refine z_iload (pc' := 76) hM61 rfl rfl rfl ?_
      refine z_istore (pc' := 78) (l' := [some (zr 7 0 a0), some (zr 5 0 a1), some (zi x2), some (zi x3), some (zi x5), some (zi x5), some (zi z13)]) hM61 rfl rfl rfl rfl ?_
      obtain ⟨z16, ez16, h17, hm⟩ := o_z hm
      refine z_iinc (pc' := 81) (l' := [some (zr 7 0 a0), some (zr 5 0 a1), some (zi x2), some (zi x3), some (zi x5), some (zi z16), some (zi z13)]) hM61 rfl rfl rfl ez16 h17 rfl rfl ?_
      refine z_goto (t := 23) hM61 rfl ?_
      exact ih hm
    · replace hm := o_f hm h15
      refine z_iload (pc' := 66) hM61 rfl rfl rfl ?_
      refine z_ifne (pc' := 69) (t := 78) hM61 rfl rfl (fun h18 => ?_) (fun h18 => ?_)
      · replace hm := o_t hm h18
        refine z_iload_n (pc' := 70) hM61 rfl rfl rfl ?_
        refine z_iconst (pc' := 71) hM61 rfl rfl rfl ?_
        refine z_cmpne (pc' := 74) (t := 78) hM61 rfl rfl (fun h19 => ?_) (fun h19 => ?_)
        · replace hm := o_t hm h19
          refine z_iload (pc' := 76) hM61 rfl rfl rfl ?_
          refine z_istore (pc' := 78) (l' := [some (zr 7 0 a0), some (zr 5 0 a1), some (zi x2), some (zi x3), some (zi x5), some (zi x5), some (zi z13)]) hM61 rfl rfl rfl rfl ?_
          obtain ⟨z20, ez20, h21, hm⟩ := o_z hm
          refine z_iinc (pc' := 81) (l' := [some (zr 7 0 a0), some (zr 5 0 a1), some (zi x2), some (zi x3), some (zi x5), some (zi z20), some (zi z13)]) hM61 rfl rfl rfl ez20 h21 rfl rfl ?_
          refine z_goto (t := 23) hM61 rfl ?_
          exact ih hm
        · replace hm := o_f hm h19
          obtain ⟨z22, ez22, h23, hm⟩ := o_z hm
          refine z_iinc (pc' := 81) (l' := [some (zr 7 0 a0), some (zr 5 0 a1), some (zi x2), some (zi x3), some (zi x4), some (zi z22), some (zi z13)]) hM61 rfl rfl rfl ez22 h23 rfl rfl ?_
          refine z_goto (t := 23) hM61 rfl ?_
          exact ih hm
      · replace hm := o_f hm h18
        obtain ⟨z24, ez24, h25, hm⟩ := o_z hm
        refine z_iinc (pc' := 81) (l' := [some (zr 7 0 a0), some (zr 5 0 a1), some (zi x2), some (zi x3), some (zi x4), some (zi z24), some (zi z13)]) hM61 rfl rfl rfl ez24 h25 rfl rfl ?_
        refine z_goto (t := 23) hM61 rfl ?_
        exact ih hm
  · replace hm := o_f hm h2
    refine z_iload (pc' := 86) hM61 rfl rfl rfl ?_
    cases hm
    exact z_retI hM61 rfl rfl ⟨rfl, rfl⟩
def m61 (a0 : Nat) (a1 : Nat) (x2 : Int) (x3 : Int) (s : zS) : Option (Int × zS) := oV (s.1 a0 5) fun z1 => if z1 = (0 : Int) then some ((-1 : Int), s) else if x3 = (2 : Int) then some ((0 : Int), s) else m61_23 zFu a0 a1 x2 x3 (0 : Int) (1 : Int) s
theorem c61 {G : aHp} {d : Nat} (hG : zG G) {a0 : Nat} {a1 : Nat} {x2 : Int} {x3 : Int} {s : zS} {r_ : Int} {s_ : zS} (hm : m61 a0 a1 x2 x3 s = some (r_, s_)) : Zp G (d + 3) 61 0 [some (zr 7 0 a0), some (zr 5 0 a1), some (zi x2), some (zi x3), none, none, none] [] s (zRet (some (zi r_)) s_) := by
  replace hm : (oV (s.1 a0 5) fun z1 => if z1 = (0 : Int) then some ((-1 : Int), s) else if x3 = (2 : Int) then some ((0 : Int), s) else m61_23 zFu a0 a1 x2 x3 (0 : Int) (1 : Int) s) = some (r_, s_) := hm
  refine z_aload_n (pc' := 1) hM61 rfl rfl rfl ?_
  obtain ⟨z1, ez1, hm⟩ := o_v hm
  refine z_fldI (pc' := 4) hM61 rfl rfl rfl ez1 ?_
  refine z_ifne (pc' := 7) (t := 9) hM61 rfl rfl (fun h2 => ?_) (fun h2 => ?_)
  · replace hm := o_t hm h2
    refine z_iconst (pc' := 8) hM61 rfl rfl rfl ?_
    cases hm
    exact z_retI hM61 rfl rfl ⟨rfl, rfl⟩
  · replace hm := o_f hm h2
    refine z_iconst (pc' := 10) hM61 rfl rfl rfl ?_
    refine z_istore (pc' := 12) (l' := [some (zr 7 0 a0), some (zr 5 0 a1), some (zi x2), some (zi x3), some (zi (0 : Int)), none, none]) hM61 rfl rfl rfl rfl ?_
    refine z_iload_n (pc' := 13) hM61 rfl rfl rfl ?_
    refine z_iconst (pc' := 14) hM61 rfl rfl rfl ?_
    refine z_cmpne (pc' := 17) (t := 20) hM61 rfl rfl (fun h3 => ?_) (fun h3 => ?_)
    · replace hm := o_t hm h3
      refine z_iload (pc' := 19) hM61 rfl rfl rfl ?_
      cases hm
      exact z_retI hM61 rfl rfl ⟨rfl, rfl⟩
    · replace hm := o_f hm h3
      refine z_iconst (pc' := 21) hM61 rfl rfl rfl ?_
      refine z_istore (pc' := 23) (l' := [some (zr 7 0 a0), some (zr 5 0 a1), some (zi x2), some (zi x3), some (zi (0 : Int)), some (zi (1 : Int)), none]) hM61 rfl rfl rfl rfl ?_
      exact c61_23 hG hm
