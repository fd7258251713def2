/-! ===== methods (by gen_mir.py) ===== -/
def m89  (s : zS) : Option (Int × zS) := oV (s.1 1 4) fun z1 => oC (m77 (5 : Int) z1 s) fun z2 s3 => oD z2 (some (z2, s3))
theorem c89 {G : aHp} {d : Nat} (hG : zG G) {s : zS} {r_ : Int} {s_ : zS} (hm : m89  s = some (r_, s_)) : Zp G (d + 2) 89 0 [some (zr 9 0 9)] [] s (zRet (some (zi r_)) s_) := by
  replace hm : (oV (s.1 1 4) fun z1 => oC (m77 (5 : Int) z1 s) fun z2 s3 => oD z2 (some (z2, s3))) = some (r_, s_) := hm
  refine z_aload_n (pc' := 1) hM89 rfl rfl rfl ?_
  refine z_fldR (pc' := 4) hM89 rfl (zf_9_0 hG) rfl rfl ?_
  refine z_iconst (pc' := 5) hM89 rfl rfl rfl ?_
  refine z_aload_n (pc' := 6) hM89 rfl rfl rfl ?_
  refine z_fldR (pc' := 9) hM89 rfl (zf_9_0 hG) rfl rfl ?_
  obtain ⟨z1, ez1, hm⟩ := o_v hm
  refine z_fldI (pc' := 12) hM89 rfl rfl rfl ez1 ?_
  obtain ⟨z2, s3, h4, hm⟩ := o_c hm
  refine z_cv (d := d + 1) (pc' := 15) hM89 rfl hM77 rfl rfl rfl rfl rfl rfl (c77 (d := d) hG h4) rfl ?_
  obtain ⟨h5, hm⟩ := o_d hm
  cases hm
  exact z_retZ hM89 rfl rfl h5 ⟨rfl, rfl⟩
def m96_56  (s : zS) : Option (Int × zS) := oV (s.1 1 4) fun z1 => oC (m77 (3 : Int) z1 s) fun z2 s3 => oD z2 (some (z2, s3))
theorem c96_56 {G : aHp} {d : Nat} (hG : zG G) {d1 d2 d3 : Option zV} {s : zS} {r_ : Int} {s_ : zS} (hm : m96_56  s = some (r_, s_)) : Zp G (d + 7) 96 56 [some (zr 9 0 9), d1, d2, d3] [] s (zRet (some (zi r_)) s_) := by
  replace hm : (oV (s.1 1 4) fun z1 => oC (m77 (3 : Int) z1 s) fun z2 s3 => oD z2 (some (z2, s3))) = some (r_, s_) := hm
  refine z_aload_n (pc' := 57) hM96 rfl rfl rfl ?_
  refine z_fldR (pc' := 60) hM96 rfl (zf_9_0 hG) rfl rfl ?_
  refine z_iconst (pc' := 61) hM96 rfl rfl rfl ?_
  refine z_aload_n (pc' := 62) hM96 rfl rfl rfl ?_
  refine z_fldR (pc' := 65) hM96 rfl (zf_9_0 hG) rfl rfl ?_
  obtain ⟨z1, ez1, hm⟩ := o_v hm
  refine z_fldI (pc' := 68) hM96 rfl rfl rfl ez1 ?_
  obtain ⟨z2, s3, h4, hm⟩ := o_c hm
  refine z_cv (d := d + 6) (pc' := 71) hM96 rfl hM77 rfl rfl rfl rfl rfl rfl (c77 (d := d + 5) hG h4) rfl ?_
  obtain ⟨h5, hm⟩ := o_d hm
  cases hm
  exact z_retZ hM96 rfl rfl h5 ⟨rfl, rfl⟩
def m96 (a1 : Nat) (a2 : Nat) (s : zS) : Option (Int × zS) := oC (m84 s) fun z1 s2 => if z1 = (0 : Int) then some ((0 : Int), s2) else oC (m54 (a1 + 1) s2) fun z5 s6 => if z5 = (-1 : Int) then oC (m54 (a1 + 3) s6) fun z9 s10 => if z9 = (-1 : Int) then oC (m54 (a1 + 5) s10) fun z13 s14 => if z13 = (-1 : Int) then oC (m53 a2 s14) fun z17 s18 => oC (m76 s18) fun z20 s21 => some ((1 : Int), s21) else m96_56 s14 else m96_56 s10 else m96_56 s6
theorem c96 {G : aHp} {d : Nat} (hG : zG G) {a1 : Nat} {a2 : Nat} {s : zS} {r_ : Int} {s_ : zS} (hm : m96 a1 a2 s = some (r_, s_)) : Zp G (d + 7) 96 0 [some (zr 9 0 9), some (zr 5 0 a1), some (zr 6 0 a2), none] [] s (zRet (some (zi r_)) s_) := by
  replace hm : (oC (m84 s) fun z1 s2 => if z1 = (0 : Int) then some ((0 : Int), s2) else oC (m54 (a1 + 1) s2) fun z5 s6 => if z5 = (-1 : Int) then oC (m54 (a1 + 3) s6) fun z9 s10 => if z9 = (-1 : Int) then oC (m54 (a1 + 5) s10) fun z13 s14 => if z13 = (-1 : Int) then oC (m53 a2 s14) fun z17 s18 => oC (m76 s18) fun z20 s21 => some ((1 : Int), s21) else m96_56 s14 else m96_56 s10 else m96_56 s6) = some (r_, s_) := hm
  refine z_aload_n (pc' := 1) hM96 rfl rfl rfl ?_
  refine z_fldR (pc' := 4) hM96 rfl (zf_9_0 hG) rfl rfl ?_
  obtain ⟨z1, s2, h3, hm⟩ := o_c hm
  refine z_cv (d := d + 6) (pc' := 7) hM96 rfl hM84 rfl rfl rfl rfl rfl rfl (c84 (d := d) hG h3) rfl ?_
  refine z_ifne (pc' := 10) (t := 12) hM96 rfl rfl (fun h4 => ?_) (fun h4 => ?_)
  · replace hm := o_t hm h4
    refine z_iconst (pc' := 11) hM96 rfl rfl rfl ?_
    cases hm
    exact z_retZ hM96 rfl rfl (Or.inl rfl) ⟨rfl, rfl⟩
  · replace hm := o_f hm h4
    refine z_aload_n (pc' := 13) hM96 rfl rfl rfl ?_
    refine z_fldR (pc' := 16) hM96 rfl (zf_9_0 hG) rfl rfl ?_
    refine z_fldR (pc' := 19) hM96 rfl (zf_8_1 hG) rfl rfl ?_
    refine z_astore_n (pc' := 20) (l' := [some (zr 9 0 9), some (zr 5 0 a1), some (zr 6 0 a2), some (zr 100 6 3)]) hM96 rfl rfl rfl rfl ?_
    refine z_aload_n (pc' := 21) hM96 rfl rfl rfl ?_
    refine z_fldR (pc' := 24) hM96 rfl (zf_5_0 hG) rfl rfl ?_
    refine z_aload_n (pc' := 25) hM96 rfl rfl rfl ?_
    obtain ⟨z5, s6, h7, hm⟩ := o_c hm
    refine z_cv (d := d + 6) (pc' := 28) hM96 rfl hM54 rfl rfl rfl rfl rfl rfl (c54 (d := d + 5) hG h7) rfl ?_
    refine z_iconst (pc' := 29) hM96 rfl rfl rfl ?_
    refine z_cmpne (pc' := 32) (t := 56) hM96 rfl rfl (fun h8 => ?_) (fun h8 => ?_)
    · replace hm := o_t hm h8
      refine z_aload_n (pc' := 33) hM96 rfl rfl rfl ?_
      refine z_fldR (pc' := 36) hM96 rfl (zf_5_1 hG) rfl rfl ?_
      refine z_aload_n (pc' := 37) hM96 rfl rfl rfl ?_
      obtain ⟨z9, s10, h11, hm⟩ := o_c hm
      refine z_cv (d := d + 6) (pc' := 40) hM96 rfl hM54 rfl rfl rfl rfl rfl rfl (c54 (d := d + 5) hG h11) rfl ?_
      refine z_iconst (pc' := 41) hM96 rfl rfl rfl ?_
      refine z_cmpne (pc' := 44) (t := 56) hM96 rfl rfl (fun h12 => ?_) (fun h12 => ?_)
      · replace hm := o_t hm h12
        refine z_aload_n (pc' := 45) hM96 rfl rfl rfl ?_
        refine z_fldR (pc' := 48) hM96 rfl (zf_5_2 hG) rfl rfl ?_
        refine z_aload_n (pc' := 49) hM96 rfl rfl rfl ?_
        obtain ⟨z13, s14, h15, hm⟩ := o_c hm
        refine z_cv (d := d + 6) (pc' := 52) hM96 rfl hM54 rfl rfl rfl rfl rfl rfl (c54 (d := d + 5) hG h15) rfl ?_
        refine z_iconst (pc' := 53) hM96 rfl rfl rfl ?_
        refine z_cmpeq (pc' := 56) (t := 72) hM96 rfl rfl (fun h16 => ?_) (fun h16 => ?_)
        · replace hm := o_t hm h16
          refine z_aload_n (pc' := 73) hM96 rfl rfl rfl ?_
          refine z_aload_n (pc' := 74) hM96 rfl rfl rfl ?_
          obtain ⟨z17, s18, h19, hm⟩ := o_c hm
          refine z_cvV (d := d + 6) (pc' := 77) hM96 rfl hM53 rfl rfl rfl rfl rfl rfl (c53 (d := d + 1) hG h19) rfl ?_
          refine z_aload_n (pc' := 78) hM96 rfl rfl rfl ?_
          refine z_fldR (pc' := 81) hM96 rfl (zf_9_0 hG) rfl rfl ?_
          obtain ⟨z20, s21, h22, hm⟩ := o_c hm
          refine z_cvV (d := d + 6) (pc' := 84) hM96 rfl hM76 rfl rfl rfl rfl rfl rfl (c76 (d := d + 5) hG h22) rfl ?_
          refine z_iconst (pc' := 85) hM96 rfl rfl rfl ?_
          cases hm
          exact z_retZ hM96 rfl rfl (Or.inr rfl) ⟨rfl, rfl⟩
        · replace hm := o_f hm h16
          exact c96_56 hG hm
      · replace hm := o_f hm h12
        exact c96_56 hG hm
    · replace hm := o_f hm h8
      exact c96_56 hG hm
def m90 (a1 : Nat) (s : zS) : Option (Int × zS) := oC (m76 s) fun z1 s2 => oC (m96 a1 (a1 + 1) s2) fun z4 s5 => oD z4 (some (z4, s5))
theorem c90 {G : aHp} {d : Nat} (hG : zG G) {a1 : Nat} {s : zS} {r_ : Int} {s_ : zS} (hm : m90 a1 s = some (r_, s_)) : Zp G (d + 8) 90 0 [some (zr 9 0 9), some (zr 5 0 a1)] [] s (zRet (some (zi r_)) s_) := by
  replace hm : (oC (m76 s) fun z1 s2 => oC (m96 a1 (a1 + 1) s2) fun z4 s5 => oD z4 (some (z4, s5))) = some (r_, s_) := hm
  refine z_aload_n (pc' := 1) hM90 rfl rfl rfl ?_
  refine z_fldR (pc' := 4) hM90 rfl (zf_9_0 hG) rfl rfl ?_
  obtain ⟨z1, s2, h3, hm⟩ := o_c hm
  refine z_cvV (d := d + 7) (pc' := 7) hM90 rfl hM76 rfl rfl rfl rfl rfl rfl (c76 (d := d + 6) hG h3) rfl ?_
  refine z_aload_n (pc' := 8) hM90 rfl rfl rfl ?_
  refine z_aload_n (pc' := 9) hM90 rfl rfl rfl ?_
  refine z_aload_n (pc' := 10) hM90 rfl rfl rfl ?_
  refine z_fldR (pc' := 13) hM90 rfl (zf_5_0 hG) rfl rfl ?_
  obtain ⟨z4, s5, h6, hm⟩ := o_c hm
  refine z_cv (d := d + 7) (pc' := 16) hM90 rfl hM96 rfl rfl rfl rfl rfl rfl (c96 (d := d) hG h6) rfl ?_
  obtain ⟨h7, hm⟩ := o_d hm
  cases hm
  exact z_retZ hM90 rfl rfl h7 ⟨rfl, rfl⟩
def m97 (a1 : Nat) (s : zS) : Option (Int × zS) := oC (m84 s) fun z1 s2 => if z1 = (0 : Int) then some ((-1 : Int), s2) else oC (m54 a1 s2) fun z5 s6 => if z5 = (-1 : Int) then oV (s6.1 1 4) fun z9 => oC (m77 (3 : Int) z9 s6) fun z10 s11 => some (z5, s11) else some (z5, s6)
theorem c97 {G : aHp} {d : Nat} (hG : zG G) {a1 : Nat} {s : zS} {r_ : Int} {s_ : zS} (hm : m97 a1 s = some (r_, s_)) : Zp G (d + 7) 97 0 [some (zr 9 0 9), some (zr 6 0 a1), none] [] s (zRet (some (zi r_)) s_) := by
  replace hm : (oC (m84 s) fun z1 s2 => if z1 = (0 : Int) then some ((-1 : Int), s2) else oC (m54 a1 s2) fun z5 s6 => if z5 = (-1 : Int) then oV (s6.1 1 4) fun z9 => oC (m77 (3 : Int) z9 s6) fun z10 s11 => some (z5, s11) else some (z5, s6)) = some (r_, s_) := hm
  refine z_aload_n (pc' := 1) hM97 rfl rfl rfl ?_
  refine z_fldR (pc' := 4) hM97 rfl (zf_9_0 hG) rfl rfl ?_
  obtain ⟨z1, s2, h3, hm⟩ := o_c hm
  refine z_cv (d := d + 6) (pc' := 7) hM97 rfl hM84 rfl rfl rfl rfl rfl rfl (c84 (d := d) hG h3) rfl ?_
  refine z_ifne (pc' := 10) (t := 12) hM97 rfl rfl (fun h4 => ?_) (fun h4 => ?_)
  · replace hm := o_t hm h4
    refine z_iconst (pc' := 11) hM97 rfl rfl rfl ?_
    cases hm
    exact z_retI hM97 rfl rfl ⟨rfl, rfl⟩
  · replace hm := o_f hm h4
    refine z_aload_n (pc' := 13) hM97 rfl rfl rfl ?_
    refine z_aload_n (pc' := 14) hM97 rfl rfl rfl ?_
    refine z_fldR (pc' := 17) hM97 rfl (zf_9_0 hG) rfl rfl ?_
    refine z_fldR (pc' := 20) hM97 rfl (zf_8_1 hG) rfl rfl ?_
    obtain ⟨z5, s6, h7, hm⟩ := o_c hm
    refine z_cv (d := d + 6) (pc' := 23) hM97 rfl hM54 rfl rfl rfl rfl rfl rfl (c54 (d := d + 5) hG h7) rfl ?_
    refine z_istore_n (pc' := 24) (l' := [some (zr 9 0 9), some (zr 6 0 a1), some (zi z5)]) hM97 rfl rfl rfl rfl ?_
    refine z_iload_n (pc' := 25) hM97 rfl rfl rfl ?_
    refine z_iconst (pc' := 26) hM97 rfl rfl rfl ?_
    refine z_cmpne (pc' := 29) (t := 45) hM97 rfl rfl (fun h8 => ?_) (fun h8 => ?_)
    · replace hm := o_t hm h8
      refine z_aload_n (pc' := 30) hM97 rfl rfl rfl ?_
      refine z_fldR (pc' := 33) hM97 rfl (zf_9_0 hG) rfl rfl ?_
      refine z_iconst (pc' := 34) hM97 rfl rfl rfl ?_
      refine z_aload_n (pc' := 35) hM97 rfl rfl rfl ?_
      refine z_fldR (pc' := 38) hM97 rfl (zf_9_0 hG) rfl rfl ?_
      obtain ⟨z9, ez9, hm⟩ := o_v hm
      refine z_fldI (pc' := 41) hM97 rfl rfl rfl ez9 ?_
      obtain ⟨z10, s11, h12, hm⟩ := o_c hm
      refine z_cv (d := d + 6) (pc' := 44) hM97 rfl hM77 rfl rfl rfl rfl rfl rfl (c77 (d := d + 5) hG h12) rfl ?_
      refine z_pop (pc' := 45) hM97 rfl rfl ?_
      refine z_iload_n (pc' := 46) hM97 rfl rfl rfl ?_
      cases hm
      exact z_retI hM97 rfl rfl ⟨rfl, rfl⟩
    · replace hm := o_f hm h8
      refine z_iload_n (pc' := 46) hM97 rfl rfl rfl ?_
      cases hm
      exact z_retI hM97 rfl rfl ⟨rfl, rfl⟩
def m95 (k1 : Nat) (x2 : Int) (x3 : Int) (s : zS) : Option (Int × zS) := oC (m82 k1 s) fun z1 s2 => if z1 = (0 : Int) then some ((-1 : Int), s2) else oC (m83 x2 x3 s2) fun z5 s6 => some (z5, s6)
theorem c95 {G : aHp} {d : Nat} (hG : zG G) {k1 : Nat} {x2 : Int} {x3 : Int} {s : zS} {r_ : Int} {s_ : zS} (hm : m95 k1 x2 x3 s = some (r_, s_)) : Zp G (d + 7) 95 0 [some (zr 9 0 9), some (zt (k1 + 1)), some (zi x2), some (zi x3)] [] s (zRet (some (zi r_)) s_) := by
  replace hm : (oC (m82 k1 s) fun z1 s2 => if z1 = (0 : Int) then some ((-1 : Int), s2) else oC (m83 x2 x3 s2) fun z5 s6 => some (z5, s6)) = some (r_, s_) := hm
  refine z_aload_n (pc' := 1) hM95 rfl rfl rfl ?_
  refine z_fldR (pc' := 4) hM95 rfl (zf_9_0 hG) rfl rfl ?_
  refine z_aload_t (pc' := 5) hM95 rfl rfl rfl ?_
  obtain ⟨z1, s2, h3, hm⟩ := o_c hm
  refine z_cv (d := d + 6) (pc' := 8) hM95 rfl hM82 rfl rfl rfl rfl rfl rfl (c82 (d := d) hG h3) rfl ?_
  refine z_ifeq (pc' := 11) (t := 23) hM95 rfl rfl (fun h4 => ?_) (fun h4 => ?_)
  · replace hm := o_t hm h4
    refine z_iconst (pc' := 24) hM95 rfl rfl rfl ?_
    cases hm
    exact z_retI hM95 rfl rfl ⟨rfl, rfl⟩
  · replace hm := o_f hm h4
    refine z_aload_n (pc' := 12) hM95 rfl rfl rfl ?_
    refine z_fldR (pc' := 15) hM95 rfl (zf_9_0 hG) rfl rfl ?_
    refine z_iload_n (pc' := 16) hM95 rfl rfl rfl ?_
    refine z_iload_n (pc' := 17) hM95 rfl rfl rfl ?_
    obtain ⟨z5, s6, h7, hm⟩ := o_c hm
    refine z_cv (d := d + 6) (pc' := 20) hM95 rfl hM83 rfl rfl rfl rfl rfl rfl (c83 (d := d + 4) hG h7) rfl ?_
    refine z_goto (t := 24) hM95 rfl ?_
    cases hm
    exact z_retI hM95 rfl rfl ⟨rfl, rfl⟩
def m91_60  (s : zS) : Option (Int × zS) := oV (s.1 1 4) fun z1 => oC (m77 (3 : Int) z1 s) fun z2 s3 => oD z2 (some (z2, s3))
theorem c91_60 {G : aHp} {d : Nat} (hG : zG G) {d1 d2 d3 d4 : Option zV} {s : zS} {r_ : Int} {s_ : zS} (hm : m91_60  s = some (r_, s_)) : Zp G (d + 8) 91 60 [some (zr 9 0 9), d1, d2, d3, d4] [] s (zRet (some (zi r_)) s_) := by
  replace hm : (oV (s.1 1 4) fun z1 => oC (m77 (3 : Int) z1 s) fun z2 s3 => oD z2 (some (z2, s3))) = some (r_, s_) := hm
  refine z_aload_n (pc' := 61) hM91 rfl rfl rfl ?_
  refine z_fldR (pc' := 64) hM91 rfl (zf_9_0 hG) rfl rfl ?_
  refine z_iconst (pc' := 65) hM91 rfl rfl rfl ?_
  refine z_aload_n (pc' := 66) hM91 rfl rfl rfl ?_
  refine z_fldR (pc' := 69) hM91 rfl (zf_9_0 hG) rfl rfl ?_
  obtain ⟨z1, ez1, hm⟩ := o_v hm
  refine z_fldI (pc' := 72) hM91 rfl rfl rfl ez1 ?_
  obtain ⟨z2, s3, h4, hm⟩ := o_c hm
  refine z_cv (d := d + 7) (pc' := 75) hM91 rfl hM77 rfl rfl rfl rfl rfl rfl (c77 (d := d + 6) hG h4) rfl ?_
  obtain ⟨h5, hm⟩ := o_d hm
  cases hm
  exact z_retZ hM91 rfl rfl h5 ⟨rfl, rfl⟩
def m91 (a1 : Nat) (s : zS) : Option (Int × zS) := oC (m76 s) fun z1 s2 => oC (m97 (a1 + 1) s2) fun z4 s5 => if z4 = (-1 : Int) then some ((0 : Int), s5) else oC (m76 s5) fun z8 s9 => oC (m97 (a1 + 1) s9) fun z11 s12 => if z11 = (-1 : Int) then some ((0 : Int), s12) else if z4 = z11 then m91_60 s12 else oC (m41 a1 z4 z11 s12) fun z16 s17 => if z16 = (0 : Int) then oC (m76 s17) fun z20 s21 => oC (m95 4 (1 : Int) (9 : Int) s21) fun z23 s24 => if z23 = (-1 : Int) then some ((0 : Int), s24) else oC (m40 a1 z4 z11 z23 s24) fun z27 s28 => some ((1 : Int), s28) else m91_60 s17
theorem c91 {G : aHp} {d : Nat} (hG : zG G) {a1 : Nat} {s : zS} {r_ : Int} {s_ : zS} (hm : m91 a1 s = some (r_, s_)) : Zp G (d + 8) 91 0 [some (zr 9 0 9), some (zr 5 0 a1), none, none, none] [] s (zRet (some (zi r_)) s_) := by
  replace hm : (oC (m76 s) fun z1 s2 => oC (m97 (a1 + 1) s2) fun z4 s5 => if z4 = (-1 : Int) then some ((0 : Int), s5) else oC (m76 s5) fun z8 s9 => oC (m97 (a1 + 1) s9) fun z11 s12 => if z11 = (-1 : Int) then some ((0 : Int), s12) else if z4 = z11 then m91_60 s12 else oC (m41 a1 z4 z11 s12) fun z16 s17 => if z16 = (0 : Int) then oC (m76 s17) fun z20 s21 => oC (m95 4 (1 : Int) (9 : Int) s21) fun z23 s24 => if z23 = (-1 : Int) then some ((0 : Int), s24) else oC (m40 a1 z4 z11 z23 s24) fun z27 s28 => some ((1 : Int), s28) else m91_60 s17) = some (r_, s_) := hm
  refine z_aload_n (pc' := 1) hM91 rfl rfl rfl ?_
  refine z_fldR (pc' := 4) hM91 rfl (zf_9_0 hG) rfl rfl ?_
  obtain ⟨z1, s2, h3, hm⟩ := o_c hm
  refine z_cvV (d := d + 7) (pc' := 7) hM91 rfl hM76 rfl rfl rfl rfl rfl rfl (c76 (d := d + 6) hG h3) rfl ?_
  refine z_aload_n (pc' := 8) hM91 rfl rfl rfl ?_
  refine z_aload_n (pc' := 9) hM91 rfl rfl rfl ?_
  refine z_fldR (pc' := 12) hM91 rfl (zf_5_0 hG) rfl rfl ?_
  obtain ⟨z4, s5, h6, hm⟩ := o_c hm
  refine z_cv (d := d + 7) (pc' := 15) hM91 rfl hM97 rfl rfl rfl rfl rfl rfl (c97 (d := d) hG h6) rfl ?_
  refine z_istore_n (pc' := 16) (l' := [some (zr 9 0 9), some (zr 5 0 a1), some (zi z4), none, none]) hM91 rfl rfl rfl rfl ?_
  refine z_iload_n (pc' := 17) hM91 rfl rfl rfl ?_
  refine z_iconst (pc' := 18) hM91 rfl rfl rfl ?_
  refine z_cmpne (pc' := 21) (t := 23) hM91 rfl rfl (fun h7 => ?_) (fun h7 => ?_)
  · replace hm := o_t hm h7
    refine z_iconst (pc' := 22) hM91 rfl rfl rfl ?_
    cases hm
    exact z_retZ hM91 rfl rfl (Or.inl rfl) ⟨rfl, rfl⟩
  · replace hm := o_f hm h7
    refine z_aload_n (pc' := 24) hM91 rfl rfl rfl ?_
    refine z_fldR (pc' := 27) hM91 rfl (zf_9_0 hG) rfl rfl ?_
    obtain ⟨z8, s9, h10, hm⟩ := o_c hm
    refine z_cvV (d := d + 7) (pc' := 30) hM91 rfl hM76 rfl rfl rfl rfl rfl rfl (c76 (d := d + 6) hG h10) rfl ?_
    refine z_aload_n (pc' := 31) hM91 rfl rfl rfl ?_
    refine z_aload_n (pc' := 32) hM91 rfl rfl rfl ?_
    refine z_fldR (pc' := 35) hM91 rfl (zf_5_0 hG) rfl rfl ?_
    obtain ⟨z11, s12, h13, hm⟩ := o_c hm
    refine z_cv (d := d + 7) (pc' := 38) hM91 rfl hM97 rfl rfl rfl rfl rfl rfl (c97 (d := d) hG h13) rfl ?_
    refine z_istore_n (pc' := 39) (l' := [some (zr 9 0 9), some (zr 5 0 a1), some (zi z4), some (zi z11), none]) hM91 rfl rfl rfl rfl ?_
    refine z_iload_n (pc' := 40) hM91 rfl rfl rfl ?_
    refine z_iconst (pc' := 41) hM91 rfl rfl rfl ?_
    refine z_cmpne (pc' := 44) (t := 46) hM91 rfl rfl (fun h14 => ?_) (fun h14 => ?_)
    · replace hm := o_t hm h14
      refine z_iconst (pc' := 45) hM91 rfl rfl rfl ?_
      cases hm
      exact z_retZ hM91 rfl rfl (Or.inl rfl) ⟨rfl, rfl⟩
    · replace hm := o_f hm h14
      refine z_iload_n (pc' := 47) hM91 rfl rfl rfl ?_
      refine z_iload_n (pc' := 48) hM91 rfl rfl rfl ?_
      refine z_cmpeq (pc' := 51) (t := 60) hM91 rfl rfl (fun h15 => ?_) (fun h15 => ?_)
      · replace hm := o_t hm h15
        exact c91_60 hG hm
      · replace hm := o_f hm h15
        refine z_aload_n (pc' := 52) hM91 rfl rfl rfl ?_
        refine z_iload_n (pc' := 53) hM91 rfl rfl rfl ?_
        refine z_iload_n (pc' := 54) hM91 rfl rfl rfl ?_
        obtain ⟨z16, s17, h18, hm⟩ := o_c hm
        refine z_cv (d := d + 7) (pc' := 57) hM91 rfl hM41 rfl rfl rfl rfl rfl rfl (c41 (d := d + 6) hG h18) rfl ?_
        refine z_ifeq (pc' := 60) (t := 76) hM91 rfl rfl (fun h19 => ?_) (fun h19 => ?_)
        · replace hm := o_t hm h19
          refine z_aload_n (pc' := 77) hM91 rfl rfl rfl ?_
          refine z_fldR (pc' := 80) hM91 rfl (zf_9_0 hG) rfl rfl ?_
          obtain ⟨z20, s21, h22, hm⟩ := o_c hm
          refine z_cvV (d := d + 7) (pc' := 83) hM91 rfl hM76 rfl rfl rfl rfl rfl rfl (c76 (d := d + 6) hG h22) rfl ?_
          refine z_aload_n (pc' := 84) hM91 rfl rfl rfl ?_
          refine z_ldcT (pc' := 86) hM91 rfl rfl rfl ?_
          refine z_iconst (pc' := 87) hM91 rfl rfl rfl ?_
          refine z_bipush (pc' := 89) hM91 rfl rfl rfl ?_
          obtain ⟨z23, s24, h25, hm⟩ := o_c hm
          refine z_cv (d := d + 7) (pc' := 92) hM91 rfl hM95 rfl rfl rfl rfl rfl rfl (c95 (d := d) hG h25) rfl ?_
          refine z_istore (pc' := 94) (l' := [some (zr 9 0 9), some (zr 5 0 a1), some (zi z4), some (zi z11), some (zi z23)]) hM91 rfl rfl rfl rfl ?_
          refine z_iload (pc' := 96) hM91 rfl rfl rfl ?_
          refine z_iconst (pc' := 97) hM91 rfl rfl rfl ?_
          refine z_cmpne (pc' := 100) (t := 102) hM91 rfl rfl (fun h26 => ?_) (fun h26 => ?_)
          · replace hm := o_t hm h26
            refine z_iconst (pc' := 101) hM91 rfl rfl rfl ?_
            cases hm
            exact z_retZ hM91 rfl rfl (Or.inl rfl) ⟨rfl, rfl⟩
          · replace hm := o_f hm h26
            refine z_aload_n (pc' := 103) hM91 rfl rfl rfl ?_
            refine z_iload_n (pc' := 104) hM91 rfl rfl rfl ?_
            refine z_iload_n (pc' := 105) hM91 rfl rfl rfl ?_
            refine z_iload (pc' := 107) hM91 rfl rfl rfl ?_
            obtain ⟨z27, s28, h29, hm⟩ := o_c hm
            refine z_cvV (d := d + 7) (pc' := 110) hM91 rfl hM40 rfl rfl rfl rfl rfl rfl (c40 (d := d + 6) hG h29) rfl ?_
            refine z_iconst (pc' := 111) hM91 rfl rfl rfl ?_
            cases hm
            exact z_retZ hM91 rfl rfl (Or.inr rfl) ⟨rfl, rfl⟩
        · replace hm := o_f hm h19
          exact c91_60 hG hm
def m92 (a1 : Nat) (s : zS) : Option (Int × zS) := oV (s.1 (a1 + 3) 0) fun z1 => oC (m76 s) fun z2 s3 => oC (m96 a1 (a1 + 3) s3) fun z5 s6 => if z5 = (0 : Int) then some ((0 : Int), s6) else oC (m95 6 (1 : Int) (50 : Int) s6) fun z9 s10 => if z9 = (-1 : Int) then some ((0 : Int), s10) else oC (m82 7 s10) fun z13 s14 => if z13 = (0 : Int) then some ((0 : Int), s14) else oC (m97 (a1 + 1) s14) fun z17 s18 => if z17 = (-1 : Int) then some ((0 : Int), s18) else oC (m76 s18) fun z21 s22 => oC (m95 8 (0 : Int) (9 : Int) s22) fun z24 s25 => if z24 = (-1 : Int) then some ((0 : Int), s25) else oX z1 8 (oV (sI s25 (a1 + 10) z1 z9) fun s28 => oX z1 8 (oV (sI s28 (a1 + 11) z1 z17) fun s30 => oX z1 8 (oV (sI s30 (a1 + 12) z1 z24) fun s32 => some ((1 : Int), s32))))
theorem c92 {G : aHp} {d : Nat} (hG : zG G) {a1 : Nat} {s : zS} {r_ : Int} {s_ : zS} (hm : m92 a1 s = some (r_, s_)) : Zp G (d + 8) 92 0 [some (zr 9 0 9), some (zr 5 0 a1), none, none, none, none] [] s (zRet (some (zi r_)) s_) := by
  replace hm : (oV (s.1 (a1 + 3) 0) fun z1 => oC (m76 s) fun z2 s3 => oC (m96 a1 (a1 + 3) s3) fun z5 s6 => if z5 = (0 : Int) then some ((0 : Int), s6) else oC (m95 6 (1 : Int) (50 : Int) s6) fun z9 s10 => if z9 = (-1 : Int) then some ((0 : Int), s10) else oC (m82 7 s10) fun z13 s14 => if z13 = (0 : Int) then some ((0 : Int), s14) else oC (m97 (a1 + 1) s14) fun z17 s18 => if z17 = (-1 : Int) then some ((0 : Int), s18) else oC (m76 s18) fun z21 s22 => oC (m95 8 (0 : Int) (9 : Int) s22) fun z24 s25 => if z24 = (-1 : Int) then some ((0 : Int), s25) else oX z1 8 (oV (sI s25 (a1 + 10) z1 z9) fun s28 => oX z1 8 (oV (sI s28 (a1 + 11) z1 z17) fun s30 => oX z1 8 (oV (sI s30 (a1 + 12) z1 z24) fun s32 => some ((1 : Int), s32))))) = some (r_, s_) := hm
  refine z_aload_n (pc' := 1) hM92 rfl rfl rfl ?_
  refine z_fldR (pc' := 4) hM92 rfl (zf_5_1 hG) rfl rfl ?_
  obtain ⟨z1, ez1, hm⟩ := o_v hm
  refine z_fldI (pc' := 7) hM92 rfl rfl rfl ez1 ?_
  refine z_istore_n (pc' := 8) (l' := [some (zr 9 0 9), some (zr 5 0 a1), some (zi z1), none, none, none]) hM92 rfl rfl rfl rfl ?_
  refine z_aload_n (pc' := 9) hM92 rfl rfl rfl ?_
  refine z_fldR (pc' := 12) hM92 rfl (zf_9_0 hG) rfl rfl ?_
  obtain ⟨z2, s3, h4, hm⟩ := o_c hm
  refine z_cvV (d := d + 7) (pc' := 15) hM92 rfl hM76 rfl rfl rfl rfl rfl rfl (c76 (d := d + 6) hG h4) rfl ?_
  refine z_aload_n (pc' := 16) hM92 rfl rfl rfl ?_
  refine z_aload_n (pc' := 17) hM92 rfl rfl rfl ?_
  refine z_aload_n (pc' := 18) hM92 rfl rfl rfl ?_
  refine z_fldR (pc' := 21) hM92 rfl (zf_5_1 hG) rfl rfl ?_
  obtain ⟨z5, s6, h7, hm⟩ := o_c hm
  refine z_cv (d := d + 7) (pc' := 24) hM92 rfl hM96 rfl rfl rfl rfl rfl rfl (c96 (d := d) hG h7) rfl ?_
  refine z_ifne (pc' := 27) (t := 29) hM92 rfl rfl (fun h8 => ?_) (fun h8 => ?_)
  · replace hm := o_t hm h8
    refine z_iconst (pc' := 28) hM92 rfl rfl rfl ?_
    cases hm
    exact z_retZ hM92 rfl rfl (Or.inl rfl) ⟨rfl, rfl⟩
  · replace hm := o_f hm h8
    refine z_aload_n (pc' := 30) hM92 rfl rfl rfl ?_
    refine z_ldcT (pc' := 32) hM92 rfl rfl rfl ?_
    refine z_iconst (pc' := 33) hM92 rfl rfl rfl ?_
    refine z_bipush (pc' := 35) hM92 rfl rfl rfl ?_
    obtain ⟨z9, s10, h11, hm⟩ := o_c hm
    refine z_cv (d := d + 7) (pc' := 38) hM92 rfl hM95 rfl rfl rfl rfl rfl rfl (c95 (d := d) hG h11) rfl ?_
    refine z_istore_n (pc' := 39) (l' := [some (zr 9 0 9), some (zr 5 0 a1), some (zi z1), some (zi z9), none, none]) hM92 rfl rfl rfl rfl ?_
    refine z_iload_n (pc' := 40) hM92 rfl rfl rfl ?_
    refine z_iconst (pc' := 41) hM92 rfl rfl rfl ?_
    refine z_cmpeq (pc' := 44) (t := 56) hM92 rfl rfl (fun h12 => ?_) (fun h12 => ?_)
    · replace hm := o_t hm h12
      refine z_iconst (pc' := 57) hM92 rfl rfl rfl ?_
      cases hm
      exact z_retZ hM92 rfl rfl (Or.inl rfl) ⟨rfl, rfl⟩
    · replace hm := o_f hm h12
      refine z_aload_n (pc' := 45) hM92 rfl rfl rfl ?_
      refine z_fldR (pc' := 48) hM92 rfl (zf_9_0 hG) rfl rfl ?_
      refine z_ldcT (pc' := 50) hM92 rfl rfl rfl ?_
      obtain ⟨z13, s14, h15, hm⟩ := o_c hm
      refine z_cv (d := d + 7) (pc' := 53) hM92 rfl hM82 rfl rfl rfl rfl rfl rfl (c82 (d := d + 1) hG h15) rfl ?_
      refine z_ifne (pc' := 56) (t := 58) hM92 rfl rfl (fun h16 => ?_) (fun h16 => ?_)
      · replace hm := o_t hm h16
        refine z_iconst (pc' := 57) hM92 rfl rfl rfl ?_
        cases hm
        exact z_retZ hM92 rfl rfl (Or.inl rfl) ⟨rfl, rfl⟩
      · replace hm := o_f hm h16
        refine z_aload_n (pc' := 59) hM92 rfl rfl rfl ?_
        refine z_aload_n (pc' := 60) hM92 rfl rfl rfl ?_
        refine z_fldR (pc' := 63) hM92 rfl (zf_5_0 hG) rfl rfl ?_
        obtain ⟨z17, s18, h19, hm⟩ := o_c hm
        refine z_cv (d := d + 7) (pc' := 66) hM92 rfl hM97 rfl rfl rfl rfl rfl rfl (c97 (d := d) hG h19) rfl ?_
        refine z_istore (pc' := 68) (l' := [some (zr 9 0 9), some (zr 5 0 a1), some (zi z1), some (zi z9), some (zi z17), none]) hM92 rfl rfl rfl rfl ?_
        refine z_iload (pc' := 70) hM92 rfl rfl rfl ?_
        refine z_iconst (pc' := 71) hM92 rfl rfl rfl ?_
        refine z_cmpne (pc' := 74) (t := 76) hM92 rfl rfl (fun h20 => ?_) (fun h20 => ?_)
        · replace hm := o_t hm h20
          refine z_iconst (pc' := 75) hM92 rfl rfl rfl ?_
          cases hm
          exact z_retZ hM92 rfl rfl (Or.inl rfl) ⟨rfl, rfl⟩
        · replace hm := o_f hm h20
          refine z_aload_n (pc' := 77) hM92 rfl rfl rfl ?_
          refine z_fldR (pc' := 80) hM92 rfl (zf_9_0 hG) rfl rfl ?_
          obtain ⟨z21, s22, h23, hm⟩ := o_c hm
          refine z_cvV (d := d + 7) (pc' := 83) hM92 rfl hM76 rfl rfl rfl rfl rfl rfl (c76 (d := d + 6) hG h23) rfl ?_
          refine z_aload_n (pc' := 84) hM92 rfl rfl rfl ?_
          refine z_ldcT (pc' := 86) hM92 rfl rfl rfl ?_
          refine z_iconst (pc' := 87) hM92 rfl rfl rfl ?_
          refine z_bipush (pc' := 89) hM92 rfl rfl rfl ?_
          obtain ⟨z24, s25, h26, hm⟩ := o_c hm
          refine z_cv (d := d + 7) (pc' := 92) hM92 rfl hM95 rfl rfl rfl rfl rfl rfl (c95 (d := d) hG h26) rfl ?_
          refine z_istore (pc' := 94) (l' := [some (zr 9 0 9), some (zr 5 0 a1), some (zi z1), some (zi z9), some (zi z17), some (zi z24)]) hM92 rfl rfl rfl rfl ?_
          refine z_iload (pc' := 96) hM92 rfl rfl rfl ?_
          refine z_iconst (pc' := 97) hM92 rfl rfl rfl ?_
          refine z_cmpne (pc' := 100) (t := 102) hM92 rfl rfl (fun h27 => ?_) (fun h27 => ?_)
          · replace hm := o_t hm h27
            refine z_iconst (pc' := 101) hM92 rfl rfl rfl ?_
            cases hm
            exact z_retZ hM92 rfl rfl (Or.inl rfl) ⟨rfl, rfl⟩
          · replace hm := o_f hm h27
            refine z_aload_n (pc' := 103) hM92 rfl rfl rfl ?_
            refine z_fldR (pc' := 106) hM92 rfl (zf_5_6 hG) rfl rfl ?_
            refine z_iload_n (pc' := 107) hM92 rfl rfl rfl ?_
            refine z_iload_n (pc' := 108) hM92 rfl rfl rfl ?_
            obtain ⟨h29, hm⟩ := o_x hm
            obtain ⟨s28, es28, hm⟩ := o_v hm
            refine z_iast (pc' := 109) hM92 rfl rfl h29 es28 ?_
            refine z_aload_n (pc' := 110) hM92 rfl rfl rfl ?_
            refine z_fldR (pc' := 113) hM92 rfl (zf_5_7 hG) rfl rfl ?_
            refine z_iload_n (pc' := 114) hM92 rfl rfl rfl ?_
            refine z_iload (pc' := 116) hM92 rfl rfl rfl ?_
            obtain ⟨h31, hm⟩ := o_x hm
            obtain ⟨s30, es30, hm⟩ := o_v hm
            refine z_iast (pc' := 117) hM92 rfl rfl h31 es30 ?_
            refine z_aload_n (pc' := 118) hM92 rfl rfl rfl ?_
            refine z_fldR (pc' := 121) hM92 rfl (zf_5_8 hG) rfl rfl ?_
            refine z_iload_n (pc' := 122) hM92 rfl rfl rfl ?_
            refine z_iload (pc' := 124) hM92 rfl rfl rfl ?_
            obtain ⟨h33, hm⟩ := o_x hm
            obtain ⟨s32, es32, hm⟩ := o_v hm
            refine z_iast (pc' := 125) hM92 rfl rfl h33 es32 ?_
            refine z_iconst (pc' := 126) hM92 rfl rfl rfl ?_
            cases hm
            exact z_retZ hM92 rfl rfl (Or.inr rfl) ⟨rfl, rfl⟩
def m93 (a1 : Nat) (s : zS) : Option (Int × zS) := oV (s.1 (a1 + 5) 0) fun z1 => oX z1 6 (oV (sI s (a1 + 16) z1 (-1 : Int)) fun s2 => oC (m76 s2) fun z4 s5 => oC (m96 a1 (a1 + 5) s5) fun z7 s8 => if z7 = (0 : Int) then some ((0 : Int), s8) else oC (m95 6 (1 : Int) (50 : Int) s8) fun z11 s12 => if z11 = (-1 : Int) then some ((0 : Int), s12) else oC (m95 10 (0 : Int) (99 : Int) s12) fun z15 s16 => if z15 = (-1 : Int) then some ((0 : Int), s16) else oC (m82 11 s16) fun z19 s20 => if z19 = (0 : Int) then some ((0 : Int), s20) else oC (m97 (a1 + 1) s20) fun z23 s24 => if z23 = (-1 : Int) then some ((0 : Int), s24) else oC (m76 s24) fun z27 s28 => oC (m82 12 s28) fun z30 s31 => if z30 = (0 : Int) then some ((0 : Int), s31) else oC (m97 (a1 + 3) s31) fun z34 s35 => if z34 = (-1 : Int) then some ((0 : Int), s35) else oC (m43 a1 z34 s35) fun z38 s39 => if z38 = (0 : Int) then oC (m76 s39) fun z42 s43 => oX z1 6 (oV (sI s43 (a1 + 13) z1 z11) fun s45 => oX z1 6 (oV (sI s45 (a1 + 14) z1 z15) fun s47 => oX z1 6 (oV (sI s47 (a1 + 15) z1 z23) fun s49 => oX z1 6 (oV (sI s49 (a1 + 16) z1 z34) fun s51 => some ((1 : Int), s51))))) else oV (s39.1 1 4) fun z53 => oC (m77 (3 : Int) z53 s39) fun z54 s55 => oD z54 (some (z54, s55)))
set_option maxRecDepth 20000 in
theorem c93 {G : aHp} {d : Nat} (hG : zG G) {a1 : Nat} {s : zS} {r_ : Int} {s_ : zS} (hm : m93 a1 s = some (r_, s_)) : Zp G (d + 8) 93 0 [some (zr 9 0 9), some (zr 5 0 a1), none, none, none, none, none] [] s (zRet (some (zi r_)) s_) := by
  replace hm : (oV (s.1 (a1 + 5) 0) fun z1 => oX z1 6 (oV (sI s (a1 + 16) z1 (-1 : Int)) fun s2 => oC (m76 s2) fun z4 s5 => oC (m96 a1 (a1 + 5) s5) fun z7 s8 => if z7 = (0 : Int) then some ((0 : Int), s8) else oC (m95 6 (1 : Int) (50 : Int) s8) fun z11 s12 => if z11 = (-1 : Int) then some ((0 : Int), s12) else oC (m95 10 (0 : Int) (99 : Int) s12) fun z15 s16 => if z15 = (-1 : Int) then some ((0 : Int), s16) else oC (m82 11 s16) fun z19 s20 => if z19 = (0 : Int) then some ((0 : Int), s20) else oC (m97 (a1 + 1) s20) fun z23 s24 => if z23 = (-1 : Int) then some ((0 : Int), s24) else oC (m76 s24) fun z27 s28 => oC (m82 12 s28) fun z30 s31 => if z30 = (0 : Int) then some ((0 : Int), s31) else oC (m97 (a1 + 3) s31) fun z34 s35 => if z34 = (-1 : Int) then some ((0 : Int), s35) else oC (m43 a1 z34 s35) fun z38 s39 => if z38 = (0 : Int) then oC (m76 s39) fun z42 s43 => oX z1 6 (oV (sI s43 (a1 + 13) z1 z11) fun s45 => oX z1 6 (oV (sI s45 (a1 + 14) z1 z15) fun s47 => oX z1 6 (oV (sI s47 (a1 + 15) z1 z23) fun s49 => oX z1 6 (oV (sI s49 (a1 + 16) z1 z34) fun s51 => some ((1 : Int), s51))))) else oV (s39.1 1 4) fun z53 => oC (m77 (3 : Int) z53 s39) fun z54 s55 => oD z54 (some (z54, s55)))) = some (r_, s_) := hm
  refine z_aload_n (pc' := 1) hM93 rfl rfl rfl ?_
  refine z_fldR (pc' := 4) hM93 rfl (zf_5_2 hG) rfl rfl ?_
  obtain ⟨z1, ez1, hm⟩ := o_v hm
  refine z_fldI (pc' := 7) hM93 rfl rfl rfl ez1 ?_
  refine z_istore_n (pc' := 8) (l' := [some (zr 9 0 9), some (zr 5 0 a1), some (zi z1), none, none, none, none]) hM93 rfl rfl rfl rfl ?_
  refine z_aload_n (pc' := 9) hM93 rfl rfl rfl ?_
  refine z_fldR (pc' := 12) hM93 rfl (zf_5_12 hG) rfl rfl ?_
  refine z_iload_n (pc' := 13) hM93 rfl rfl rfl ?_
  refine z_iconst (pc' := 14) hM93 rfl rfl rfl ?_
  obtain ⟨h3, hm⟩ := o_x hm
  obtain ⟨s2, es2, hm⟩ := o_v hm
  refine z_iast (pc' := 15) hM93 rfl rfl h3 es2 ?_
  refine z_aload_n (pc' := 16) hM93 rfl rfl rfl ?_
  refine z_fldR (pc' := 19) hM93 rfl (zf_9_0 hG) rfl rfl ?_
  obtain ⟨z4, s5, h6, hm⟩ := o_c hm
  refine z_cvV (d := d + 7) (pc' := 22) hM93 rfl hM76 rfl rfl rfl rfl rfl rfl (c76 (d := d + 6) hG h6) rfl ?_
  refine z_aload_n (pc' := 23) hM93 rfl rfl rfl ?_
  refine z_aload_n (pc' := 24) hM93 rfl rfl rfl ?_
  refine z_aload_n (pc' := 25) hM93 rfl rfl rfl ?_
  refine z_fldR (pc' := 28) hM93 rfl (zf_5_2 hG) rfl rfl ?_
  obtain ⟨z7, s8, h9, hm⟩ := o_c hm
  refine z_cv (d := d + 7) (pc' := 31) hM93 rfl hM96 rfl rfl rfl rfl rfl rfl (c96 (d := d) hG h9) rfl ?_
  refine z_ifne (pc' := 34) (t := 36) hM93 rfl rfl (fun h10 => ?_) (fun h10 => ?_)
  · replace hm := o_t hm h10
    refine z_iconst (pc' := 35) hM93 rfl rfl rfl ?_
    cases hm
    exact z_retZ hM93 rfl rfl (Or.inl rfl) ⟨rfl, rfl⟩
  · replace hm := o_f hm h10
    refine z_aload_n (pc' := 37) hM93 rfl rfl rfl ?_
    refine z_ldcT (pc' := 39) hM93 rfl rfl rfl ?_
    refine z_iconst (pc' := 40) hM93 rfl rfl rfl ?_
    refine z_bipush (pc' := 42) hM93 rfl rfl rfl ?_
    obtain ⟨z11, s12, h13, hm⟩ := o_c hm
    refine z_cv (d := d + 7) (pc' := 45) hM93 rfl hM95 rfl rfl rfl rfl rfl rfl (c95 (d := d) hG h13) rfl ?_
    refine z_istore_n (pc' := 46) (l' := [some (zr 9 0 9), some (zr 5 0 a1), some (zi z1), some (zi z11), none, none, none]) hM93 rfl rfl rfl rfl ?_
    refine z_iload_n (pc' := 47) hM93 rfl rfl rfl ?_
    refine z_iconst (pc' := 48) hM93 rfl rfl rfl ?_
    refine z_cmpne (pc' := 51) (t := 53) hM93 rfl rfl (fun h14 => ?_) (fun h14 => ?_)
    · replace hm := o_t hm h14
      refine z_iconst (pc' := 52) hM93 rfl rfl rfl ?_
      cases hm
      exact z_retZ hM93 rfl rfl (Or.inl rfl) ⟨rfl, rfl⟩
    · replace hm := o_f hm h14
      refine z_aload_n (pc' := 54) hM93 rfl rfl rfl ?_
      refine z_ldcT (pc' := 56) hM93 rfl rfl rfl ?_
      refine z_iconst (pc' := 57) hM93 rfl rfl rfl ?_
      refine z_bipush (pc' := 59) hM93 rfl rfl rfl ?_
      obtain ⟨z15, s16, h17, hm⟩ := o_c hm
      refine z_cv (d := d + 7) (pc' := 62) hM93 rfl hM95 rfl rfl rfl rfl rfl rfl (c95 (d := d) hG h17) rfl ?_
      refine z_istore (pc' := 64) (l' := [some (zr 9 0 9), some (zr 5 0 a1), some (zi z1), some (zi z11), some (zi z15), none, none]) hM93 rfl rfl rfl rfl ?_
      refine z_iload (pc' := 66) hM93 rfl rfl rfl ?_
      refine z_iconst (pc' := 67) hM93 rfl rfl rfl ?_
      refine z_cmpeq (pc' := 70) (t := 82) hM93 rfl rfl (fun h18 => ?_) (fun h18 => ?_)
      · replace hm := o_t hm h18
        refine z_iconst (pc' := 83) hM93 rfl rfl rfl ?_
        cases hm
        exact z_retZ hM93 rfl rfl (Or.inl rfl) ⟨rfl, rfl⟩
      · replace hm := o_f hm h18
        refine z_aload_n (pc' := 71) hM93 rfl rfl rfl ?_
        refine z_fldR (pc' := 74) hM93 rfl (zf_9_0 hG) rfl rfl ?_
        refine z_ldcT (pc' := 76) hM93 rfl rfl rfl ?_
        obtain ⟨z19, s20, h21, hm⟩ := o_c hm
        refine z_cv (d := d + 7) (pc' := 79) hM93 rfl hM82 rfl rfl rfl rfl rfl rfl (c82 (d := d + 1) hG h21) rfl ?_
        refine z_ifne (pc' := 82) (t := 84) hM93 rfl rfl (fun h22 => ?_) (fun h22 => ?_)
        · replace hm := o_t hm h22
          refine z_iconst (pc' := 83) hM93 rfl rfl rfl ?_
          cases hm
          exact z_retZ hM93 rfl rfl (Or.inl rfl) ⟨rfl, rfl⟩
        · replace hm := o_f hm h22
          refine z_aload_n (pc' := 85) hM93 rfl rfl rfl ?_
          refine z_aload_n (pc' := 86) hM93 rfl rfl rfl ?_
          refine z_fldR (pc' := 89) hM93 rfl (zf_5_0 hG) rfl rfl ?_
          obtain ⟨z23, s24, h25, hm⟩ := o_c hm
          refine z_cv (d := d + 7) (pc' := 92) hM93 rfl hM97 rfl rfl rfl rfl rfl rfl (c97 (d := d) hG h25) rfl ?_
          refine z_istore (pc' := 94) (l' := [some (zr 9 0 9), some (zr 5 0 a1), some (zi z1), some (zi z11), some (zi z15), some (zi z23), none]) hM93 rfl rfl rfl rfl ?_
          refine z_iload (pc' := 96) hM93 rfl rfl rfl ?_
          refine z_iconst (pc' := 97) hM93 rfl rfl rfl ?_
          refine z_cmpne (pc' := 100) (t := 102) hM93 rfl rfl (fun h26 => ?_) (fun h26 => ?_)
          · replace hm := o_t hm h26
            refine z_iconst (pc' := 101) hM93 rfl rfl rfl ?_
            cases hm
            exact z_retZ hM93 rfl rfl (Or.inl rfl) ⟨rfl, rfl⟩
          · replace hm := o_f hm h26
            refine z_aload_n (pc' := 103) hM93 rfl rfl rfl ?_
            refine z_fldR (pc' := 106) hM93 rfl (zf_9_0 hG) rfl rfl ?_
            obtain ⟨z27, s28, h29, hm⟩ := o_c hm
            refine z_cvV (d := d + 7) (pc' := 109) hM93 rfl hM76 rfl rfl rfl rfl rfl rfl (c76 (d := d + 6) hG h29) rfl ?_
            refine z_aload_n (pc' := 110) hM93 rfl rfl rfl ?_
            refine z_fldR (pc' := 113) hM93 rfl (zf_9_0 hG) rfl rfl ?_
            refine z_ldcT (pc' := 115) hM93 rfl rfl rfl ?_
            obtain ⟨z30, s31, h32, hm⟩ := o_c hm
            refine z_cv (d := d + 7) (pc' := 118) hM93 rfl hM82 rfl rfl rfl rfl rfl rfl (c82 (d := d + 1) hG h32) rfl ?_
            refine z_ifne (pc' := 121) (t := 123) hM93 rfl rfl (fun h33 => ?_) (fun h33 => ?_)
            · replace hm := o_t hm h33
              refine z_iconst (pc' := 122) hM93 rfl rfl rfl ?_
              cases hm
              exact z_retZ hM93 rfl rfl (Or.inl rfl) ⟨rfl, rfl⟩
            · replace hm := o_f hm h33
              refine z_aload_n (pc' := 124) hM93 rfl rfl rfl ?_
              refine z_aload_n (pc' := 125) hM93 rfl rfl rfl ?_
              refine z_fldR (pc' := 128) hM93 rfl (zf_5_1 hG) rfl rfl ?_
              obtain ⟨z34, s35, h36, hm⟩ := o_c hm
              refine z_cv (d := d + 7) (pc' := 131) hM93 rfl hM97 rfl rfl rfl rfl rfl rfl (c97 (d := d) hG h36) rfl ?_
              refine z_istore (pc' := 133) (l' := [some (zr 9 0 9), some (zr 5 0 a1), some (zi z1), some (zi z11), some (zi z15), some (zi z23), some (zi z34)]) hM93 rfl rfl rfl rfl ?_
              refine z_iload (pc' := 135) hM93 rfl rfl rfl ?_
              refine z_iconst (pc' := 136) hM93 rfl rfl rfl ?_
              refine z_cmpne (pc' := 139) (t := 141) hM93 rfl rfl (fun h37 => ?_) (fun h37 => ?_)
              · replace hm := o_t hm h37
                refine z_iconst (pc' := 140) hM93 rfl rfl rfl ?_
                cases hm
                exact z_retZ hM93 rfl rfl (Or.inl rfl) ⟨rfl, rfl⟩
              · replace hm := o_f hm h37
                refine z_aload_n (pc' := 142) hM93 rfl rfl rfl ?_
                refine z_iload (pc' := 144) hM93 rfl rfl rfl ?_
                obtain ⟨z38, s39, h40, hm⟩ := o_c hm
                refine z_cv (d := d + 7) (pc' := 147) hM93 rfl hM43 rfl rfl rfl rfl rfl rfl (c43 (d := d + 6) hG h40) rfl ?_
                refine z_ifeq (pc' := 150) (t := 166) hM93 rfl rfl (fun h41 => ?_) (fun h41 => ?_)
                · replace hm := o_t hm h41
                  refine z_aload_n (pc' := 167) hM93 rfl rfl rfl ?_
                  refine z_fldR (pc' := 170) hM93 rfl (zf_9_0 hG) rfl rfl ?_
                  obtain ⟨z42, s43, h44, hm⟩ := o_c hm
                  refine z_cvV (d := d + 7) (pc' := 173) hM93 rfl hM76 rfl rfl rfl rfl rfl rfl (c76 (d := d + 6) hG h44) rfl ?_
                  refine z_aload_n (pc' := 174) hM93 rfl rfl rfl ?_
                  refine z_fldR (pc' := 177) hM93 rfl (zf_5_9 hG) rfl rfl ?_
                  refine z_iload_n (pc' := 178) hM93 rfl rfl rfl ?_
                  refine z_iload_n (pc' := 179) hM93 rfl rfl rfl ?_
                  obtain ⟨h46, hm⟩ := o_x hm
                  obtain ⟨s45, es45, hm⟩ := o_v hm
                  refine z_iast (pc' := 180) hM93 rfl rfl h46 es45 ?_
                  refine z_aload_n (pc' := 181) hM93 rfl rfl rfl ?_
                  refine z_fldR (pc' := 184) hM93 rfl (zf_5_10 hG) rfl rfl ?_
                  refine z_iload_n (pc' := 185) hM93 rfl rfl rfl ?_
                  refine z_iload (pc' := 187) hM93 rfl rfl rfl ?_
                  obtain ⟨h48, hm⟩ := o_x hm
                  obtain ⟨s47, es47, hm⟩ := o_v hm
                  refine z_iast (pc' := 188) hM93 rfl rfl h48 es47 ?_
                  refine z_aload_n (pc' := 189) hM93 rfl rfl rfl ?_
                  refine z_fldR (pc' := 192) hM93 rfl (zf_5_11 hG) rfl rfl ?_
                  refine z_iload_n (pc' := 193) hM93 rfl rfl rfl ?_
                  refine z_iload (pc' := 195) hM93 rfl rfl rfl ?_
                  obtain ⟨h50, hm⟩ := o_x hm
                  obtain ⟨s49, es49, hm⟩ := o_v hm
                  refine z_iast (pc' := 196) hM93 rfl rfl h50 es49 ?_
                  refine z_aload_n (pc' := 197) hM93 rfl rfl rfl ?_
                  refine z_fldR (pc' := 200) hM93 rfl (zf_5_12 hG) rfl rfl ?_
                  refine z_iload_n (pc' := 201) hM93 rfl rfl rfl ?_
                  refine z_iload (pc' := 203) hM93 rfl rfl rfl ?_
                  obtain ⟨h52, hm⟩ := o_x hm
                  obtain ⟨s51, es51, hm⟩ := o_v hm
                  refine z_iast (pc' := 204) hM93 rfl rfl h52 es51 ?_
                  refine z_iconst (pc' := 205) hM93 rfl rfl rfl ?_
                  cases hm
                  exact z_retZ hM93 rfl rfl (Or.inr rfl) ⟨rfl, rfl⟩
                · replace hm := o_f hm h41
                  refine z_aload_n (pc' := 151) hM93 rfl rfl rfl ?_
                  refine z_fldR (pc' := 154) hM93 rfl (zf_9_0 hG) rfl rfl ?_
                  refine z_iconst (pc' := 155) hM93 rfl rfl rfl ?_
                  refine z_aload_n (pc' := 156) hM93 rfl rfl rfl ?_
                  refine z_fldR (pc' := 159) hM93 rfl (zf_9_0 hG) rfl rfl ?_
                  obtain ⟨z53, ez53, hm⟩ := o_v hm
                  refine z_fldI (pc' := 162) hM93 rfl rfl rfl ez53 ?_
                  obtain ⟨z54, s55, h56, hm⟩ := o_c hm
                  refine z_cv (d := d + 7) (pc' := 165) hM93 rfl hM77 rfl rfl rfl rfl rfl rfl (c77 (d := d + 6) hG h56) rfl ?_
                  obtain ⟨h57, hm⟩ := o_d hm
                  cases hm
                  exact z_retZ hM93 rfl rfl h57 ⟨rfl, rfl⟩
def m94 (a1 : Nat) (s : zS) : Option (Int × zS) := oC (m80 31 s) fun z1 s2 => if z1 = (0 : Int) then oC (m80 32 s2) fun z5 s6 => if z5 = (0 : Int) then oC (m80 33 s6) fun z9 s10 => if z9 = (0 : Int) then oC (m78 s10) fun z13 s14 => oD z13 (some (z13, s14)) else oC (m95 33 (0 : Int) (100 : Int) s10) fun z17 s18 => oV (sI s18 a1 19 z17) fun s20 => oV (s20.1 a1 19) fun z21 => if z21 = (-1 : Int) then some ((0 : Int), s20) else some ((1 : Int), s20) else oC (m95 32 (1 : Int) (9 : Int) s6) fun z23 s24 => oV (sI s24 a1 18 z23) fun s26 => oV (s26.1 a1 18) fun z27 => if z27 = (-1 : Int) then some ((0 : Int), s26) else some ((1 : Int), s26) else oC (m95 31 (0 : Int) (2 : Int) s2) fun z29 s30 => oV (sI s30 a1 17 z29) fun s32 => oV (s32.1 a1 17) fun z33 => if z33 = (-1 : Int) then some ((0 : Int), s32) else some ((1 : Int), s32)
theorem c94 {G : aHp} {d : Nat} (hG : zG G) {a1 : Nat} {s : zS} {r_ : Int} {s_ : zS} (hm : m94 a1 s = some (r_, s_)) : Zp G (d + 8) 94 0 [some (zr 9 0 9), some (zr 5 0 a1)] [] s (zRet (some (zi r_)) s_) := by
  replace hm : (oC (m80 31 s) fun z1 s2 => if z1 = (0 : Int) then oC (m80 32 s2) fun z5 s6 => if z5 = (0 : Int) then oC (m80 33 s6) fun z9 s10 => if z9 = (0 : Int) then oC (m78 s10) fun z13 s14 => oD z13 (some (z13, s14)) else oC (m95 33 (0 : Int) (100 : Int) s10) fun z17 s18 => oV (sI s18 a1 19 z17) fun s20 => oV (s20.1 a1 19) fun z21 => if z21 = (-1 : Int) then some ((0 : Int), s20) else some ((1 : Int), s20) else oC (m95 32 (1 : Int) (9 : Int) s6) fun z23 s24 => oV (sI s24 a1 18 z23) fun s26 => oV (s26.1 a1 18) fun z27 => if z27 = (-1 : Int) then some ((0 : Int), s26) else some ((1 : Int), s26) else oC (m95 31 (0 : Int) (2 : Int) s2) fun z29 s30 => oV (sI s30 a1 17 z29) fun s32 => oV (s32.1 a1 17) fun z33 => if z33 = (-1 : Int) then some ((0 : Int), s32) else some ((1 : Int), s32)) = some (r_, s_) := hm
  refine z_aload_n (pc' := 1) hM94 rfl rfl rfl ?_
  refine z_fldR (pc' := 4) hM94 rfl (zf_9_0 hG) rfl rfl ?_
  refine z_ldcT (pc' := 6) hM94 rfl rfl rfl ?_
  obtain ⟨z1, s2, h3, hm⟩ := o_c hm
  refine z_cv (d := d + 7) (pc' := 9) hM94 rfl hM80 rfl rfl rfl rfl rfl rfl (c80 (d := d + 2) hG h3) rfl ?_
  refine z_ifeq (pc' := 12) (t := 38) hM94 rfl rfl (fun h4 => ?_) (fun h4 => ?_)
  · replace hm := o_t hm h4
    refine z_aload_n (pc' := 39) hM94 rfl rfl rfl ?_
    refine z_fldR (pc' := 42) hM94 rfl (zf_9_0 hG) rfl rfl ?_
    refine z_ldcT (pc' := 44) hM94 rfl rfl rfl ?_
    obtain ⟨z5, s6, h7, hm⟩ := o_c hm
    refine z_cv (d := d + 7) (pc' := 47) hM94 rfl hM80 rfl rfl rfl rfl rfl rfl (c80 (d := d + 2) hG h7) rfl ?_
    refine z_ifeq (pc' := 50) (t := 77) hM94 rfl rfl (fun h8 => ?_) (fun h8 => ?_)
    · replace hm := o_t hm h8
      refine z_aload_n (pc' := 78) hM94 rfl rfl rfl ?_
      refine z_fldR (pc' := 81) hM94 rfl (zf_9_0 hG) rfl rfl ?_
      refine z_ldcT (pc' := 83) hM94 rfl rfl rfl ?_
      obtain ⟨z9, s10, h11, hm⟩ := o_c hm
      refine z_cv (d := d + 7) (pc' := 86) hM94 rfl hM80 rfl rfl rfl rfl rfl rfl (c80 (d := d + 2) hG h11) rfl ?_
      refine z_ifeq (pc' := 89) (t := 116) hM94 rfl rfl (fun h12 => ?_) (fun h12 => ?_)
      · replace hm := o_t hm h12
        refine z_aload_n (pc' := 117) hM94 rfl rfl rfl ?_
        refine z_fldR (pc' := 120) hM94 rfl (zf_9_0 hG) rfl rfl ?_
        obtain ⟨z13, s14, h15, hm⟩ := o_c hm
        refine z_cv (d := d + 7) (pc' := 123) hM94 rfl hM78 rfl rfl rfl rfl rfl rfl (c78 (d := d + 6) hG h15) rfl ?_
        obtain ⟨h16, hm⟩ := o_d hm
        cases hm
        exact z_retZ hM94 rfl rfl h16 ⟨rfl, rfl⟩
      · replace hm := o_f hm h12
        refine z_aload_n (pc' := 90) hM94 rfl rfl rfl ?_
        refine z_aload_n (pc' := 91) hM94 rfl rfl rfl ?_
        refine z_ldcT (pc' := 93) hM94 rfl rfl rfl ?_
        refine z_iconst (pc' := 94) hM94 rfl rfl rfl ?_
        refine z_bipush (pc' := 96) hM94 rfl rfl rfl ?_
        obtain ⟨z17, s18, h19, hm⟩ := o_c hm
        refine z_cv (d := d + 7) (pc' := 99) hM94 rfl hM95 rfl rfl rfl rfl rfl rfl (c95 (d := d) hG h19) rfl ?_
        obtain ⟨s20, es20, hm⟩ := o_v hm
        refine z_putI (pc' := 102) hM94 rfl rfl rfl es20 ?_
        refine z_aload_n (pc' := 103) hM94 rfl rfl rfl ?_
        obtain ⟨z21, ez21, hm⟩ := o_v hm
        refine z_fldI (pc' := 106) hM94 rfl rfl rfl ez21 ?_
        refine z_iconst (pc' := 107) hM94 rfl rfl rfl ?_
        refine z_cmpeq (pc' := 110) (t := 114) hM94 rfl rfl (fun h22 => ?_) (fun h22 => ?_)
        · replace hm := o_t hm h22
          refine z_iconst (pc' := 115) hM94 rfl rfl rfl ?_
          cases hm
          exact z_retZ hM94 rfl rfl (Or.inl rfl) ⟨rfl, rfl⟩
        · replace hm := o_f hm h22
          refine z_iconst (pc' := 111) hM94 rfl rfl rfl ?_
          refine z_goto (t := 115) hM94 rfl ?_
          cases hm
          exact z_retZ hM94 rfl rfl (Or.inr rfl) ⟨rfl, rfl⟩
    · replace hm := o_f hm h8
      refine z_aload_n (pc' := 51) hM94 rfl rfl rfl ?_
      refine z_aload_n (pc' := 52) hM94 rfl rfl rfl ?_
      refine z_ldcT (pc' := 54) hM94 rfl rfl rfl ?_
      refine z_iconst (pc' := 55) hM94 rfl rfl rfl ?_
      refine z_bipush (pc' := 57) hM94 rfl rfl rfl ?_
      obtain ⟨z23, s24, h25, hm⟩ := o_c hm
      refine z_cv (d := d + 7) (pc' := 60) hM94 rfl hM95 rfl rfl rfl rfl rfl rfl (c95 (d := d) hG h25) rfl ?_
      obtain ⟨s26, es26, hm⟩ := o_v hm
      refine z_putI (pc' := 63) hM94 rfl rfl rfl es26 ?_
      refine z_aload_n (pc' := 64) hM94 rfl rfl rfl ?_
      obtain ⟨z27, ez27, hm⟩ := o_v hm
      refine z_fldI (pc' := 67) hM94 rfl rfl rfl ez27 ?_
      refine z_iconst (pc' := 68) hM94 rfl rfl rfl ?_
      refine z_cmpeq (pc' := 71) (t := 75) hM94 rfl rfl (fun h28 => ?_) (fun h28 => ?_)
      · replace hm := o_t hm h28
        refine z_iconst (pc' := 76) hM94 rfl rfl rfl ?_
        cases hm
        exact z_retZ hM94 rfl rfl (Or.inl rfl) ⟨rfl, rfl⟩
      · replace hm := o_f hm h28
        refine z_iconst (pc' := 72) hM94 rfl rfl rfl ?_
        refine z_goto (t := 76) hM94 rfl ?_
        cases hm
        exact z_retZ hM94 rfl rfl (Or.inr rfl) ⟨rfl, rfl⟩
  · replace hm := o_f hm h4
    refine z_aload_n (pc' := 13) hM94 rfl rfl rfl ?_
    refine z_aload_n (pc' := 14) hM94 rfl rfl rfl ?_
    refine z_ldcT (pc' := 16) hM94 rfl rfl rfl ?_
    refine z_iconst (pc' := 17) hM94 rfl rfl rfl ?_
    refine z_iconst (pc' := 18) hM94 rfl rfl rfl ?_
    obtain ⟨z29, s30, h31, hm⟩ := o_c hm
    refine z_cv (d := d + 7) (pc' := 21) hM94 rfl hM95 rfl rfl rfl rfl rfl rfl (c95 (d := d) hG h31) rfl ?_
    obtain ⟨s32, es32, hm⟩ := o_v hm
    refine z_putI (pc' := 24) hM94 rfl rfl rfl es32 ?_
    refine z_aload_n (pc' := 25) hM94 rfl rfl rfl ?_
    obtain ⟨z33, ez33, hm⟩ := o_v hm
    refine z_fldI (pc' := 28) hM94 rfl rfl rfl ez33 ?_
    refine z_iconst (pc' := 29) hM94 rfl rfl rfl ?_
    refine z_cmpeq (pc' := 32) (t := 36) hM94 rfl rfl (fun h34 => ?_) (fun h34 => ?_)
    · replace hm := o_t hm h34
      refine z_iconst (pc' := 37) hM94 rfl rfl rfl ?_
      cases hm
      exact z_retZ hM94 rfl rfl (Or.inl rfl) ⟨rfl, rfl⟩
    · replace hm := o_f hm h34
      refine z_iconst (pc' := 33) hM94 rfl rfl rfl ?_
      refine z_goto (t := 37) hM94 rfl ?_
      cases hm
      exact z_retZ hM94 rfl rfl (Or.inr rfl) ⟨rfl, rfl⟩
def m88 (a1 : Nat) (s : zS) : Option (Int × zS) := oC (m80 0 s) fun z1 s2 => if z1 = (0 : Int) then oC (m80 3 s2) fun z5 s6 => if z5 = (0 : Int) then oC (m80 5 s6) fun z9 s10 => if z9 = (0 : Int) then oC (m80 9 s10) fun z13 s14 => if z13 = (0 : Int) then oC (m80 13 s14) fun z17 s18 => if z17 = (0 : Int) then oC (m80 30 s18) fun z21 s22 => if z21 = (0 : Int) then oC (m94 a1 s22) fun z25 s26 => oD z25 (some (z25, s26)) else oV (s22.1 (a1 + 20) 2) fun z29 => if (0 : Int) < z29 then oC (m89 s22) fun z31 s32 => oD z31 (some (z31, s32)) else oC (m24 (a1 + 20) s22) fun z35 s36 => oD z35 (some (z35, s36)) else oV (s18.1 (a1 + 17) 2) fun z39 => if (0 : Int) < z39 then oC (m89 s18) fun z41 s42 => oD z41 (some (z41, s42)) else oC (m24 (a1 + 17) s18) fun z45 s46 => oD z45 (some (z45, s46)) else oC (m51 (a1 + 5) s14) fun z49 s50 => if z49 = (0 : Int) then oC (m93 a1 s50) fun z53 s54 => oD z53 (some (z53, s54)) else oC (m89 s50) fun z57 s58 => oD z57 (some (z57, s58)) else oC (m51 (a1 + 3) s10) fun z61 s62 => if z61 = (0 : Int) then oC (m92 a1 s62) fun z65 s66 => oD z65 (some (z65, s66)) else oC (m89 s62) fun z69 s70 => oD z69 (some (z69, s70)) else oV (s6.1 a1 16) fun z73 => if z73 < (12 : Int) then oC (m91 a1 s6) fun z75 s76 => oD z75 (some (z75, s76)) else oC (m89 s6) fun z79 s80 => oD z79 (some (z79, s80)) else oC (m51 (a1 + 1) s2) fun z83 s84 => if z83 = (0 : Int) then oC (m90 a1 s84) fun z87 s88 => oD z87 (some (z87, s88)) else oC (m89 s84) fun z91 s92 => oD z91 (some (z91, s92))
set_option maxRecDepth 20000 in
theorem c88 {G : aHp} {d : Nat} (hG : zG G) {a1 : Nat} {s : zS} {r_ : Int} {s_ : zS} (hm : m88 a1 s = some (r_, s_)) : Zp G (d + 330) 88 0 [some (zr 9 0 9), some (zr 5 0 a1)] [] s (zRet (some (zi r_)) s_) := by
  replace hm : (oC (m80 0 s) fun z1 s2 => if z1 = (0 : Int) then oC (m80 3 s2) fun z5 s6 => if z5 = (0 : Int) then oC (m80 5 s6) fun z9 s10 => if z9 = (0 : Int) then oC (m80 9 s10) fun z13 s14 => if z13 = (0 : Int) then oC (m80 13 s14) fun z17 s18 => if z17 = (0 : Int) then oC (m80 30 s18) fun z21 s22 => if z21 = (0 : Int) then oC (m94 a1 s22) fun z25 s26 => oD z25 (some (z25, s26)) else oV (s22.1 (a1 + 20) 2) fun z29 => if (0 : Int) < z29 then oC (m89 s22) fun z31 s32 => oD z31 (some (z31, s32)) else oC (m24 (a1 + 20) s22) fun z35 s36 => oD z35 (some (z35, s36)) else oV (s18.1 (a1 + 17) 2) fun z39 => if (0 : Int) < z39 then oC (m89 s18) fun z41 s42 => oD z41 (some (z41, s42)) else oC (m24 (a1 + 17) s18) fun z45 s46 => oD z45 (some (z45, s46)) else oC (m51 (a1 + 5) s14) fun z49 s50 => if z49 = (0 : Int) then oC (m93 a1 s50) fun z53 s54 => oD z53 (some (z53, s54)) else oC (m89 s50) fun z57 s58 => oD z57 (some (z57, s58)) else oC (m51 (a1 + 3) s10) fun z61 s62 => if z61 = (0 : Int) then oC (m92 a1 s62) fun z65 s66 => oD z65 (some (z65, s66)) else oC (m89 s62) fun z69 s70 => oD z69 (some (z69, s70)) else oV (s6.1 a1 16) fun z73 => if z73 < (12 : Int) then oC (m91 a1 s6) fun z75 s76 => oD z75 (some (z75, s76)) else oC (m89 s6) fun z79 s80 => oD z79 (some (z79, s80)) else oC (m51 (a1 + 1) s2) fun z83 s84 => if z83 = (0 : Int) then oC (m90 a1 s84) fun z87 s88 => oD z87 (some (z87, s88)) else oC (m89 s84) fun z91 s92 => oD z91 (some (z91, s92))) = some (r_, s_) := hm
  refine z_aload_n (pc' := 1) hM88 rfl rfl rfl ?_
  refine z_fldR (pc' := 4) hM88 rfl (zf_9_0 hG) rfl rfl ?_
  refine z_ldcT (pc' := 6) hM88 rfl rfl rfl ?_
  obtain ⟨z1, s2, h3, hm⟩ := o_c hm
  refine z_cv (d := d + 329) (pc' := 9) hM88 rfl hM80 rfl rfl rfl rfl rfl rfl (c80 (d := d + 324) hG h3) rfl ?_
  refine z_ifeq (pc' := 12) (t := 35) hM88 rfl rfl (fun h4 => ?_) (fun h4 => ?_)
  · replace hm := o_t hm h4
    refine z_aload_n (pc' := 36) hM88 rfl rfl rfl ?_
    refine z_fldR (pc' := 39) hM88 rfl (zf_9_0 hG) rfl rfl ?_
    refine z_ldcT (pc' := 41) hM88 rfl rfl rfl ?_
    obtain ⟨z5, s6, h7, hm⟩ := o_c hm
    refine z_cv (d := d + 329) (pc' := 44) hM88 rfl hM80 rfl rfl rfl rfl rfl rfl (c80 (d := d + 324) hG h7) rfl ?_
    refine z_ifeq (pc' := 47) (t := 69) hM88 rfl rfl (fun h8 => ?_) (fun h8 => ?_)
    · replace hm := o_t hm h8
      refine z_aload_n (pc' := 70) hM88 rfl rfl rfl ?_
      refine z_fldR (pc' := 73) hM88 rfl (zf_9_0 hG) rfl rfl ?_
      refine z_ldcT (pc' := 75) hM88 rfl rfl rfl ?_
      obtain ⟨z9, s10, h11, hm⟩ := o_c hm
      refine z_cv (d := d + 329) (pc' := 78) hM88 rfl hM80 rfl rfl rfl rfl rfl rfl (c80 (d := d + 324) hG h11) rfl ?_
      refine z_ifeq (pc' := 81) (t := 104) hM88 rfl rfl (fun h12 => ?_) (fun h12 => ?_)
      · replace hm := o_t hm h12
        refine z_aload_n (pc' := 105) hM88 rfl rfl rfl ?_
        refine z_fldR (pc' := 108) hM88 rfl (zf_9_0 hG) rfl rfl ?_
        refine z_ldcT (pc' := 110) hM88 rfl rfl rfl ?_
        obtain ⟨z13, s14, h15, hm⟩ := o_c hm
        refine z_cv (d := d + 329) (pc' := 113) hM88 rfl hM80 rfl rfl rfl rfl rfl rfl (c80 (d := d + 324) hG h15) rfl ?_
        refine z_ifeq (pc' := 116) (t := 139) hM88 rfl rfl (fun h16 => ?_) (fun h16 => ?_)
        · replace hm := o_t hm h16
          refine z_aload_n (pc' := 140) hM88 rfl rfl rfl ?_
          refine z_fldR (pc' := 143) hM88 rfl (zf_9_0 hG) rfl rfl ?_
          refine z_ldcT (pc' := 145) hM88 rfl rfl rfl ?_
          obtain ⟨z17, s18, h19, hm⟩ := o_c hm
          refine z_cv (d := d + 329) (pc' := 148) hM88 rfl hM80 rfl rfl rfl rfl rfl rfl (c80 (d := d + 324) hG h19) rfl ?_
          refine z_ifeq (pc' := 151) (t := 180) hM88 rfl rfl (fun h20 => ?_) (fun h20 => ?_)
          · replace hm := o_t hm h20
            refine z_aload_n (pc' := 181) hM88 rfl rfl rfl ?_
            refine z_fldR (pc' := 184) hM88 rfl (zf_9_0 hG) rfl rfl ?_
            refine z_ldcT (pc' := 186) hM88 rfl rfl rfl ?_
            obtain ⟨z21, s22, h23, hm⟩ := o_c hm
            refine z_cv (d := d + 329) (pc' := 189) hM88 rfl hM80 rfl rfl rfl rfl rfl rfl (c80 (d := d + 324) hG h23) rfl ?_
            refine z_ifeq (pc' := 192) (t := 221) hM88 rfl rfl (fun h24 => ?_) (fun h24 => ?_)
            · replace hm := o_t hm h24
              refine z_aload_n (pc' := 222) hM88 rfl rfl rfl ?_
              refine z_aload_n (pc' := 223) hM88 rfl rfl rfl ?_
              obtain ⟨z25, s26, h27, hm⟩ := o_c hm
              refine z_cv (d := d + 329) (pc' := 226) hM88 rfl hM94 rfl rfl rfl rfl rfl rfl (c94 (d := d + 321) hG h27) rfl ?_
              obtain ⟨h28, hm⟩ := o_d hm
              cases hm
              exact z_retZ hM88 rfl rfl h28 ⟨rfl, rfl⟩
            · replace hm := o_f hm h24
              refine z_aload_n (pc' := 193) hM88 rfl rfl rfl ?_
              refine z_fldR (pc' := 196) hM88 rfl (zf_5_14 hG) rfl rfl ?_
              obtain ⟨z29, ez29, hm⟩ := o_v hm
              refine z_fldI (pc' := 199) hM88 rfl rfl rfl ez29 ?_
              refine z_ifle (pc' := 202) (t := 209) hM88 rfl rfl (fun h30 => ?_) (fun h30 => ?_)
              · replace hm := o_t hm h30
                refine z_aload_n (pc' := 203) hM88 rfl rfl rfl ?_
                obtain ⟨z31, s32, h33, hm⟩ := o_c hm
                refine z_cv (d := d + 329) (pc' := 206) hM88 rfl hM89 rfl rfl rfl rfl rfl rfl (c89 (d := d + 327) hG h33) rfl ?_
                refine z_goto (t := 220) hM88 rfl ?_
                obtain ⟨h34, hm⟩ := o_d hm
                cases hm
                exact z_retZ hM88 rfl rfl h34 ⟨rfl, rfl⟩
              · replace hm := o_f hm h30
                refine z_aload_n (pc' := 210) hM88 rfl rfl rfl ?_
                refine z_fldR (pc' := 213) hM88 rfl (zf_9_1 hG) rfl rfl ?_
                refine z_aload_n (pc' := 214) hM88 rfl rfl rfl ?_
                refine z_fldR (pc' := 217) hM88 rfl (zf_5_14 hG) rfl rfl ?_
                obtain ⟨z35, s36, h37, hm⟩ := o_c hm
                refine z_cv (d := d + 329) (pc' := 220) hM88 rfl hM24 rfl rfl rfl rfl rfl rfl (c24 (d := d) hG h37) rfl ?_
                obtain ⟨h38, hm⟩ := o_d hm
                cases hm
                exact z_retZ hM88 rfl rfl h38 ⟨rfl, rfl⟩
          · replace hm := o_f hm h20
            refine z_aload_n (pc' := 152) hM88 rfl rfl rfl ?_
            refine z_fldR (pc' := 155) hM88 rfl (zf_5_13 hG) rfl rfl ?_
            obtain ⟨z39, ez39, hm⟩ := o_v hm
            refine z_fldI (pc' := 158) hM88 rfl rfl rfl ez39 ?_
            refine z_ifle (pc' := 161) (t := 168) hM88 rfl rfl (fun h40 => ?_) (fun h40 => ?_)
            · replace hm := o_t hm h40
              refine z_aload_n (pc' := 162) hM88 rfl rfl rfl ?_
              obtain ⟨z41, s42, h43, hm⟩ := o_c hm
              refine z_cv (d := d + 329) (pc' := 165) hM88 rfl hM89 rfl rfl rfl rfl rfl rfl (c89 (d := d + 327) hG h43) rfl ?_
              refine z_goto (t := 179) hM88 rfl ?_
              obtain ⟨h44, hm⟩ := o_d hm
              cases hm
              exact z_retZ hM88 rfl rfl h44 ⟨rfl, rfl⟩
            · replace hm := o_f hm h40
              refine z_aload_n (pc' := 169) hM88 rfl rfl rfl ?_
              refine z_fldR (pc' := 172) hM88 rfl (zf_9_1 hG) rfl rfl ?_
              refine z_aload_n (pc' := 173) hM88 rfl rfl rfl ?_
              refine z_fldR (pc' := 176) hM88 rfl (zf_5_13 hG) rfl rfl ?_
              obtain ⟨z45, s46, h47, hm⟩ := o_c hm
              refine z_cv (d := d + 329) (pc' := 179) hM88 rfl hM24 rfl rfl rfl rfl rfl rfl (c24 (d := d) hG h47) rfl ?_
              obtain ⟨h48, hm⟩ := o_d hm
              cases hm
              exact z_retZ hM88 rfl rfl h48 ⟨rfl, rfl⟩
        · replace hm := o_f hm h16
          refine z_aload_n (pc' := 117) hM88 rfl rfl rfl ?_
          refine z_fldR (pc' := 120) hM88 rfl (zf_5_2 hG) rfl rfl ?_
          obtain ⟨z49, s50, h51, hm⟩ := o_c hm
          refine z_cv (d := d + 329) (pc' := 123) hM88 rfl hM51 rfl rfl rfl rfl rfl rfl (c51 (d := d + 328) hG h51) rfl ?_
          refine z_ifeq (pc' := 126) (t := 133) hM88 rfl rfl (fun h52 => ?_) (fun h52 => ?_)
          · replace hm := o_t hm h52
            refine z_aload_n (pc' := 134) hM88 rfl rfl rfl ?_
            refine z_aload_n (pc' := 135) hM88 rfl rfl rfl ?_
            obtain ⟨z53, s54, h55, hm⟩ := o_c hm
            refine z_cv (d := d + 329) (pc' := 138) hM88 rfl hM93 rfl rfl rfl rfl rfl rfl (c93 (d := d + 321) hG h55) rfl ?_
            obtain ⟨h56, hm⟩ := o_d hm
            cases hm
            exact z_retZ hM88 rfl rfl h56 ⟨rfl, rfl⟩
          · replace hm := o_f hm h52
            refine z_aload_n (pc' := 127) hM88 rfl rfl rfl ?_
            obtain ⟨z57, s58, h59, hm⟩ := o_c hm
            refine z_cv (d := d + 329) (pc' := 130) hM88 rfl hM89 rfl rfl rfl rfl rfl rfl (c89 (d := d + 327) hG h59) rfl ?_
            refine z_goto (t := 138) hM88 rfl ?_
            obtain ⟨h60, hm⟩ := o_d hm
            cases hm
            exact z_retZ hM88 rfl rfl h60 ⟨rfl, rfl⟩
      · replace hm := o_f hm h12
        refine z_aload_n (pc' := 82) hM88 rfl rfl rfl ?_
        refine z_fldR (pc' := 85) hM88 rfl (zf_5_1 hG) rfl rfl ?_
        obtain ⟨z61, s62, h63, hm⟩ := o_c hm
        refine z_cv (d := d + 329) (pc' := 88) hM88 rfl hM51 rfl rfl rfl rfl rfl rfl (c51 (d := d + 328) hG h63) rfl ?_
        refine z_ifeq (pc' := 91) (t := 98) hM88 rfl rfl (fun h64 => ?_) (fun h64 => ?_)
        · replace hm := o_t hm h64
          refine z_aload_n (pc' := 99) hM88 rfl rfl rfl ?_
          refine z_aload_n (pc' := 100) hM88 rfl rfl rfl ?_
          obtain ⟨z65, s66, h67, hm⟩ := o_c hm
          refine z_cv (d := d + 329) (pc' := 103) hM88 rfl hM92 rfl rfl rfl rfl rfl rfl (c92 (d := d + 321) hG h67) rfl ?_
          obtain ⟨h68, hm⟩ := o_d hm
          cases hm
          exact z_retZ hM88 rfl rfl h68 ⟨rfl, rfl⟩
        · replace hm := o_f hm h64
          refine z_aload_n (pc' := 92) hM88 rfl rfl rfl ?_
          obtain ⟨z69, s70, h71, hm⟩ := o_c hm
          refine z_cv (d := d + 329) (pc' := 95) hM88 rfl hM89 rfl rfl rfl rfl rfl rfl (c89 (d := d + 327) hG h71) rfl ?_
          refine z_goto (t := 103) hM88 rfl ?_
          obtain ⟨h72, hm⟩ := o_d hm
          cases hm
          exact z_retZ hM88 rfl rfl h72 ⟨rfl, rfl⟩
    · replace hm := o_f hm h8
      refine z_aload_n (pc' := 48) hM88 rfl rfl rfl ?_
      obtain ⟨z73, ez73, hm⟩ := o_v hm
      refine z_fldI (pc' := 51) hM88 rfl rfl rfl ez73 ?_
      refine z_bipush (pc' := 53) hM88 rfl rfl rfl ?_
      refine z_cmplt (pc' := 56) (t := 63) hM88 rfl rfl (fun h74 => ?_) (fun h74 => ?_)
      · replace hm := o_t hm h74
        refine z_aload_n (pc' := 64) hM88 rfl rfl rfl ?_
        refine z_aload_n (pc' := 65) hM88 rfl rfl rfl ?_
        obtain ⟨z75, s76, h77, hm⟩ := o_c hm
        refine z_cv (d := d + 329) (pc' := 68) hM88 rfl hM91 rfl rfl rfl rfl rfl rfl (c91 (d := d + 321) hG h77) rfl ?_
        obtain ⟨h78, hm⟩ := o_d hm
        cases hm
        exact z_retZ hM88 rfl rfl h78 ⟨rfl, rfl⟩
      · replace hm := o_f hm h74
        refine z_aload_n (pc' := 57) hM88 rfl rfl rfl ?_
        obtain ⟨z79, s80, h81, hm⟩ := o_c hm
        refine z_cv (d := d + 329) (pc' := 60) hM88 rfl hM89 rfl rfl rfl rfl rfl rfl (c89 (d := d + 327) hG h81) rfl ?_
        refine z_goto (t := 68) hM88 rfl ?_
        obtain ⟨h82, hm⟩ := o_d hm
        cases hm
        exact z_retZ hM88 rfl rfl h82 ⟨rfl, rfl⟩
  · replace hm := o_f hm h4
    refine z_aload_n (pc' := 13) hM88 rfl rfl rfl ?_
    refine z_fldR (pc' := 16) hM88 rfl (zf_5_0 hG) rfl rfl ?_
    obtain ⟨z83, s84, h85, hm⟩ := o_c hm
    refine z_cv (d := d + 329) (pc' := 19) hM88 rfl hM51 rfl rfl rfl rfl rfl rfl (c51 (d := d + 328) hG h85) rfl ?_
    refine z_ifeq (pc' := 22) (t := 29) hM88 rfl rfl (fun h86 => ?_) (fun h86 => ?_)
    · replace hm := o_t hm h86
      refine z_aload_n (pc' := 30) hM88 rfl rfl rfl ?_
      refine z_aload_n (pc' := 31) hM88 rfl rfl rfl ?_
      obtain ⟨z87, s88, h89, hm⟩ := o_c hm
      refine z_cv (d := d + 329) (pc' := 34) hM88 rfl hM90 rfl rfl rfl rfl rfl rfl (c90 (d := d + 321) hG h89) rfl ?_
      obtain ⟨h90, hm⟩ := o_d hm
      cases hm
      exact z_retZ hM88 rfl rfl h90 ⟨rfl, rfl⟩
    · replace hm := o_f hm h86
      refine z_aload_n (pc' := 23) hM88 rfl rfl rfl ?_
      obtain ⟨z91, s92, h93, hm⟩ := o_c hm
      refine z_cv (d := d + 329) (pc' := 26) hM88 rfl hM89 rfl rfl rfl rfl rfl rfl (c89 (d := d + 327) hG h93) rfl ?_
      refine z_goto (t := 34) hM88 rfl ?_
      obtain ⟨h94, hm⟩ := o_d hm
      cases hm
      exact z_retZ hM88 rfl rfl h94 ⟨rfl, rfl⟩
def m87_67 (a1 : Nat) (s : zS) : Option (Int × zS) := oV (s.1 1 3) fun z1 => if z1 = (0 : Int) then oC (m44 a1 s) fun z3 s4 => some ((1 : Int), s4) else oC (m89 s) fun z6 s7 => oD z6 (some (z6, s7))
theorem c87_67 {G : aHp} {d : Nat} (hG : zG G) {a1 : Nat} {d2 : Option zV} {s : zS} {r_ : Int} {s_ : zS} (hm : m87_67 a1 s = some (r_, s_)) : Zp G (d + 331) 87 67 [some (zr 9 0 9), some (zr 5 0 a1), d2] [] s (zRet (some (zi r_)) s_) := by
  replace hm : (oV (s.1 1 3) fun z1 => if z1 = (0 : Int) then oC (m44 a1 s) fun z3 s4 => some ((1 : Int), s4) else oC (m89 s) fun z6 s7 => oD z6 (some (z6, s7))) = some (r_, s_) := hm
  refine z_aload_n (pc' := 68) hM87 rfl rfl rfl ?_
  refine z_fldR (pc' := 71) hM87 rfl (zf_9_0 hG) rfl rfl ?_
  obtain ⟨z1, ez1, hm⟩ := o_v hm
  refine z_fldI (pc' := 74) hM87 rfl rfl rfl ez1 ?_
  refine z_ifeq (pc' := 77) (t := 82) hM87 rfl rfl (fun h2 => ?_) (fun h2 => ?_)
  · replace hm := o_t hm h2
    refine z_aload_n (pc' := 83) hM87 rfl rfl rfl ?_
    obtain ⟨z3, s4, h5, hm⟩ := o_c hm
    refine z_cvV (d := d + 330) (pc' := 86) hM87 rfl hM44 rfl rfl rfl rfl rfl rfl (c44 (d := d + 324) hG h5) rfl ?_
    refine z_iconst (pc' := 87) hM87 rfl rfl rfl ?_
    cases hm
    exact z_retZ hM87 rfl rfl (Or.inr rfl) ⟨rfl, rfl⟩
  · replace hm := o_f hm h2
    refine z_aload_n (pc' := 78) hM87 rfl rfl rfl ?_
    obtain ⟨z6, s7, h8, hm⟩ := o_c hm
    refine z_cv (d := d + 330) (pc' := 81) hM87 rfl hM89 rfl rfl rfl rfl rfl rfl (c89 (d := d + 328) hG h8) rfl ?_
    obtain ⟨h9, hm⟩ := o_d hm
    cases hm
    exact z_retZ hM87 rfl rfl h9 ⟨rfl, rfl⟩
def m87_13 : Nat → Nat → Int → zS → Option (Int × zS)
  | 0, _, _, _ => none
  | n + 1, a1, x2, s => if x2 < (80 : Int) then oV (s.1 1 3) fun z2 => if z2 = (0 : Int) then m87_67 a1 s else oC (m88 a1 s) fun z4 s5 => if z4 = (0 : Int) then some ((0 : Int), s5) else oC (m81 (59 : Int) s5) fun z8 s9 => if z8 = (0 : Int) then some ((0 : Int), s9) else oV (s9.1 a1 15) fun z12 => oZ (z12 + (1 : Int)) fun z13 => oV (sI s9 a1 15 z13) fun s15 => oZ (x2 + (1 : Int)) fun z16 => m87_13 n a1 z16 s15 else m87_67 a1 s
theorem c87_13 {G : aHp} {d : Nat} (hG : zG G) : ∀ {n : Nat} {a1 : Nat} {x2 : Int} {s : zS} {r_ : Int} {s_ : zS}, m87_13 n a1 x2 s = some (r_, s_) → Zp G (d + 331) 87 13 [some (zr 9 0 9), some (zr 5 0 a1), some (zi x2)] [] s (zRet (some (zi r_)) s_) := by
  intro n
  induction n with
  | zero => intro a1 x2 s r_ s_ hm; cases hm
  | succ n ih =>
  intro a1 x2 s r_ s_ hm
  replace hm : (if x2 < (80 : Int) then oV (s.1 1 3) fun z2 => if z2 = (0 : Int) then m87_67 a1 s else oC (m88 a1 s) fun z4 s5 => if z4 = (0 : Int) then some ((0 : Int), s5) else oC (m81 (59 : Int) s5) fun z8 s9 => if z8 = (0 : Int) then some ((0 : Int), s9) else oV (s9.1 a1 15) fun z12 => oZ (z12 + (1 : Int)) fun z13 => oV (sI s9 a1 15 z13) fun s15 => oZ (x2 + (1 : Int)) fun z16 => m87_13 n a1 z16 s15 else m87_67 a1 s) = some (r_, s_) := hm
  refine z_iload_n (pc' := 14) hM87 rfl rfl rfl ?_
  refine z_bipush (pc' := 16) hM87 rfl rfl rfl ?_
  refine z_cmpge (pc' := 19) (t := 67) hM87 rfl rfl (fun h1 => ?_) (fun h1 => ?_)
  · replace hm := o_t hm h1
    refine z_aload_n (pc' := 20) hM87 rfl rfl rfl ?_
    refine z_fldR (pc' := 23) hM87 rfl (zf_9_0 hG) rfl rfl ?_
    obtain ⟨z2, ez2, hm⟩ := o_v hm
    refine z_fldI (pc' := 26) hM87 rfl rfl rfl ez2 ?_
    refine z_ifeq (pc' := 29) (t := 67) hM87 rfl rfl (fun h3 => ?_) (fun h3 => ?_)
    · replace hm := o_t hm h3
      exact c87_67 hG hm
    · replace hm := o_f hm h3
      refine z_aload_n (pc' := 30) hM87 rfl rfl rfl ?_
      refine z_aload_n (pc' := 31) hM87 rfl rfl rfl ?_
      obtain ⟨z4, s5, h6, hm⟩ := o_c hm
      refine z_cv (d := d + 330) (pc' := 34) hM87 rfl hM88 rfl rfl rfl rfl rfl rfl (c88 (d := d) hG h6) rfl ?_
      refine z_ifeq (pc' := 37) (t := 49) hM87 rfl rfl (fun h7 => ?_) (fun h7 => ?_)
      · replace hm := o_t hm h7
        refine z_iconst (pc' := 50) hM87 rfl rfl rfl ?_
        cases hm
        exact z_retZ hM87 rfl rfl (Or.inl rfl) ⟨rfl, rfl⟩
      · replace hm := o_f hm h7
        refine z_aload_n (pc' := 38) hM87 rfl rfl rfl ?_
        refine z_fldR (pc' := 41) hM87 rfl (zf_9_0 hG) rfl rfl ?_
        refine z_bipush (pc' := 43) hM87 rfl rfl rfl ?_
        obtain ⟨z8, s9, h10, hm⟩ := o_c hm
        refine z_cv (d := d + 330) (pc' := 46) hM87 rfl hM81 rfl rfl rfl rfl rfl rfl (c81 (d := d + 328) hG h10) rfl ?_
        refine z_ifne (pc' := 49) (t := 51) hM87 rfl rfl (fun h11 => ?_) (fun h11 => ?_)
        · replace hm := o_t hm h11
          refine z_iconst (pc' := 50) hM87 rfl rfl rfl ?_
          cases hm
          exact z_retZ hM87 rfl rfl (Or.inl rfl) ⟨rfl, rfl⟩
        · replace hm := o_f hm h11
          refine z_aload_n (pc' := 52) hM87 rfl rfl rfl ?_
          refine z_dupA (pc' := 53) hM87 rfl rfl ?_
          obtain ⟨z12, ez12, hm⟩ := o_v hm
          refine z_fldI (pc' := 56) hM87 rfl rfl rfl ez12 ?_
          refine z_iconst (pc' := 57) hM87 rfl rfl rfl ?_
          obtain ⟨z13, ez13, h14, hm⟩ := o_z hm
          refine z_iadd (pc' := 58) hM87 rfl rfl ez13 h14 ?_
          obtain ⟨s15, es15, hm⟩ := o_v hm
          refine z_putI (pc' := 61) hM87 rfl rfl rfl es15 ?_
          obtain ⟨z16, ez16, h17, hm⟩ := o_z hm
          refine z_iinc (pc' := 64) (l' := [some (zr 9 0 9), some (zr 5 0 a1), some (zi z16)]) hM87 rfl rfl rfl ez16 h17 rfl rfl ?_
          refine z_goto (t := 13) hM87 rfl ?_
          exact ih hm
  · replace hm := o_f hm h1
    exact c87_67 hG hm
def m87 (a1 : Nat) (s : zS) : Option (Int × zS) := oC (m39 a1 s) fun z1 s2 => oC (m75 s2) fun z4 s5 => m87_13 zFu a1 (0 : Int) s5
theorem c87 {G : aHp} {d : Nat} (hG : zG G) {a1 : Nat} {s : zS} {r_ : Int} {s_ : zS} (hm : m87 a1 s = some (r_, s_)) : Zp G (d + 331) 87 0 [some (zr 9 0 9), some (zr 5 0 a1), none] [] s (zRet (some (zi r_)) s_) := by
  replace hm : (oC (m39 a1 s) fun z1 s2 => oC (m75 s2) fun z4 s5 => m87_13 zFu a1 (0 : Int) s5) = some (r_, s_) := hm
  refine z_aload_n (pc' := 1) hM87 rfl rfl rfl ?_
  obtain ⟨z1, s2, h3, hm⟩ := o_c hm
  refine z_cvV (d := d + 330) (pc' := 4) hM87 rfl hM39 rfl rfl rfl rfl rfl rfl (c39 (d := d + 328) hG h3) rfl ?_
  refine z_aload_n (pc' := 5) hM87 rfl rfl rfl ?_
  refine z_fldR (pc' := 8) hM87 rfl (zf_9_0 hG) rfl rfl ?_
  obtain ⟨z4, s5, h6, hm⟩ := o_c hm
  refine z_cvV (d := d + 330) (pc' := 11) hM87 rfl hM75 rfl rfl rfl rfl rfl rfl (c75 (d := d + 328) hG h6) rfl ?_
  refine z_iconst (pc' := 12) hM87 rfl rfl rfl ?_
  refine z_istore_n (pc' := 13) (l' := [some (zr 9 0 9), some (zr 5 0 a1), some (zi (0 : Int))]) hM87 rfl rfl rfl rfl ?_
  exact c87_13 hG hm
def m136 (x1 : Int) (s : zS) : Option (Int × zS) := oX x1 6 (oV (s.1 41 x1) fun z1 => oZ (z1 + (1 : Int)) fun z3 => oX x1 6 (oV (sI s 41 x1 z3) fun s5 => some ((-1 : Int), s5)))
theorem c136 {G : aHp} {d : Nat} (hG : zG G) {x1 : Int} {s : zS} {r_ : Int} {s_ : zS} (hm : m136 x1 s = some (r_, s_)) : Zp G (d + 1) 136 0 [some (zr 11 0 0), some (zi x1)] [] s (zRet (some (zi r_)) s_) := by
  replace hm : (oX x1 6 (oV (s.1 41 x1) fun z1 => oZ (z1 + (1 : Int)) fun z3 => oX x1 6 (oV (sI s 41 x1 z3) fun s5 => some ((-1 : Int), s5)))) = some (r_, s_) := hm
  refine z_aload_n (pc' := 1) hM136 rfl rfl rfl ?_
  refine z_fldR (pc' := 4) hM136 rfl (zf_11_11 hG) rfl rfl ?_
  refine z_iload_n (pc' := 5) hM136 rfl rfl rfl ?_
  refine z_dup2A (pc' := 6) hM136 rfl rfl ?_
  obtain ⟨h2, hm⟩ := o_x hm
  obtain ⟨z1, ez1, hm⟩ := o_v hm
  refine z_iald (pc' := 7) (zGN hG) hM136 rfl rfl h2 ez1 ?_
  refine z_iconst (pc' := 8) hM136 rfl rfl rfl ?_
  obtain ⟨z3, ez3, h4, hm⟩ := o_z hm
  refine z_iadd (pc' := 9) hM136 rfl rfl ez3 h4 ?_
  obtain ⟨h6, hm⟩ := o_x hm
  obtain ⟨s5, es5, hm⟩ := o_v hm
  refine z_iast (pc' := 10) hM136 rfl rfl h6 es5 ?_
  refine z_iconst (pc' := 11) hM136 rfl rfl rfl ?_
  cases hm
  exact z_retI hM136 rfl rfl ⟨rfl, rfl⟩
def m101 (x1 : Int) (x2 : Int) (x3 : Int) (x4 : Int) (x5 : Int) (s : zS) : Option (Int × zS) := oV (s.1 1 2) fun z1 => if (1580 : Int) < z1 then oC (m136 (0 : Int) s) fun z3 s4 => some (z3, s4) else oC (m73 x1 s) fun z6 s7 => oC (m73 x2 s7) fun z9 s10 => oC (m73 x3 s10) fun z12 s13 => oC (m73 x4 s13) fun z15 s16 => oC (m73 x5 s16) fun z18 s19 => oV (s19.1 1 2) fun z21 => some (z21, s19)
theorem c101 {G : aHp} {d : Nat} (hG : zG G) {x1 : Int} {x2 : Int} {x3 : Int} {x4 : Int} {x5 : Int} {s : zS} {r_ : Int} {s_ : zS} (hm : m101 x1 x2 x3 x4 x5 s = some (r_, s_)) : Zp G (d + 2) 101 0 [some (zr 11 0 0), some (zi x1), some (zi x2), some (zi x3), some (zi x4), some (zi x5)] [] s (zRet (some (zi r_)) s_) := by
  replace hm : (oV (s.1 1 2) fun z1 => if (1580 : Int) < z1 then oC (m136 (0 : Int) s) fun z3 s4 => some (z3, s4) else oC (m73 x1 s) fun z6 s7 => oC (m73 x2 s7) fun z9 s10 => oC (m73 x3 s10) fun z12 s13 => oC (m73 x4 s13) fun z15 s16 => oC (m73 x5 s16) fun z18 s19 => oV (s19.1 1 2) fun z21 => some (z21, s19)) = some (r_, s_) := hm
  refine z_aload_n (pc' := 1) hM101 rfl rfl rfl ?_
  refine z_fldR (pc' := 4) hM101 rfl (zf_11_0 hG) rfl rfl ?_
  obtain ⟨z1, ez1, hm⟩ := o_v hm
  refine z_fldI (pc' := 7) hM101 rfl rfl rfl ez1 ?_
  refine z_sipush (pc' := 10) hM101 rfl rfl rfl ?_
  refine z_cmple (pc' := 13) (t := 19) hM101 rfl rfl (fun h2 => ?_) (fun h2 => ?_)
  · replace hm := o_t hm h2
    refine z_aload_n (pc' := 14) hM101 rfl rfl rfl ?_
    refine z_iconst (pc' := 15) hM101 rfl rfl rfl ?_
    obtain ⟨z3, s4, h5, hm⟩ := o_c hm
    refine z_cv (d := d + 1) (pc' := 18) hM101 rfl hM136 rfl rfl rfl rfl rfl rfl (c136 (d := d) hG h5) rfl ?_
    cases hm
    exact z_retI hM101 rfl rfl ⟨rfl, rfl⟩
  · replace hm := o_f hm h2
    refine z_aload_n (pc' := 20) hM101 rfl rfl rfl ?_
    refine z_fldR (pc' := 23) hM101 rfl (zf_11_0 hG) rfl rfl ?_
    refine z_iload_n (pc' := 24) hM101 rfl rfl rfl ?_
    obtain ⟨z6, s7, h8, hm⟩ := o_c hm
    refine z_cvV (d := d + 1) (pc' := 27) hM101 rfl hM73 rfl rfl rfl rfl rfl rfl (c73 (d := d) hG h8) rfl ?_
    refine z_aload_n (pc' := 28) hM101 rfl rfl rfl ?_
    refine z_fldR (pc' := 31) hM101 rfl (zf_11_0 hG) rfl rfl ?_
    refine z_iload_n (pc' := 32) hM101 rfl rfl rfl ?_
    obtain ⟨z9, s10, h11, hm⟩ := o_c hm
    refine z_cvV (d := d + 1) (pc' := 35) hM101 rfl hM73 rfl rfl rfl rfl rfl rfl (c73 (d := d) hG h11) rfl ?_
    refine z_aload_n (pc' := 36) hM101 rfl rfl rfl ?_
    refine z_fldR (pc' := 39) hM101 rfl (zf_11_0 hG) rfl rfl ?_
    refine z_iload_n (pc' := 40) hM101 rfl rfl rfl ?_
    obtain ⟨z12, s13, h14, hm⟩ := o_c hm
    refine z_cvV (d := d + 1) (pc' := 43) hM101 rfl hM73 rfl rfl rfl rfl rfl rfl (c73 (d := d) hG h14) rfl ?_
    refine z_aload_n (pc' := 44) hM101 rfl rfl rfl ?_
    refine z_fldR (pc' := 47) hM101 rfl (zf_11_0 hG) rfl rfl ?_
    refine z_iload (pc' := 49) hM101 rfl rfl rfl ?_
    obtain ⟨z15, s16, h17, hm⟩ := o_c hm
    refine z_cvV (d := d + 1) (pc' := 52) hM101 rfl hM73 rfl rfl rfl rfl rfl rfl (c73 (d := d) hG h17) rfl ?_
    refine z_aload_n (pc' := 53) hM101 rfl rfl rfl ?_
    refine z_fldR (pc' := 56) hM101 rfl (zf_11_0 hG) rfl rfl ?_
    refine z_iload (pc' := 58) hM101 rfl rfl rfl ?_
    obtain ⟨z18, s19, h20, hm⟩ := o_c hm
    refine z_cvV (d := d + 1) (pc' := 61) hM101 rfl hM73 rfl rfl rfl rfl rfl rfl (c73 (d := d) hG h20) rfl ?_
    refine z_aload_n (pc' := 62) hM101 rfl rfl rfl ?_
    refine z_fldR (pc' := 65) hM101 rfl (zf_11_0 hG) rfl rfl ?_
    obtain ⟨z21, ez21, hm⟩ := o_v hm
    refine z_fldI (pc' := 68) hM101 rfl rfl rfl ez21 ?_
    cases hm
    exact z_retI hM101 rfl rfl ⟨rfl, rfl⟩
def m102 (x1 : Int) (s : zS) : Option (Int × zS) := if x1 < (0 : Int) then oC (m136 (0 : Int) s) fun z2 s3 => some ((0 : Int), s3) else oV (s.1 1 2) fun z5 => if z5 < x1 then oC (m136 (0 : Int) s) fun z7 s8 => some ((0 : Int), s8) else oV (sI s 1 2 x1) fun s10 => some ((1 : Int), s10)
theorem c102 {G : aHp} {d : Nat} (hG : zG G) {x1 : Int} {s : zS} {r_ : Int} {s_ : zS} (hm : m102 x1 s = some (r_, s_)) : Zp G (d + 2) 102 0 [some (zr 11 0 0), some (zi x1)] [] s (zRet (some (zi r_)) s_) := by
  replace hm : (if x1 < (0 : Int) then oC (m136 (0 : Int) s) fun z2 s3 => some ((0 : Int), s3) else oV (s.1 1 2) fun z5 => if z5 < x1 then oC (m136 (0 : Int) s) fun z7 s8 => some ((0 : Int), s8) else oV (sI s 1 2 x1) fun s10 => some ((1 : Int), s10)) = some (r_, s_) := hm
  refine z_iload_n (pc' := 1) hM102 rfl rfl rfl ?_
  refine z_iflt (pc' := 4) (t := 15) hM102 rfl rfl (fun h1 => ?_) (fun h1 => ?_)
  · replace hm := o_t hm h1
    refine z_aload_n (pc' := 16) hM102 rfl rfl rfl ?_
    refine z_iconst (pc' := 17) hM102 rfl rfl rfl ?_
    obtain ⟨z2, s3, h4, hm⟩ := o_c hm
    refine z_cv (d := d + 1) (pc' := 20) hM102 rfl hM136 rfl rfl rfl rfl rfl rfl (c136 (d := d) hG h4) rfl ?_
    refine z_pop (pc' := 21) hM102 rfl rfl ?_
    refine z_iconst (pc' := 22) hM102 rfl rfl rfl ?_
    cases hm
    exact z_retZ hM102 rfl rfl (Or.inl rfl) ⟨rfl, rfl⟩
  · replace hm := o_f hm h1
    refine z_iload_n (pc' := 5) hM102 rfl rfl rfl ?_
    refine z_aload_n (pc' := 6) hM102 rfl rfl rfl ?_
    refine z_fldR (pc' := 9) hM102 rfl (zf_11_0 hG) rfl rfl ?_
    obtain ⟨z5, ez5, hm⟩ := o_v hm
    refine z_fldI (pc' := 12) hM102 rfl rfl rfl ez5 ?_
    refine z_cmple (pc' := 15) (t := 23) hM102 rfl rfl (fun h6 => ?_) (fun h6 => ?_)
    · replace hm := o_t hm h6
      refine z_aload_n (pc' := 16) hM102 rfl rfl rfl ?_
      refine z_iconst (pc' := 17) hM102 rfl rfl rfl ?_
      obtain ⟨z7, s8, h9, hm⟩ := o_c hm
      refine z_cv (d := d + 1) (pc' := 20) hM102 rfl hM136 rfl rfl rfl rfl rfl rfl (c136 (d := d) hG h9) rfl ?_
      refine z_pop (pc' := 21) hM102 rfl rfl ?_
      refine z_iconst (pc' := 22) hM102 rfl rfl rfl ?_
      cases hm
      exact z_retZ hM102 rfl rfl (Or.inl rfl) ⟨rfl, rfl⟩
    · replace hm := o_f hm h6
      refine z_aload_n (pc' := 24) hM102 rfl rfl rfl ?_
      refine z_fldR (pc' := 27) hM102 rfl (zf_11_0 hG) rfl rfl ?_
      refine z_iload_n (pc' := 28) hM102 rfl rfl rfl ?_
      obtain ⟨s10, es10, hm⟩ := o_v hm
      refine z_putI (pc' := 31) hM102 rfl rfl rfl es10 ?_
      refine z_iconst (pc' := 32) hM102 rfl rfl rfl ?_
      cases hm
      exact z_retZ hM102 rfl rfl (Or.inr rfl) ⟨rfl, rfl⟩
def m103  (s : zS) : Option (Int × zS) := oV (s.2.2 2) fun w1 => oC (m87 w1 s) fun z2 s3 => oV (sI s3 1 2 (0 : Int)) fun s5 => if z2 = (0 : Int) then oC (m136 (1 : Int) s5) fun z7 s8 => some (z7, s8) else oV (s5.2.2 1) fun w10 => oV (s5.2.2 2) fun w11 => oV (sM s5 1 w11) fun s12 => oV (sM s12 2 w10) fun s13 => oV (s13.2.2 1) fun w14 => oV (sM s13 3 w14) fun s15 => oV (s15.2.2 1) fun w16 => oC (m57 28 w16 s15) fun z17 s18 => oV (sI s18 24 0 (0 : Int)) fun s20 => oV (sI s20 0 17 (0 : Int)) fun s21 => oV (s21.2.2 1) fun w22 => oV (s21.1 w22 15) fun z23 => some (z23, s21)
theorem c103 {G : aHp} {d : Nat} (hG : zG G) {s : zS} {r_ : Int} {s_ : zS} (hm : m103  s = some (r_, s_)) : Zp G (d + 332) 103 0 [some (zr 11 0 0), none, none] [] s (zRet (some (zi r_)) s_) := by
  replace hm : (oV (s.2.2 2) fun w1 => oC (m87 w1 s) fun z2 s3 => oV (sI s3 1 2 (0 : Int)) fun s5 => if z2 = (0 : Int) then oC (m136 (1 : Int) s5) fun z7 s8 => some (z7, s8) else oV (s5.2.2 1) fun w10 => oV (s5.2.2 2) fun w11 => oV (sM s5 1 w11) fun s12 => oV (sM s12 2 w10) fun s13 => oV (s13.2.2 1) fun w14 => oV (sM s13 3 w14) fun s15 => oV (s15.2.2 1) fun w16 => oC (m57 28 w16 s15) fun z17 s18 => oV (sI s18 24 0 (0 : Int)) fun s20 => oV (sI s20 0 17 (0 : Int)) fun s21 => oV (s21.2.2 1) fun w22 => oV (s21.1 w22 15) fun z23 => some (z23, s21)) = some (r_, s_) := hm
  refine z_aload_n (pc' := 1) hM103 rfl rfl rfl ?_
  refine z_fldR (pc' := 4) hM103 rfl (zf_11_3 hG) rfl rfl ?_
  refine z_aload_n (pc' := 5) hM103 rfl rfl rfl ?_
  obtain ⟨w1, ew1, hm⟩ := o_v hm
  refine z_fldM (pc' := 8) (q := 1) hG.2.1 hM103 rfl rfl (Or.inr (Or.inl rfl)) rfl rfl ew1 ?_
  obtain ⟨z2, s3, h4, hm⟩ := o_c hm
  refine z_cv (d := d + 331) (pc' := 11) hM103 rfl hM87 rfl rfl rfl rfl rfl rfl (c87 (d := d) hG h4) rfl ?_
  refine z_istore_n (pc' := 12) (l' := [some (zr 11 0 0), some (zi z2), none]) hM103 rfl rfl rfl rfl ?_
  refine z_aload_n (pc' := 13) hM103 rfl rfl rfl ?_
  refine z_fldR (pc' := 16) hM103 rfl (zf_11_0 hG) rfl rfl ?_
  refine z_iconst (pc' := 17) hM103 rfl rfl rfl ?_
  obtain ⟨s5, es5, hm⟩ := o_v hm
  refine z_putI (pc' := 20) hM103 rfl rfl rfl es5 ?_
  refine z_iload_n (pc' := 21) hM103 rfl rfl rfl ?_
  refine z_ifne (pc' := 24) (t := 30) hM103 rfl rfl (fun h6 => ?_) (fun h6 => ?_)
  · replace hm := o_t hm h6
    refine z_aload_n (pc' := 25) hM103 rfl rfl rfl ?_
    refine z_iconst (pc' := 26) hM103 rfl rfl rfl ?_
    obtain ⟨z7, s8, h9, hm⟩ := o_c hm
    refine z_cv (d := d + 331) (pc' := 29) hM103 rfl hM136 rfl rfl rfl rfl rfl rfl (c136 (d := d + 330) hG h9) rfl ?_
    cases hm
    exact z_retI hM103 rfl rfl ⟨rfl, rfl⟩
  · replace hm := o_f hm h6
    refine z_aload_n (pc' := 31) hM103 rfl rfl rfl ?_
    obtain ⟨w10, ew10, hm⟩ := o_v hm
    refine z_fldM (pc' := 34) (q := 0) hG.2.1 hM103 rfl rfl (Or.inl rfl) rfl rfl ew10 ?_
    refine z_astore_n (pc' := 35) (l' := [some (zr 11 0 0), some (zi z2), some (zr 5 0 w10)]) hM103 rfl rfl rfl rfl ?_
    refine z_aload_n (pc' := 36) hM103 rfl rfl rfl ?_
    refine z_aload_n (pc' := 37) hM103 rfl rfl rfl ?_
    obtain ⟨w11, ew11, hm⟩ := o_v hm
    refine z_fldM (pc' := 40) (q := 1) hG.2.1 hM103 rfl rfl (Or.inr (Or.inl rfl)) rfl rfl ew11 ?_
    obtain ⟨s12, es12, hm⟩ := o_v hm
    refine z_putM (pc' := 43) (q := 0) hG.2.1 hM103 rfl rfl (Or.inl rfl) rfl rfl es12 ?_
    refine z_aload_n (pc' := 44) hM103 rfl rfl rfl ?_
    refine z_aload_n (pc' := 45) hM103 rfl rfl rfl ?_
    obtain ⟨s13, es13, hm⟩ := o_v hm
    refine z_putM (pc' := 48) (q := 1) hG.2.1 hM103 rfl rfl (Or.inr (Or.inl rfl)) rfl rfl es13 ?_
    refine z_aload_n (pc' := 49) hM103 rfl rfl rfl ?_
    refine z_fldR (pc' := 52) hM103 rfl (zf_11_4 hG) rfl rfl ?_
    refine z_aload_n (pc' := 53) hM103 rfl rfl rfl ?_
    obtain ⟨w14, ew14, hm⟩ := o_v hm
    refine z_fldM (pc' := 56) (q := 0) hG.2.1 hM103 rfl rfl (Or.inl rfl) rfl rfl ew14 ?_
    obtain ⟨s15, es15, hm⟩ := o_v hm
    refine z_putM (pc' := 59) (q := 2) hG.2.1 hM103 rfl rfl (Or.inr (Or.inr rfl)) rfl rfl es15 ?_
    refine z_aload_n (pc' := 60) hM103 rfl rfl rfl ?_
    refine z_fldR (pc' := 63) hM103 rfl (zf_11_8 hG) rfl rfl ?_
    refine z_aload_n (pc' := 64) hM103 rfl rfl rfl ?_
    obtain ⟨w16, ew16, hm⟩ := o_v hm
    refine z_fldM (pc' := 67) (q := 0) hG.2.1 hM103 rfl rfl (Or.inl rfl) rfl rfl ew16 ?_
    obtain ⟨z17, s18, h19, hm⟩ := o_c hm
    refine z_cvV (d := d + 331) (pc' := 70) hM103 rfl hM57 rfl rfl rfl rfl rfl rfl (c57 (d := d + 329) hG h19) rfl ?_
    refine z_aload_n (pc' := 71) hM103 rfl rfl rfl ?_
    refine z_fldR (pc' := 74) hM103 rfl (zf_11_7 hG) rfl rfl ?_
    refine z_iconst (pc' := 75) hM103 rfl rfl rfl ?_
    obtain ⟨s20, es20, hm⟩ := o_v hm
    refine z_putI (pc' := 78) hM103 rfl rfl rfl es20 ?_
    refine z_aload_n (pc' := 79) hM103 rfl rfl rfl ?_
    refine z_iconst (pc' := 80) hM103 rfl rfl rfl ?_
    obtain ⟨s21, es21, hm⟩ := o_v hm
    refine z_putI (pc' := 83) hM103 rfl rfl rfl es21 ?_
    refine z_aload_n (pc' := 84) hM103 rfl rfl rfl ?_
    obtain ⟨w22, ew22, hm⟩ := o_v hm
    refine z_fldM (pc' := 87) (q := 0) hG.2.1 hM103 rfl rfl (Or.inl rfl) rfl rfl ew22 ?_
    obtain ⟨z23, ez23, hm⟩ := o_v hm
    refine z_fldI (pc' := 90) hM103 rfl rfl rfl ez23 ?_
    cases hm
    exact z_retI hM103 rfl rfl ⟨rfl, rfl⟩
def m104 (x1 : Int) (s : zS) : Option (Int × zS) := if x1 = (0 : Int) then oV (s.1 1 5) fun z2 => some (z2, s) else if x1 = (1 : Int) then oV (s.1 1 6) fun z4 => some (z4, s) else some ((-1 : Int), s)
theorem c104 {G : aHp} {d : Nat} (hG : zG G) {x1 : Int} {s : zS} {r_ : Int} {s_ : zS} (hm : m104 x1 s = some (r_, s_)) : Zp G (d + 1) 104 0 [some (zr 11 0 0), some (zi x1)] [] s (zRet (some (zi r_)) s_) := by
  replace hm : (if x1 = (0 : Int) then oV (s.1 1 5) fun z2 => some (z2, s) else if x1 = (1 : Int) then oV (s.1 1 6) fun z4 => some (z4, s) else some ((-1 : Int), s)) = some (r_, s_) := hm
  refine z_iload_n (pc' := 1) hM104 rfl rfl rfl ?_
  refine z_ifne (pc' := 4) (t := 12) hM104 rfl rfl (fun h1 => ?_) (fun h1 => ?_)
  · replace hm := o_t hm h1
    refine z_aload_n (pc' := 5) hM104 rfl rfl rfl ?_
    refine z_fldR (pc' := 8) hM104 rfl (zf_11_0 hG) rfl rfl ?_
    obtain ⟨z2, ez2, hm⟩ := o_v hm
    refine z_fldI (pc' := 11) hM104 rfl rfl rfl ez2 ?_
    cases hm
    exact z_retI hM104 rfl rfl ⟨rfl, rfl⟩
  · replace hm := o_f hm h1
    refine z_iload_n (pc' := 13) hM104 rfl rfl rfl ?_
    refine z_iconst (pc' := 14) hM104 rfl rfl rfl ?_
    refine z_cmpne (pc' := 17) (t := 27) hM104 rfl rfl (fun h3 => ?_) (fun h3 => ?_)
    · replace hm := o_t hm h3
      refine z_aload_n (pc' := 18) hM104 rfl rfl rfl ?_
      refine z_fldR (pc' := 21) hM104 rfl (zf_11_0 hG) rfl rfl ?_
      obtain ⟨z4, ez4, hm⟩ := o_v hm
      refine z_fldI (pc' := 24) hM104 rfl rfl rfl ez4 ?_
      refine z_goto (t := 28) hM104 rfl ?_
      cases hm
      exact z_retI hM104 rfl rfl ⟨rfl, rfl⟩
    · replace hm := o_f hm h3
      refine z_iconst (pc' := 28) hM104 rfl rfl rfl ?_
      cases hm
      exact z_retI hM104 rfl rfl ⟨rfl, rfl⟩
def m141_4 : Nat → Int → Int → zS → Option (Int × zS)
  | 0, _, _, _ => none
  | n + 1, x1, x2, s => oV (s.2.2 1) fun w1 => oV (s.1 (w1 + 5) 0) fun z2 => if x2 < z2 then oX x2 6 (oV (s.1 31 x2) fun z4 => if z4 = (-1 : Int) then oZ (x2 + (1 : Int)) fun z7 => m141_4 n x1 z7 s else oZ (x1 + (1 : Int)) fun z9 => oZ (x2 + (1 : Int)) fun z11 => m141_4 n z9 z11 s) else some (x1, s)
theorem c141_4 {G : aHp} {d : Nat} (hG : zG G) : ∀ {n : Nat} {x1 : Int} {x2 : Int} {s : zS} {r_ : Int} {s_ : zS}, m141_4 n x1 x2 s = some (r_, s_) → Zp G (d + 1) 141 4 [some (zr 11 0 0), some (zi x1), some (zi x2)] [] s (zRet (some (zi r_)) s_) := by
  intro n
  induction n with
  | zero => intro x1 x2 s r_ s_ hm; cases hm
  | succ n ih =>
  intro x1 x2 s r_ s_ hm
  replace hm : (oV (s.2.2 1) fun w1 => oV (s.1 (w1 + 5) 0) fun z2 => if x2 < z2 then oX x2 6 (oV (s.1 31 x2) fun z4 => if z4 = (-1 : Int) then oZ (x2 + (1 : Int)) fun z7 => m141_4 n x1 z7 s else oZ (x1 + (1 : Int)) fun z9 => oZ (x2 + (1 : Int)) fun z11 => m141_4 n z9 z11 s) else some (x1, s)) = some (r_, s_) := hm
  refine z_iload_n (pc' := 5) hM141 rfl rfl rfl ?_
  refine z_aload_n (pc' := 6) hM141 rfl rfl rfl ?_
  obtain ⟨w1, ew1, hm⟩ := o_v hm
  refine z_fldM (pc' := 9) (q := 0) hG.2.1 hM141 rfl rfl (Or.inl rfl) rfl rfl ew1 ?_
  refine z_fldR (pc' := 12) hM141 rfl (zf_5_2 hG) rfl rfl ?_
  obtain ⟨z2, ez2, hm⟩ := o_v hm
  refine z_fldI (pc' := 15) hM141 rfl rfl rfl ez2 ?_
  refine z_cmpge (pc' := 18) (t := 40) hM141 rfl rfl (fun h3 => ?_) (fun h3 => ?_)
  · replace hm := o_t hm h3
    refine z_aload_n (pc' := 19) hM141 rfl rfl rfl ?_
    refine z_fldR (pc' := 22) hM141 rfl (zf_11_8 hG) rfl rfl ?_
    refine z_fldR (pc' := 25) hM141 rfl (zf_7_2 hG) rfl rfl ?_
    refine z_iload_n (pc' := 26) hM141 rfl rfl rfl ?_
    obtain ⟨h5, hm⟩ := o_x hm
    obtain ⟨z4, ez4, hm⟩ := o_v hm
    refine z_iald (pc' := 27) (zGN hG) hM141 rfl rfl h5 ez4 ?_
    refine z_iconst (pc' := 28) hM141 rfl rfl rfl ?_
    refine z_cmpeq (pc' := 31) (t := 34) hM141 rfl rfl (fun h6 => ?_) (fun h6 => ?_)
    · replace hm := o_t hm h6
      obtain ⟨z7, ez7, h8, hm⟩ := o_z hm
      refine z_iinc (pc' := 37) (l' := [some (zr 11 0 0), some (zi x1), some (zi z7)]) hM141 rfl rfl rfl ez7 h8 rfl rfl ?_
      refine z_goto (t := 4) hM141 rfl ?_
      exact ih hm
    · replace hm := o_f hm h6
      obtain ⟨z9, ez9, h10, hm⟩ := o_z hm
      refine z_iinc (pc' := 34) (l' := [some (zr 11 0 0), some (zi z9), some (zi x2)]) hM141 rfl rfl rfl ez9 h10 rfl rfl ?_
      obtain ⟨z11, ez11, h12, hm⟩ := o_z hm
      refine z_iinc (pc' := 37) (l' := [some (zr 11 0 0), some (zi z9), some (zi z11)]) hM141 rfl rfl rfl ez11 h12 rfl rfl ?_
      refine z_goto (t := 4) hM141 rfl ?_
      exact ih hm
  · replace hm := o_f hm h3
    refine z_iload_n (pc' := 41) hM141 rfl rfl rfl ?_
    cases hm
    exact z_retI hM141 rfl rfl ⟨rfl, rfl⟩
def m141  (s : zS) : Option (Int × zS) := m141_4 zFu (0 : Int) (0 : Int) s
theorem c141 {G : aHp} {d : Nat} (hG : zG G) {s : zS} {r_ : Int} {s_ : zS} (hm : m141  s = some (r_, s_)) : Zp G (d + 1) 141 0 [some (zr 11 0 0), none, none] [] s (zRet (some (zi r_)) s_) := by
  replace hm : (m141_4 zFu (0 : Int) (0 : Int) s) = some (r_, s_) := hm
  refine z_iconst (pc' := 1) hM141 rfl rfl rfl ?_
  refine z_istore_n (pc' := 2) (l' := [some (zr 11 0 0), some (zi (0 : Int)), none]) hM141 rfl rfl rfl rfl ?_
  refine z_iconst (pc' := 3) hM141 rfl rfl rfl ?_
  refine z_istore_n (pc' := 4) (l' := [some (zr 11 0 0), some (zi (0 : Int)), some (zi (0 : Int))]) hM141 rfl rfl rfl rfl ?_
  exact c141_4 hG hm
def m105 (x1 : Int) (s : zS) : Option (Int × zS) := if x1 = (0 : Int) then oV (s.2.2 1) fun w2 => oV (s.1 (w2 + 1) 0) fun z3 => some (z3, s) else if x1 = (1 : Int) then oV (s.2.2 1) fun w5 => oV (s.1 w5 16) fun z6 => some (z6, s) else if x1 = (2 : Int) then oV (s.2.2 1) fun w8 => oV (s.1 (w8 + 3) 0) fun z9 => some (z9, s) else if x1 = (3 : Int) then oV (s.2.2 1) fun w11 => oV (s.1 (w11 + 5) 0) fun z12 => some (z12, s) else if x1 = (4 : Int) then oV (s.1 28 6) fun z14 => some (z14, s) else if x1 = (5 : Int) then oV (s.1 28 7) fun z16 => some (z16, s) else if x1 = (6 : Int) then oV (s.1 28 5) fun z18 => some (z18, s) else if x1 = (7 : Int) then oC (m141 s) fun z20 s21 => some (z20, s21) else if x1 = (8 : Int) then oC (m6 28 s) fun z24 s25 => some (z24, s25) else if x1 = (9 : Int) then oV (s.1 24 0) fun z28 => some (z28, s) else if x1 = (10 : Int) then oV (s.1 0 17) fun z30 => some (z30, s) else some ((-1 : Int), s)
theorem c105 {G : aHp} {d : Nat} (hG : zG G) {x1 : Int} {s : zS} {r_ : Int} {s_ : zS} (hm : m105 x1 s = some (r_, s_)) : Zp G (d + 3) 105 0 [some (zr 11 0 0), some (zi x1)] [] s (zRet (some (zi r_)) s_) := by
  replace hm : (if x1 = (0 : Int) then oV (s.2.2 1) fun w2 => oV (s.1 (w2 + 1) 0) fun z3 => some (z3, s) else if x1 = (1 : Int) then oV (s.2.2 1) fun w5 => oV (s.1 w5 16) fun z6 => some (z6, s) else if x1 = (2 : Int) then oV (s.2.2 1) fun w8 => oV (s.1 (w8 + 3) 0) fun z9 => some (z9, s) else if x1 = (3 : Int) then oV (s.2.2 1) fun w11 => oV (s.1 (w11 + 5) 0) fun z12 => some (z12, s) else if x1 = (4 : Int) then oV (s.1 28 6) fun z14 => some (z14, s) else if x1 = (5 : Int) then oV (s.1 28 7) fun z16 => some (z16, s) else if x1 = (6 : Int) then oV (s.1 28 5) fun z18 => some (z18, s) else if x1 = (7 : Int) then oC (m141 s) fun z20 s21 => some (z20, s21) else if x1 = (8 : Int) then oC (m6 28 s) fun z24 s25 => some (z24, s25) else if x1 = (9 : Int) then oV (s.1 24 0) fun z28 => some (z28, s) else if x1 = (10 : Int) then oV (s.1 0 17) fun z30 => some (z30, s) else some ((-1 : Int), s)) = some (r_, s_) := hm
  refine z_iload_n (pc' := 1) hM105 rfl rfl rfl ?_
  refine (Decidable.em (x1 = (0 : Int))).elim (fun h1 => ?_) (fun h1 => ?_)
  · replace hm := o_t hm h1
    refine z_swT (t := 60) (c := (0 : Int)) hM105 rfl h1 (by decide) rfl rfl ?_
    refine z_aload_n (pc' := 61) hM105 rfl rfl rfl ?_
    obtain ⟨w2, ew2, hm⟩ := o_v hm
    refine z_fldM (pc' := 64) (q := 0) hG.2.1 hM105 rfl rfl (Or.inl rfl) rfl rfl ew2 ?_
    refine z_fldR (pc' := 67) hM105 rfl (zf_5_0 hG) rfl rfl ?_
    obtain ⟨z3, ez3, hm⟩ := o_v hm
    refine z_fldI (pc' := 70) hM105 rfl rfl rfl ez3 ?_
    cases hm
    exact z_retI hM105 rfl rfl ⟨rfl, rfl⟩
  replace hm := o_f hm h1
  refine (Decidable.em (x1 = (1 : Int))).elim (fun h4 => ?_) (fun h4 => ?_)
  · replace hm := o_t hm h4
    refine z_swT (t := 71) (c := (1 : Int)) hM105 rfl h4 (by decide) rfl rfl ?_
    refine z_aload_n (pc' := 72) hM105 rfl rfl rfl ?_
    obtain ⟨w5, ew5, hm⟩ := o_v hm
    refine z_fldM (pc' := 75) (q := 0) hG.2.1 hM105 rfl rfl (Or.inl rfl) rfl rfl ew5 ?_
    obtain ⟨z6, ez6, hm⟩ := o_v hm
    refine z_fldI (pc' := 78) hM105 rfl rfl rfl ez6 ?_
    cases hm
    exact z_retI hM105 rfl rfl ⟨rfl, rfl⟩
  replace hm := o_f hm h4
  refine (Decidable.em (x1 = (2 : Int))).elim (fun h7 => ?_) (fun h7 => ?_)
  · replace hm := o_t hm h7
    refine z_swT (t := 79) (c := (2 : Int)) hM105 rfl h7 (by decide) rfl rfl ?_
    refine z_aload_n (pc' := 80) hM105 rfl rfl rfl ?_
    obtain ⟨w8, ew8, hm⟩ := o_v hm
    refine z_fldM (pc' := 83) (q := 0) hG.2.1 hM105 rfl rfl (Or.inl rfl) rfl rfl ew8 ?_
    refine z_fldR (pc' := 86) hM105 rfl (zf_5_1 hG) rfl rfl ?_
    obtain ⟨z9, ez9, hm⟩ := o_v hm
    refine z_fldI (pc' := 89) hM105 rfl rfl rfl ez9 ?_
    cases hm
    exact z_retI hM105 rfl rfl ⟨rfl, rfl⟩
  replace hm := o_f hm h7
  refine (Decidable.em (x1 = (3 : Int))).elim (fun h10 => ?_) (fun h10 => ?_)
  · replace hm := o_t hm h10
    refine z_swT (t := 90) (c := (3 : Int)) hM105 rfl h10 (by decide) rfl rfl ?_
    refine z_aload_n (pc' := 91) hM105 rfl rfl rfl ?_
    obtain ⟨w11, ew11, hm⟩ := o_v hm
    refine z_fldM (pc' := 94) (q := 0) hG.2.1 hM105 rfl rfl (Or.inl rfl) rfl rfl ew11 ?_
    refine z_fldR (pc' := 97) hM105 rfl (zf_5_2 hG) rfl rfl ?_
    obtain ⟨z12, ez12, hm⟩ := o_v hm
    refine z_fldI (pc' := 100) hM105 rfl rfl rfl ez12 ?_
    cases hm
    exact z_retI hM105 rfl rfl ⟨rfl, rfl⟩
  replace hm := o_f hm h10
  refine (Decidable.em (x1 = (4 : Int))).elim (fun h13 => ?_) (fun h13 => ?_)
  · replace hm := o_t hm h13
    refine z_swT (t := 101) (c := (4 : Int)) hM105 rfl h13 (by decide) rfl rfl ?_
    refine z_aload_n (pc' := 102) hM105 rfl rfl rfl ?_
    refine z_fldR (pc' := 105) hM105 rfl (zf_11_8 hG) rfl rfl ?_
    obtain ⟨z14, ez14, hm⟩ := o_v hm
    refine z_fldI (pc' := 108) hM105 rfl rfl rfl ez14 ?_
    cases hm
    exact z_retI hM105 rfl rfl ⟨rfl, rfl⟩
  replace hm := o_f hm h13
  refine (Decidable.em (x1 = (5 : Int))).elim (fun h15 => ?_) (fun h15 => ?_)
  · replace hm := o_t hm h15
    refine z_swT (t := 109) (c := (5 : Int)) hM105 rfl h15 (by decide) rfl rfl ?_
    refine z_aload_n (pc' := 110) hM105 rfl rfl rfl ?_
    refine z_fldR (pc' := 113) hM105 rfl (zf_11_8 hG) rfl rfl ?_
    obtain ⟨z16, ez16, hm⟩ := o_v hm
    refine z_fldI (pc' := 116) hM105 rfl rfl rfl ez16 ?_
    cases hm
    exact z_retI hM105 rfl rfl ⟨rfl, rfl⟩
  replace hm := o_f hm h15
  refine (Decidable.em (x1 = (6 : Int))).elim (fun h17 => ?_) (fun h17 => ?_)
  · replace hm := o_t hm h17
    refine z_swT (t := 117) (c := (6 : Int)) hM105 rfl h17 (by decide) rfl rfl ?_
    refine z_aload_n (pc' := 118) hM105 rfl rfl rfl ?_
    refine z_fldR (pc' := 121) hM105 rfl (zf_11_8 hG) rfl rfl ?_
    obtain ⟨z18, ez18, hm⟩ := o_v hm
    refine z_fldI (pc' := 124) hM105 rfl rfl rfl ez18 ?_
    cases hm
    exact z_retI hM105 rfl rfl ⟨rfl, rfl⟩
  replace hm := o_f hm h17
  refine (Decidable.em (x1 = (7 : Int))).elim (fun h19 => ?_) (fun h19 => ?_)
  · replace hm := o_t hm h19
    refine z_swT (t := 125) (c := (7 : Int)) hM105 rfl h19 (by decide) rfl rfl ?_
    refine z_aload_n (pc' := 126) hM105 rfl rfl rfl ?_
    obtain ⟨z20, s21, h22, hm⟩ := o_c hm
    refine z_cv (d := d + 2) (pc' := 129) hM105 rfl hM141 rfl rfl rfl rfl rfl rfl (c141 (d := d + 1) hG h22) rfl ?_
    cases hm
    exact z_retI hM105 rfl rfl ⟨rfl, rfl⟩
  replace hm := o_f hm h19
  refine (Decidable.em (x1 = (8 : Int))).elim (fun h23 => ?_) (fun h23 => ?_)
  · replace hm := o_t hm h23
    refine z_swT (t := 130) (c := (8 : Int)) hM105 rfl h23 (by decide) rfl rfl ?_
    refine z_aload_n (pc' := 131) hM105 rfl rfl rfl ?_
    refine z_fldR (pc' := 134) hM105 rfl (zf_11_4 hG) rfl rfl ?_
    refine z_aload_n (pc' := 135) hM105 rfl rfl rfl ?_
    refine z_fldR (pc' := 138) hM105 rfl (zf_11_8 hG) rfl rfl ?_
    obtain ⟨z24, s25, h26, hm⟩ := o_c hm
    refine z_cv (d := d + 2) (pc' := 141) hM105 rfl hM6 rfl rfl rfl rfl rfl rfl (c6 (d := d) hG h26) rfl ?_
    cases hm
    exact z_retI hM105 rfl rfl ⟨rfl, rfl⟩
  replace hm := o_f hm h23
  refine (Decidable.em (x1 = (9 : Int))).elim (fun h27 => ?_) (fun h27 => ?_)
  · replace hm := o_t hm h27
    refine z_swT (t := 142) (c := (9 : Int)) hM105 rfl h27 (by decide) rfl rfl ?_
    refine z_aload_n (pc' := 143) hM105 rfl rfl rfl ?_
    refine z_fldR (pc' := 146) hM105 rfl (zf_11_7 hG) rfl rfl ?_
    obtain ⟨z28, ez28, hm⟩ := o_v hm
    refine z_fldI (pc' := 149) hM105 rfl rfl rfl ez28 ?_
    cases hm
    exact z_retI hM105 rfl rfl ⟨rfl, rfl⟩
  replace hm := o_f hm h27
  refine (Decidable.em (x1 = (10 : Int))).elim (fun h29 => ?_) (fun h29 => ?_)
  · replace hm := o_t hm h29
    refine z_swT (t := 150) (c := (10 : Int)) hM105 rfl h29 (by decide) rfl rfl ?_
    refine z_aload_n (pc' := 151) hM105 rfl rfl rfl ?_
    obtain ⟨z30, ez30, hm⟩ := o_v hm
    refine z_fldI (pc' := 154) hM105 rfl rfl rfl ez30 ?_
    cases hm
    exact z_retI hM105 rfl rfl ⟨rfl, rfl⟩
  replace hm := o_f hm h29
  refine z_swF (t := 155) hM105 rfl (by omega) rfl ?_
  refine z_iconst (pc' := 156) hM105 rfl rfl rfl ?_
  cases hm
  exact z_retI hM105 rfl rfl ⟨rfl, rfl⟩
