/-! ===== methods (by gen_mir.py) ===== -/
def m106 (x1 : Int) (x2 : Int) (x3 : Int) (s : zS) : Option (Int × zS) := if x1 = (0 : Int) then oV (s.2.2 1) fun w2 => oC (m52 (w2 + 1) x2 x3 s) fun z3 s4 => some (z3, s4) else if x1 = (1 : Int) then oV (s.2.2 1) fun w7 => oC (m52 (w7 + 3) x2 x3 s) fun z8 s9 => some (z8, s9) else if x1 = (2 : Int) then oV (s.2.2 1) fun w12 => oC (m52 (w12 + 5) x2 x3 s) fun z13 s14 => some (z13, s14) else some ((-1 : Int), s)
theorem c106 {G : aHp} {d : Nat} (hG : zG G) {x1 : Int} {x2 : Int} {x3 : Int} {s : zS} {r_ : Int} {s_ : zS} (hm : m106 x1 x2 x3 s = some (r_, s_)) : Zp G (d + 3) 106 0 [some (zr 11 0 0), some (zi x1), some (zi x2), some (zi x3)] [] s (zRet (some (zi r_)) s_) := by
  replace hm : (if x1 = (0 : Int) then oV (s.2.2 1) fun w2 => oC (m52 (w2 + 1) x2 x3 s) fun z3 s4 => some (z3, s4) else if x1 = (1 : Int) then oV (s.2.2 1) fun w7 => oC (m52 (w7 + 3) x2 x3 s) fun z8 s9 => some (z8, s9) else if x1 = (2 : Int) then oV (s.2.2 1) fun w12 => oC (m52 (w12 + 5) x2 x3 s) fun z13 s14 => some (z13, s14) else some ((-1 : Int), s)) = some (r_, s_) := hm
  refine z_iload_n (pc' := 1) hM106 rfl rfl rfl ?_
  refine (Decidable.em (x1 = (0 : Int))).elim (fun h1 => ?_) (fun h1 => ?_)
  · replace hm := o_t hm h1
    refine z_swT (t := 28) (c := (0 : Int)) hM106 rfl h1 (by decide) rfl rfl ?_
    refine z_aload_n (pc' := 29) hM106 rfl rfl rfl ?_
    obtain ⟨w2, ew2, hm⟩ := o_v hm
    refine z_fldM (pc' := 32) (q := 0) hG.2.1 hM106 rfl rfl (Or.inl rfl) rfl rfl ew2 ?_
    refine z_fldR (pc' := 35) hM106 rfl (zf_5_0 hG) rfl rfl ?_
    refine z_iload_n (pc' := 36) hM106 rfl rfl rfl ?_
    refine z_iload_n (pc' := 37) hM106 rfl rfl rfl ?_
    obtain ⟨z3, s4, h5, hm⟩ := o_c hm
    refine z_cv (d := d + 2) (pc' := 40) hM106 rfl hM52 rfl rfl rfl rfl rfl rfl (c52 (d := d) hG h5) rfl ?_
    cases hm
    exact z_retI hM106 rfl rfl ⟨rfl, rfl⟩
  replace hm := o_f hm h1
  refine (Decidable.em (x1 = (1 : Int))).elim (fun h6 => ?_) (fun h6 => ?_)
  · replace hm := o_t hm h6
    refine z_swT (t := 41) (c := (1 : Int)) hM106 rfl h6 (by decide) rfl rfl ?_
    refine z_aload_n (pc' := 42) hM106 rfl rfl rfl ?_
    obtain ⟨w7, ew7, hm⟩ := o_v hm
    refine z_fldM (pc' := 45) (q := 0) hG.2.1 hM106 rfl rfl (Or.inl rfl) rfl rfl ew7 ?_
    refine z_fldR (pc' := 48) hM106 rfl (zf_5_1 hG) rfl rfl ?_
    refine z_iload_n (pc' := 49) hM106 rfl rfl rfl ?_
    refine z_iload_n (pc' := 50) hM106 rfl rfl rfl ?_
    obtain ⟨z8, s9, h10, hm⟩ := o_c hm
    refine z_cv (d := d + 2) (pc' := 53) hM106 rfl hM52 rfl rfl rfl rfl rfl rfl (c52 (d := d) hG h10) rfl ?_
    cases hm
    exact z_retI hM106 rfl rfl ⟨rfl, rfl⟩
  replace hm := o_f hm h6
  refine (Decidable.em (x1 = (2 : Int))).elim (fun h11 => ?_) (fun h11 => ?_)
  · replace hm := o_t hm h11
    refine z_swT (t := 54) (c := (2 : Int)) hM106 rfl h11 (by decide) rfl rfl ?_
    refine z_aload_n (pc' := 55) hM106 rfl rfl rfl ?_
    obtain ⟨w12, ew12, hm⟩ := o_v hm
    refine z_fldM (pc' := 58) (q := 0) hG.2.1 hM106 rfl rfl (Or.inl rfl) rfl rfl ew12 ?_
    refine z_fldR (pc' := 61) hM106 rfl (zf_5_2 hG) rfl rfl ?_
    refine z_iload_n (pc' := 62) hM106 rfl rfl rfl ?_
    refine z_iload_n (pc' := 63) hM106 rfl rfl rfl ?_
    obtain ⟨z13, s14, h15, hm⟩ := o_c hm
    refine z_cv (d := d + 2) (pc' := 66) hM106 rfl hM52 rfl rfl rfl rfl rfl rfl (c52 (d := d) hG h15) rfl ?_
    cases hm
    exact z_retI hM106 rfl rfl ⟨rfl, rfl⟩
  replace hm := o_f hm h11
  refine z_swF (t := 67) hM106 rfl (by omega) rfl ?_
  refine z_iconst (pc' := 68) hM106 rfl rfl rfl ?_
  cases hm
  exact z_retI hM106 rfl rfl ⟨rfl, rfl⟩
def m107 (x1 : Int) (x2 : Int) (s : zS) : Option (Int × zS) := oV (s.2.2 1) fun w1 => oC (m47 w1 x1 x2 s) fun z2 s3 => some (z2, s3)
theorem c107 {G : aHp} {d : Nat} (hG : zG G) {x1 : Int} {x2 : Int} {s : zS} {r_ : Int} {s_ : zS} (hm : m107 x1 x2 s = some (r_, s_)) : Zp G (d + 2) 107 0 [some (zr 11 0 0), some (zi x1), some (zi x2)] [] s (zRet (some (zi r_)) s_) := by
  replace hm : (oV (s.2.2 1) fun w1 => oC (m47 w1 x1 x2 s) fun z2 s3 => some (z2, s3)) = some (r_, s_) := hm
  refine z_aload_n (pc' := 1) hM107 rfl rfl rfl ?_
  obtain ⟨w1, ew1, hm⟩ := o_v hm
  refine z_fldM (pc' := 4) (q := 0) hG.2.1 hM107 rfl rfl (Or.inl rfl) rfl rfl ew1 ?_
  refine z_iload_n (pc' := 5) hM107 rfl rfl rfl ?_
  refine z_iload_n (pc' := 6) hM107 rfl rfl rfl ?_
  obtain ⟨z2, s3, h4, hm⟩ := o_c hm
  refine z_cv (d := d + 1) (pc' := 9) hM107 rfl hM47 rfl rfl rfl rfl rfl rfl (c47 (d := d) hG h4) rfl ?_
  cases hm
  exact z_retI hM107 rfl rfl ⟨rfl, rfl⟩
def m108 (x1 : Int) (x2 : Int) (s : zS) : Option (Int × zS) := oV (s.2.2 1) fun w1 => oC (m48 w1 x1 x2 s) fun z2 s3 => some (z2, s3)
theorem c108 {G : aHp} {d : Nat} (hG : zG G) {x1 : Int} {x2 : Int} {s : zS} {r_ : Int} {s_ : zS} (hm : m108 x1 x2 s = some (r_, s_)) : Zp G (d + 3) 108 0 [some (zr 11 0 0), some (zi x1), some (zi x2)] [] s (zRet (some (zi r_)) s_) := by
  replace hm : (oV (s.2.2 1) fun w1 => oC (m48 w1 x1 x2 s) fun z2 s3 => some (z2, s3)) = some (r_, s_) := hm
  refine z_aload_n (pc' := 1) hM108 rfl rfl rfl ?_
  obtain ⟨w1, ew1, hm⟩ := o_v hm
  refine z_fldM (pc' := 4) (q := 0) hG.2.1 hM108 rfl rfl (Or.inl rfl) rfl rfl ew1 ?_
  refine z_iload_n (pc' := 5) hM108 rfl rfl rfl ?_
  refine z_iload_n (pc' := 6) hM108 rfl rfl rfl ?_
  obtain ⟨z2, s3, h4, hm⟩ := o_c hm
  refine z_cv (d := d + 2) (pc' := 9) hM108 rfl hM48 rfl rfl rfl rfl rfl rfl (c48 (d := d) hG h4) rfl ?_
  cases hm
  exact z_retI hM108 rfl rfl ⟨rfl, rfl⟩
def m109 (x1 : Int) (x2 : Int) (s : zS) : Option (Int × zS) := oV (s.2.2 1) fun w1 => oC (m50 (w1 + 3) x1 s) fun z2 s3 => if z2 = (0 : Int) then some ((-1 : Int), s3) else if x2 = (0 : Int) then oV (s3.2.2 1) fun w7 => oX x1 8 (oV (s3.1 (w7 + 10) x1) fun z8 => some (z8, s3)) else if x2 = (1 : Int) then oV (s3.2.2 1) fun w11 => oX x1 8 (oV (s3.1 (w11 + 11) x1) fun z12 => some (z12, s3)) else if x2 = (2 : Int) then oX x1 8 (oV (s3.1 29 x1) fun z15 => some (z15, s3)) else if x2 = (3 : Int) then oV (s3.2.2 1) fun w18 => oV (s3.1 (w18 + 5) 0) fun z19 => oC (m58 28 x1 z19 s3) fun z20 s21 => some (z20, s21) else some ((-1 : Int), s3)
theorem c109 {G : aHp} {d : Nat} (hG : zG G) {x1 : Int} {x2 : Int} {s : zS} {r_ : Int} {s_ : zS} (hm : m109 x1 x2 s = some (r_, s_)) : Zp G (d + 2) 109 0 [some (zr 11 0 0), some (zi x1), some (zi x2)] [] s (zRet (some (zi r_)) s_) := by
  replace hm : (oV (s.2.2 1) fun w1 => oC (m50 (w1 + 3) x1 s) fun z2 s3 => if z2 = (0 : Int) then some ((-1 : Int), s3) else if x2 = (0 : Int) then oV (s3.2.2 1) fun w7 => oX x1 8 (oV (s3.1 (w7 + 10) x1) fun z8 => some (z8, s3)) else if x2 = (1 : Int) then oV (s3.2.2 1) fun w11 => oX x1 8 (oV (s3.1 (w11 + 11) x1) fun z12 => some (z12, s3)) else if x2 = (2 : Int) then oX x1 8 (oV (s3.1 29 x1) fun z15 => some (z15, s3)) else if x2 = (3 : Int) then oV (s3.2.2 1) fun w18 => oV (s3.1 (w18 + 5) 0) fun z19 => oC (m58 28 x1 z19 s3) fun z20 s21 => some (z20, s21) else some ((-1 : Int), s3)) = some (r_, s_) := hm
  refine z_aload_n (pc' := 1) hM109 rfl rfl rfl ?_
  obtain ⟨w1, ew1, hm⟩ := o_v hm
  refine z_fldM (pc' := 4) (q := 0) hG.2.1 hM109 rfl rfl (Or.inl rfl) rfl rfl ew1 ?_
  refine z_fldR (pc' := 7) hM109 rfl (zf_5_1 hG) rfl rfl ?_
  refine z_iload_n (pc' := 8) hM109 rfl rfl rfl ?_
  obtain ⟨z2, s3, h4, hm⟩ := o_c hm
  refine z_cv (d := d + 1) (pc' := 11) hM109 rfl hM50 rfl rfl rfl rfl rfl rfl (c50 (d := d) hG h4) rfl ?_
  refine z_ifne (pc' := 14) (t := 16) hM109 rfl rfl (fun h5 => ?_) (fun h5 => ?_)
  · replace hm := o_t hm h5
    refine z_iconst (pc' := 15) hM109 rfl rfl rfl ?_
    cases hm
    exact z_retI hM109 rfl rfl ⟨rfl, rfl⟩
  · replace hm := o_f hm h5
    refine z_iload_n (pc' := 17) hM109 rfl rfl rfl ?_
    refine (Decidable.em (x2 = (0 : Int))).elim (fun h6 => ?_) (fun h6 => ?_)
    · replace hm := o_t hm h6
      refine z_swT (t := 48) (c := (0 : Int)) hM109 rfl h6 (by decide) rfl rfl ?_
      refine z_aload_n (pc' := 49) hM109 rfl rfl rfl ?_
      obtain ⟨w7, ew7, hm⟩ := o_v hm
      refine z_fldM (pc' := 52) (q := 0) hG.2.1 hM109 rfl rfl (Or.inl rfl) rfl rfl ew7 ?_
      refine z_fldR (pc' := 55) hM109 rfl (zf_5_6 hG) rfl rfl ?_
      refine z_iload_n (pc' := 56) hM109 rfl rfl rfl ?_
      obtain ⟨h9, hm⟩ := o_x hm
      obtain ⟨z8, ez8, hm⟩ := o_v hm
      refine z_iald (pc' := 57) (zGN hG) hM109 rfl rfl h9 ez8 ?_
      cases hm
      exact z_retI hM109 rfl rfl ⟨rfl, rfl⟩
    replace hm := o_f hm h6
    refine (Decidable.em (x2 = (1 : Int))).elim (fun h10 => ?_) (fun h10 => ?_)
    · replace hm := o_t hm h10
      refine z_swT (t := 58) (c := (1 : Int)) hM109 rfl h10 (by decide) rfl rfl ?_
      refine z_aload_n (pc' := 59) hM109 rfl rfl rfl ?_
      obtain ⟨w11, ew11, hm⟩ := o_v hm
      refine z_fldM (pc' := 62) (q := 0) hG.2.1 hM109 rfl rfl (Or.inl rfl) rfl rfl ew11 ?_
      refine z_fldR (pc' := 65) hM109 rfl (zf_5_7 hG) rfl rfl ?_
      refine z_iload_n (pc' := 66) hM109 rfl rfl rfl ?_
      obtain ⟨h13, hm⟩ := o_x hm
      obtain ⟨z12, ez12, hm⟩ := o_v hm
      refine z_iald (pc' := 67) (zGN hG) hM109 rfl rfl h13 ez12 ?_
      cases hm
      exact z_retI hM109 rfl rfl ⟨rfl, rfl⟩
    replace hm := o_f hm h10
    refine (Decidable.em (x2 = (2 : Int))).elim (fun h14 => ?_) (fun h14 => ?_)
    · replace hm := o_t hm h14
      refine z_swT (t := 68) (c := (2 : Int)) hM109 rfl h14 (by decide) rfl rfl ?_
      refine z_aload_n (pc' := 69) hM109 rfl rfl rfl ?_
      refine z_fldR (pc' := 72) hM109 rfl (zf_11_8 hG) rfl rfl ?_
      refine z_fldR (pc' := 75) hM109 rfl (zf_7_0 hG) rfl rfl ?_
      refine z_iload_n (pc' := 76) hM109 rfl rfl rfl ?_
      obtain ⟨h16, hm⟩ := o_x hm
      obtain ⟨z15, ez15, hm⟩ := o_v hm
      refine z_iald (pc' := 77) (zGN hG) hM109 rfl rfl h16 ez15 ?_
      cases hm
      exact z_retI hM109 rfl rfl ⟨rfl, rfl⟩
    replace hm := o_f hm h14
    refine (Decidable.em (x2 = (3 : Int))).elim (fun h17 => ?_) (fun h17 => ?_)
    · replace hm := o_t hm h17
      refine z_swT (t := 78) (c := (3 : Int)) hM109 rfl h17 (by decide) rfl rfl ?_
      refine z_aload_n (pc' := 79) hM109 rfl rfl rfl ?_
      refine z_fldR (pc' := 82) hM109 rfl (zf_11_8 hG) rfl rfl ?_
      refine z_iload_n (pc' := 83) hM109 rfl rfl rfl ?_
      refine z_aload_n (pc' := 84) hM109 rfl rfl rfl ?_
      obtain ⟨w18, ew18, hm⟩ := o_v hm
      refine z_fldM (pc' := 87) (q := 0) hG.2.1 hM109 rfl rfl (Or.inl rfl) rfl rfl ew18 ?_
      refine z_fldR (pc' := 90) hM109 rfl (zf_5_2 hG) rfl rfl ?_
      obtain ⟨z19, ez19, hm⟩ := o_v hm
      refine z_fldI (pc' := 93) hM109 rfl rfl rfl ez19 ?_
      obtain ⟨z20, s21, h22, hm⟩ := o_c hm
      refine z_cv (d := d + 1) (pc' := 96) hM109 rfl hM58 rfl rfl rfl rfl rfl rfl (c58 (d := d) hG h22) rfl ?_
      cases hm
      exact z_retI hM109 rfl rfl ⟨rfl, rfl⟩
    replace hm := o_f hm h17
    refine z_swF (t := 97) hM109 rfl (by omega) rfl ?_
    refine z_iconst (pc' := 98) hM109 rfl rfl rfl ?_
    cases hm
    exact z_retI hM109 rfl rfl ⟨rfl, rfl⟩
def m110 (x1 : Int) (x2 : Int) (s : zS) : Option (Int × zS) := oV (s.2.2 1) fun w1 => oC (m50 (w1 + 5) x1 s) fun z2 s3 => if z2 = (0 : Int) then some ((-1 : Int), s3) else if x2 = (0 : Int) then oV (s3.2.2 1) fun w7 => oX x1 6 (oV (s3.1 (w7 + 13) x1) fun z8 => some (z8, s3)) else if x2 = (1 : Int) then oV (s3.2.2 1) fun w11 => oX x1 6 (oV (s3.1 (w11 + 14) x1) fun z12 => some (z12, s3)) else if x2 = (2 : Int) then oV (s3.2.2 1) fun w15 => oX x1 6 (oV (s3.1 (w15 + 15) x1) fun z16 => some (z16, s3)) else if x2 = (3 : Int) then oX x1 6 (oV (s3.1 30 x1) fun z19 => some (z19, s3)) else if x2 = (4 : Int) then oX x1 6 (oV (s3.1 31 x1) fun z22 => some (z22, s3)) else if x2 = (5 : Int) then oX x1 6 (oV (s3.1 32 x1) fun z25 => some (z25, s3)) else if x2 = (6 : Int) then oC (m5 28 x1 s3) fun z28 s29 => if z28 = (0 : Int) then some ((0 : Int), s29) else some ((1 : Int), s29) else some ((-1 : Int), s3)
theorem c110 {G : aHp} {d : Nat} (hG : zG G) {x1 : Int} {x2 : Int} {s : zS} {r_ : Int} {s_ : zS} (hm : m110 x1 x2 s = some (r_, s_)) : Zp G (d + 2) 110 0 [some (zr 11 0 0), some (zi x1), some (zi x2)] [] s (zRet (some (zi r_)) s_) := by
  replace hm : (oV (s.2.2 1) fun w1 => oC (m50 (w1 + 5) x1 s) fun z2 s3 => if z2 = (0 : Int) then some ((-1 : Int), s3) else if x2 = (0 : Int) then oV (s3.2.2 1) fun w7 => oX x1 6 (oV (s3.1 (w7 + 13) x1) fun z8 => some (z8, s3)) else if x2 = (1 : Int) then oV (s3.2.2 1) fun w11 => oX x1 6 (oV (s3.1 (w11 + 14) x1) fun z12 => some (z12, s3)) else if x2 = (2 : Int) then oV (s3.2.2 1) fun w15 => oX x1 6 (oV (s3.1 (w15 + 15) x1) fun z16 => some (z16, s3)) else if x2 = (3 : Int) then oX x1 6 (oV (s3.1 30 x1) fun z19 => some (z19, s3)) else if x2 = (4 : Int) then oX x1 6 (oV (s3.1 31 x1) fun z22 => some (z22, s3)) else if x2 = (5 : Int) then oX x1 6 (oV (s3.1 32 x1) fun z25 => some (z25, s3)) else if x2 = (6 : Int) then oC (m5 28 x1 s3) fun z28 s29 => if z28 = (0 : Int) then some ((0 : Int), s29) else some ((1 : Int), s29) else some ((-1 : Int), s3)) = some (r_, s_) := hm
  refine z_aload_n (pc' := 1) hM110 rfl rfl rfl ?_
  obtain ⟨w1, ew1, hm⟩ := o_v hm
  refine z_fldM (pc' := 4) (q := 0) hG.2.1 hM110 rfl rfl (Or.inl rfl) rfl rfl ew1 ?_
  refine z_fldR (pc' := 7) hM110 rfl (zf_5_2 hG) rfl rfl ?_
  refine z_iload_n (pc' := 8) hM110 rfl rfl rfl ?_
  obtain ⟨z2, s3, h4, hm⟩ := o_c hm
  refine z_cv (d := d + 1) (pc' := 11) hM110 rfl hM50 rfl rfl rfl rfl rfl rfl (c50 (d := d) hG h4) rfl ?_
  refine z_ifne (pc' := 14) (t := 16) hM110 rfl rfl (fun h5 => ?_) (fun h5 => ?_)
  · replace hm := o_t hm h5
    refine z_iconst (pc' := 15) hM110 rfl rfl rfl ?_
    cases hm
    exact z_retI hM110 rfl rfl ⟨rfl, rfl⟩
  · replace hm := o_f hm h5
    refine z_iload_n (pc' := 17) hM110 rfl rfl rfl ?_
    refine (Decidable.em (x2 = (0 : Int))).elim (fun h6 => ?_) (fun h6 => ?_)
    · replace hm := o_t hm h6
      refine z_swT (t := 60) (c := (0 : Int)) hM110 rfl h6 (by decide) rfl rfl ?_
      refine z_aload_n (pc' := 61) hM110 rfl rfl rfl ?_
      obtain ⟨w7, ew7, hm⟩ := o_v hm
      refine z_fldM (pc' := 64) (q := 0) hG.2.1 hM110 rfl rfl (Or.inl rfl) rfl rfl ew7 ?_
      refine z_fldR (pc' := 67) hM110 rfl (zf_5_9 hG) rfl rfl ?_
      refine z_iload_n (pc' := 68) hM110 rfl rfl rfl ?_
      obtain ⟨h9, hm⟩ := o_x hm
      obtain ⟨z8, ez8, hm⟩ := o_v hm
      refine z_iald (pc' := 69) (zGN hG) hM110 rfl rfl h9 ez8 ?_
      cases hm
      exact z_retI hM110 rfl rfl ⟨rfl, rfl⟩
    replace hm := o_f hm h6
    refine (Decidable.em (x2 = (1 : Int))).elim (fun h10 => ?_) (fun h10 => ?_)
    · replace hm := o_t hm h10
      refine z_swT (t := 70) (c := (1 : Int)) hM110 rfl h10 (by decide) rfl rfl ?_
      refine z_aload_n (pc' := 71) hM110 rfl rfl rfl ?_
      obtain ⟨w11, ew11, hm⟩ := o_v hm
      refine z_fldM (pc' := 74) (q := 0) hG.2.1 hM110 rfl rfl (Or.inl rfl) rfl rfl ew11 ?_
      refine z_fldR (pc' := 77) hM110 rfl (zf_5_10 hG) rfl rfl ?_
      refine z_iload_n (pc' := 78) hM110 rfl rfl rfl ?_
      obtain ⟨h13, hm⟩ := o_x hm
      obtain ⟨z12, ez12, hm⟩ := o_v hm
      refine z_iald (pc' := 79) (zGN hG) hM110 rfl rfl h13 ez12 ?_
      cases hm
      exact z_retI hM110 rfl rfl ⟨rfl, rfl⟩
    replace hm := o_f hm h10
    refine (Decidable.em (x2 = (2 : Int))).elim (fun h14 => ?_) (fun h14 => ?_)
    · replace hm := o_t hm h14
      refine z_swT (t := 80) (c := (2 : Int)) hM110 rfl h14 (by decide) rfl rfl ?_
      refine z_aload_n (pc' := 81) hM110 rfl rfl rfl ?_
      obtain ⟨w15, ew15, hm⟩ := o_v hm
      refine z_fldM (pc' := 84) (q := 0) hG.2.1 hM110 rfl rfl (Or.inl rfl) rfl rfl ew15 ?_
      refine z_fldR (pc' := 87) hM110 rfl (zf_5_11 hG) rfl rfl ?_
      refine z_iload_n (pc' := 88) hM110 rfl rfl rfl ?_
      obtain ⟨h17, hm⟩ := o_x hm
      obtain ⟨z16, ez16, hm⟩ := o_v hm
      refine z_iald (pc' := 89) (zGN hG) hM110 rfl rfl h17 ez16 ?_
      cases hm
      exact z_retI hM110 rfl rfl ⟨rfl, rfl⟩
    replace hm := o_f hm h14
    refine (Decidable.em (x2 = (3 : Int))).elim (fun h18 => ?_) (fun h18 => ?_)
    · replace hm := o_t hm h18
      refine z_swT (t := 90) (c := (3 : Int)) hM110 rfl h18 (by decide) rfl rfl ?_
      refine z_aload_n (pc' := 91) hM110 rfl rfl rfl ?_
      refine z_fldR (pc' := 94) hM110 rfl (zf_11_8 hG) rfl rfl ?_
      refine z_fldR (pc' := 97) hM110 rfl (zf_7_1 hG) rfl rfl ?_
      refine z_iload_n (pc' := 98) hM110 rfl rfl rfl ?_
      obtain ⟨h20, hm⟩ := o_x hm
      obtain ⟨z19, ez19, hm⟩ := o_v hm
      refine z_iald (pc' := 99) (zGN hG) hM110 rfl rfl h20 ez19 ?_
      cases hm
      exact z_retI hM110 rfl rfl ⟨rfl, rfl⟩
    replace hm := o_f hm h18
    refine (Decidable.em (x2 = (4 : Int))).elim (fun h21 => ?_) (fun h21 => ?_)
    · replace hm := o_t hm h21
      refine z_swT (t := 100) (c := (4 : Int)) hM110 rfl h21 (by decide) rfl rfl ?_
      refine z_aload_n (pc' := 101) hM110 rfl rfl rfl ?_
      refine z_fldR (pc' := 104) hM110 rfl (zf_11_8 hG) rfl rfl ?_
      refine z_fldR (pc' := 107) hM110 rfl (zf_7_2 hG) rfl rfl ?_
      refine z_iload_n (pc' := 108) hM110 rfl rfl rfl ?_
      obtain ⟨h23, hm⟩ := o_x hm
      obtain ⟨z22, ez22, hm⟩ := o_v hm
      refine z_iald (pc' := 109) (zGN hG) hM110 rfl rfl h23 ez22 ?_
      cases hm
      exact z_retI hM110 rfl rfl ⟨rfl, rfl⟩
    replace hm := o_f hm h21
    refine (Decidable.em (x2 = (5 : Int))).elim (fun h24 => ?_) (fun h24 => ?_)
    · replace hm := o_t hm h24
      refine z_swT (t := 110) (c := (5 : Int)) hM110 rfl h24 (by decide) rfl rfl ?_
      refine z_aload_n (pc' := 111) hM110 rfl rfl rfl ?_
      refine z_fldR (pc' := 114) hM110 rfl (zf_11_8 hG) rfl rfl ?_
      refine z_fldR (pc' := 117) hM110 rfl (zf_7_3 hG) rfl rfl ?_
      refine z_iload_n (pc' := 118) hM110 rfl rfl rfl ?_
      obtain ⟨h26, hm⟩ := o_x hm
      obtain ⟨z25, ez25, hm⟩ := o_v hm
      refine z_iald (pc' := 119) (zGN hG) hM110 rfl rfl h26 ez25 ?_
      cases hm
      exact z_retI hM110 rfl rfl ⟨rfl, rfl⟩
    replace hm := o_f hm h24
    refine (Decidable.em (x2 = (6 : Int))).elim (fun h27 => ?_) (fun h27 => ?_)
    · replace hm := o_t hm h27
      refine z_swT (t := 120) (c := (6 : Int)) hM110 rfl h27 (by decide) rfl rfl ?_
      refine z_aload_n (pc' := 121) hM110 rfl rfl rfl ?_
      refine z_fldR (pc' := 124) hM110 rfl (zf_11_4 hG) rfl rfl ?_
      refine z_aload_n (pc' := 125) hM110 rfl rfl rfl ?_
      refine z_fldR (pc' := 128) hM110 rfl (zf_11_8 hG) rfl rfl ?_
      refine z_iload_n (pc' := 129) hM110 rfl rfl rfl ?_
      obtain ⟨z28, s29, h30, hm⟩ := o_c hm
      refine z_cv (d := d + 1) (pc' := 132) hM110 rfl hM5 rfl rfl rfl rfl rfl rfl (c5 (d := d) hG h30) rfl ?_
      refine z_ifeq (pc' := 135) (t := 139) hM110 rfl rfl (fun h31 => ?_) (fun h31 => ?_)
      · replace hm := o_t hm h31
        refine z_iconst (pc' := 140) hM110 rfl rfl rfl ?_
        cases hm
        exact z_retI hM110 rfl rfl ⟨rfl, rfl⟩
      · replace hm := o_f hm h31
        refine z_iconst (pc' := 136) hM110 rfl rfl rfl ?_
        refine z_goto (t := 140) hM110 rfl ?_
        cases hm
        exact z_retI hM110 rfl rfl ⟨rfl, rfl⟩
    replace hm := o_f hm h27
    refine z_swF (t := 141) hM110 rfl (by omega) rfl ?_
    refine z_iconst (pc' := 142) hM110 rfl rfl rfl ?_
    cases hm
    exact z_retI hM110 rfl rfl ⟨rfl, rfl⟩
def m111 (x1 : Int) (s : zS) : Option (Int × zS) := if x1 < (0 : Int) then some ((-1 : Int), s) else oV (s.1 28 5) fun z2 => if x1 < z2 then oX x1 8 (oV (s.1 33 x1) fun z4 => some (z4, s)) else some ((-1 : Int), s)
theorem c111 {G : aHp} {d : Nat} (hG : zG G) {x1 : Int} {s : zS} {r_ : Int} {s_ : zS} (hm : m111 x1 s = some (r_, s_)) : Zp G (d + 1) 111 0 [some (zr 11 0 0), some (zi x1)] [] s (zRet (some (zi r_)) s_) := by
  replace hm : (if x1 < (0 : Int) then some ((-1 : Int), s) else oV (s.1 28 5) fun z2 => if x1 < z2 then oX x1 8 (oV (s.1 33 x1) fun z4 => some (z4, s)) else some ((-1 : Int), s)) = some (r_, s_) := hm
  refine z_iload_n (pc' := 1) hM111 rfl rfl rfl ?_
  refine z_iflt (pc' := 4) (t := 27) hM111 rfl rfl (fun h1 => ?_) (fun h1 => ?_)
  · replace hm := o_t hm h1
    refine z_iconst (pc' := 28) hM111 rfl rfl rfl ?_
    cases hm
    exact z_retI hM111 rfl rfl ⟨rfl, rfl⟩
  · replace hm := o_f hm h1
    refine z_iload_n (pc' := 5) hM111 rfl rfl rfl ?_
    refine z_aload_n (pc' := 6) hM111 rfl rfl rfl ?_
    refine z_fldR (pc' := 9) hM111 rfl (zf_11_8 hG) rfl rfl ?_
    obtain ⟨z2, ez2, hm⟩ := o_v hm
    refine z_fldI (pc' := 12) hM111 rfl rfl rfl ez2 ?_
    refine z_cmpge (pc' := 15) (t := 27) hM111 rfl rfl (fun h3 => ?_) (fun h3 => ?_)
    · replace hm := o_t hm h3
      refine z_aload_n (pc' := 16) hM111 rfl rfl rfl ?_
      refine z_fldR (pc' := 19) hM111 rfl (zf_11_8 hG) rfl rfl ?_
      refine z_fldR (pc' := 22) hM111 rfl (zf_7_4 hG) rfl rfl ?_
      refine z_iload_n (pc' := 23) hM111 rfl rfl rfl ?_
      obtain ⟨h5, hm⟩ := o_x hm
      obtain ⟨z4, ez4, hm⟩ := o_v hm
      refine z_iald (pc' := 24) (zGN hG) hM111 rfl rfl h5 ez4 ?_
      refine z_goto (t := 28) hM111 rfl ?_
      cases hm
      exact z_retI hM111 rfl rfl ⟨rfl, rfl⟩
    · replace hm := o_f hm h3
      refine z_iconst (pc' := 28) hM111 rfl rfl rfl ?_
      cases hm
      exact z_retI hM111 rfl rfl ⟨rfl, rfl⟩
def m137 (x1 : Int) (s : zS) : Option (Int × zS) := oV (s.2.2 1) fun w1 => oC (m50 (w1 + 5) x1 s) fun z2 s3 => if z2 = (0 : Int) then some ((0 : Int), s3) else oX x1 6 (oV (s3.1 31 x1) fun z6 => if z6 = (-1 : Int) then some ((1 : Int), s3) else some ((0 : Int), s3))
theorem c137 {G : aHp} {d : Nat} (hG : zG G) {x1 : Int} {s : zS} {r_ : Int} {s_ : zS} (hm : m137 x1 s = some (r_, s_)) : Zp G (d + 2) 137 0 [some (zr 11 0 0), some (zi x1)] [] s (zRet (some (zi r_)) s_) := by
  replace hm : (oV (s.2.2 1) fun w1 => oC (m50 (w1 + 5) x1 s) fun z2 s3 => if z2 = (0 : Int) then some ((0 : Int), s3) else oX x1 6 (oV (s3.1 31 x1) fun z6 => if z6 = (-1 : Int) then some ((1 : Int), s3) else some ((0 : Int), s3))) = some (r_, s_) := hm
  refine z_aload_n (pc' := 1) hM137 rfl rfl rfl ?_
  obtain ⟨w1, ew1, hm⟩ := o_v hm
  refine z_fldM (pc' := 4) (q := 0) hG.2.1 hM137 rfl rfl (Or.inl rfl) rfl rfl ew1 ?_
  refine z_fldR (pc' := 7) hM137 rfl (zf_5_2 hG) rfl rfl ?_
  refine z_iload_n (pc' := 8) hM137 rfl rfl rfl ?_
  obtain ⟨z2, s3, h4, hm⟩ := o_c hm
  refine z_cv (d := d + 1) (pc' := 11) hM137 rfl hM50 rfl rfl rfl rfl rfl rfl (c50 (d := d) hG h4) rfl ?_
  refine z_ifeq (pc' := 14) (t := 31) hM137 rfl rfl (fun h5 => ?_) (fun h5 => ?_)
  · replace hm := o_t hm h5
    refine z_iconst (pc' := 32) hM137 rfl rfl rfl ?_
    cases hm
    exact z_retZ hM137 rfl rfl (Or.inl rfl) ⟨rfl, rfl⟩
  · replace hm := o_f hm h5
    refine z_aload_n (pc' := 15) hM137 rfl rfl rfl ?_
    refine z_fldR (pc' := 18) hM137 rfl (zf_11_8 hG) rfl rfl ?_
    refine z_fldR (pc' := 21) hM137 rfl (zf_7_2 hG) rfl rfl ?_
    refine z_iload_n (pc' := 22) hM137 rfl rfl rfl ?_
    obtain ⟨h7, hm⟩ := o_x hm
    obtain ⟨z6, ez6, hm⟩ := o_v hm
    refine z_iald (pc' := 23) (zGN hG) hM137 rfl rfl h7 ez6 ?_
    refine z_iconst (pc' := 24) hM137 rfl rfl rfl ?_
    refine z_cmpne (pc' := 27) (t := 31) hM137 rfl rfl (fun h8 => ?_) (fun h8 => ?_)
    · replace hm := o_t hm h8
      refine z_iconst (pc' := 28) hM137 rfl rfl rfl ?_
      refine z_goto (t := 32) hM137 rfl ?_
      cases hm
      exact z_retZ hM137 rfl rfl (Or.inr rfl) ⟨rfl, rfl⟩
    · replace hm := o_f hm h8
      refine z_iconst (pc' := 32) hM137 rfl rfl rfl ?_
      cases hm
      exact z_retZ hM137 rfl rfl (Or.inl rfl) ⟨rfl, rfl⟩
def m112 (x1 : Int) (s : zS) : Option (Int × zS) := oC (m137 x1 s) fun z1 s2 => if z1 = (0 : Int) then some ((-1 : Int), s2) else oV (s2.2.2 1) fun w5 => oV (s2.1 28 7) fun z6 => oC (m61 28 w5 x1 z6 s2) fun z7 s8 => if z7 = (-1 : Int) then some ((-1 : Int), s8) else oX z7 8 (oV (s8.1 33 z7) fun z11 => some (z11, s8))
theorem c112 {G : aHp} {d : Nat} (hG : zG G) {x1 : Int} {s : zS} {r_ : Int} {s_ : zS} (hm : m112 x1 s = some (r_, s_)) : Zp G (d + 4) 112 0 [some (zr 11 0 0), some (zi x1), none] [] s (zRet (some (zi r_)) s_) := by
  replace hm : (oC (m137 x1 s) fun z1 s2 => if z1 = (0 : Int) then some ((-1 : Int), s2) else oV (s2.2.2 1) fun w5 => oV (s2.1 28 7) fun z6 => oC (m61 28 w5 x1 z6 s2) fun z7 s8 => if z7 = (-1 : Int) then some ((-1 : Int), s8) else oX z7 8 (oV (s8.1 33 z7) fun z11 => some (z11, s8))) = some (r_, s_) := hm
  refine z_aload_n (pc' := 1) hM112 rfl rfl rfl ?_
  refine z_iload_n (pc' := 2) hM112 rfl rfl rfl ?_
  obtain ⟨z1, s2, h3, hm⟩ := o_c hm
  refine z_cv (d := d + 3) (pc' := 5) hM112 rfl hM137 rfl rfl rfl rfl rfl rfl (c137 (d := d + 1) hG h3) rfl ?_
  refine z_ifne (pc' := 8) (t := 10) hM112 rfl rfl (fun h4 => ?_) (fun h4 => ?_)
  · replace hm := o_t hm h4
    refine z_iconst (pc' := 9) hM112 rfl rfl rfl ?_
    cases hm
    exact z_retI hM112 rfl rfl ⟨rfl, rfl⟩
  · replace hm := o_f hm h4
    refine z_aload_n (pc' := 11) hM112 rfl rfl rfl ?_
    refine z_fldR (pc' := 14) hM112 rfl (zf_11_8 hG) rfl rfl ?_
    refine z_aload_n (pc' := 15) hM112 rfl rfl rfl ?_
    obtain ⟨w5, ew5, hm⟩ := o_v hm
    refine z_fldM (pc' := 18) (q := 0) hG.2.1 hM112 rfl rfl (Or.inl rfl) rfl rfl ew5 ?_
    refine z_iload_n (pc' := 19) hM112 rfl rfl rfl ?_
    refine z_aload_n (pc' := 20) hM112 rfl rfl rfl ?_
    refine z_fldR (pc' := 23) hM112 rfl (zf_11_8 hG) rfl rfl ?_
    obtain ⟨z6, ez6, hm⟩ := o_v hm
    refine z_fldI (pc' := 26) hM112 rfl rfl rfl ez6 ?_
    obtain ⟨z7, s8, h9, hm⟩ := o_c hm
    refine z_cv (d := d + 3) (pc' := 29) hM112 rfl hM61 rfl rfl rfl rfl rfl rfl (c61 (d := d) hG h9) rfl ?_
    refine z_istore_n (pc' := 30) (l' := [some (zr 11 0 0), some (zi x1), some (zi z7)]) hM112 rfl rfl rfl rfl ?_
    refine z_iload_n (pc' := 31) hM112 rfl rfl rfl ?_
    refine z_iconst (pc' := 32) hM112 rfl rfl rfl ?_
    refine z_cmpne (pc' := 35) (t := 39) hM112 rfl rfl (fun h10 => ?_) (fun h10 => ?_)
    · replace hm := o_t hm h10
      refine z_iconst (pc' := 36) hM112 rfl rfl rfl ?_
      refine z_goto (t := 48) hM112 rfl ?_
      cases hm
      exact z_retI hM112 rfl rfl ⟨rfl, rfl⟩
    · replace hm := o_f hm h10
      refine z_aload_n (pc' := 40) hM112 rfl rfl rfl ?_
      refine z_fldR (pc' := 43) hM112 rfl (zf_11_8 hG) rfl rfl ?_
      refine z_fldR (pc' := 46) hM112 rfl (zf_7_4 hG) rfl rfl ?_
      refine z_iload_n (pc' := 47) hM112 rfl rfl rfl ?_
      obtain ⟨h12, hm⟩ := o_x hm
      obtain ⟨z11, ez11, hm⟩ := o_v hm
      refine z_iald (pc' := 48) (zGN hG) hM112 rfl rfl h12 ez11 ?_
      cases hm
      exact z_retI hM112 rfl rfl ⟨rfl, rfl⟩
def m138 (x1 : Int) (x2 : Int) (s : zS) : Option (Int × zS) := oV (s.2.2 1) fun w1 => oC (m50 (w1 + 5) x1 s) fun z2 s3 => if z2 = (0 : Int) then some ((0 : Int), s3) else oV (s3.2.2 1) fun w6 => oC (m50 (w6 + 3) x2 s3) fun z7 s8 => if z7 = (0 : Int) then some ((0 : Int), s8) else some ((1 : Int), s8)
theorem c138 {G : aHp} {d : Nat} (hG : zG G) {x1 : Int} {x2 : Int} {s : zS} {r_ : Int} {s_ : zS} (hm : m138 x1 x2 s = some (r_, s_)) : Zp G (d + 2) 138 0 [some (zr 11 0 0), some (zi x1), some (zi x2)] [] s (zRet (some (zi r_)) s_) := by
  replace hm : (oV (s.2.2 1) fun w1 => oC (m50 (w1 + 5) x1 s) fun z2 s3 => if z2 = (0 : Int) then some ((0 : Int), s3) else oV (s3.2.2 1) fun w6 => oC (m50 (w6 + 3) x2 s3) fun z7 s8 => if z7 = (0 : Int) then some ((0 : Int), s8) else some ((1 : Int), s8)) = some (r_, s_) := hm
  refine z_aload_n (pc' := 1) hM138 rfl rfl rfl ?_
  obtain ⟨w1, ew1, hm⟩ := o_v hm
  refine z_fldM (pc' := 4) (q := 0) hG.2.1 hM138 rfl rfl (Or.inl rfl) rfl rfl ew1 ?_
  refine z_fldR (pc' := 7) hM138 rfl (zf_5_2 hG) rfl rfl ?_
  refine z_iload_n (pc' := 8) hM138 rfl rfl rfl ?_
  obtain ⟨z2, s3, h4, hm⟩ := o_c hm
  refine z_cv (d := d + 1) (pc' := 11) hM138 rfl hM50 rfl rfl rfl rfl rfl rfl (c50 (d := d) hG h4) rfl ?_
  refine z_ifeq (pc' := 14) (t := 32) hM138 rfl rfl (fun h5 => ?_) (fun h5 => ?_)
  · replace hm := o_t hm h5
    refine z_iconst (pc' := 33) hM138 rfl rfl rfl ?_
    cases hm
    exact z_retZ hM138 rfl rfl (Or.inl rfl) ⟨rfl, rfl⟩
  · replace hm := o_f hm h5
    refine z_aload_n (pc' := 15) hM138 rfl rfl rfl ?_
    obtain ⟨w6, ew6, hm⟩ := o_v hm
    refine z_fldM (pc' := 18) (q := 0) hG.2.1 hM138 rfl rfl (Or.inl rfl) rfl rfl ew6 ?_
    refine z_fldR (pc' := 21) hM138 rfl (zf_5_1 hG) rfl rfl ?_
    refine z_iload_n (pc' := 22) hM138 rfl rfl rfl ?_
    obtain ⟨z7, s8, h9, hm⟩ := o_c hm
    refine z_cv (d := d + 1) (pc' := 25) hM138 rfl hM50 rfl rfl rfl rfl rfl rfl (c50 (d := d) hG h9) rfl ?_
    refine z_ifeq (pc' := 28) (t := 32) hM138 rfl rfl (fun h10 => ?_) (fun h10 => ?_)
    · replace hm := o_t hm h10
      refine z_iconst (pc' := 33) hM138 rfl rfl rfl ?_
      cases hm
      exact z_retZ hM138 rfl rfl (Or.inl rfl) ⟨rfl, rfl⟩
    · replace hm := o_f hm h10
      refine z_iconst (pc' := 29) hM138 rfl rfl rfl ?_
      refine z_goto (t := 33) hM138 rfl ?_
      cases hm
      exact z_retZ hM138 rfl rfl (Or.inr rfl) ⟨rfl, rfl⟩
def m113 (x1 : Int) (x2 : Int) (s : zS) : Option (Int × zS) := oC (m138 x1 x2 s) fun z1 s2 => if z1 = (0 : Int) then some ((-1 : Int), s2) else oV (s2.2.2 1) fun w5 => oX x1 6 (oV (s2.1 (w5 + 14) x1) fun z6 => oC (m99 28 x1 x2 x2 z6 s2) fun z8 s9 => some (z8, s9))
theorem c113 {G : aHp} {d : Nat} (hG : zG G) {x1 : Int} {x2 : Int} {s : zS} {r_ : Int} {s_ : zS} (hm : m113 x1 x2 s = some (r_, s_)) : Zp G (d + 7) 113 0 [some (zr 11 0 0), some (zi x1), some (zi x2)] [] s (zRet (some (zi r_)) s_) := by
  replace hm : (oC (m138 x1 x2 s) fun z1 s2 => if z1 = (0 : Int) then some ((-1 : Int), s2) else oV (s2.2.2 1) fun w5 => oX x1 6 (oV (s2.1 (w5 + 14) x1) fun z6 => oC (m99 28 x1 x2 x2 z6 s2) fun z8 s9 => some (z8, s9))) = some (r_, s_) := hm
  refine z_aload_n (pc' := 1) hM113 rfl rfl rfl ?_
  refine z_iload_n (pc' := 2) hM113 rfl rfl rfl ?_
  refine z_iload_n (pc' := 3) hM113 rfl rfl rfl ?_
  obtain ⟨z1, s2, h3, hm⟩ := o_c hm
  refine z_cv (d := d + 6) (pc' := 6) hM113 rfl hM138 rfl rfl rfl rfl rfl rfl (c138 (d := d + 4) hG h3) rfl ?_
  refine z_ifne (pc' := 9) (t := 11) hM113 rfl rfl (fun h4 => ?_) (fun h4 => ?_)
  · replace hm := o_t hm h4
    refine z_iconst (pc' := 10) hM113 rfl rfl rfl ?_
    cases hm
    exact z_retI hM113 rfl rfl ⟨rfl, rfl⟩
  · replace hm := o_f hm h4
    refine z_aload_n (pc' := 12) hM113 rfl rfl rfl ?_
    refine z_fldR (pc' := 15) hM113 rfl (zf_11_5 hG) rfl rfl ?_
    refine z_aload_n (pc' := 16) hM113 rfl rfl rfl ?_
    refine z_fldR (pc' := 19) hM113 rfl (zf_11_8 hG) rfl rfl ?_
    refine z_iload_n (pc' := 20) hM113 rfl rfl rfl ?_
    refine z_iload_n (pc' := 21) hM113 rfl rfl rfl ?_
    refine z_iload_n (pc' := 22) hM113 rfl rfl rfl ?_
    refine z_aload_n (pc' := 23) hM113 rfl rfl rfl ?_
    obtain ⟨w5, ew5, hm⟩ := o_v hm
    refine z_fldM (pc' := 26) (q := 0) hG.2.1 hM113 rfl rfl (Or.inl rfl) rfl rfl ew5 ?_
    refine z_fldR (pc' := 29) hM113 rfl (zf_5_10 hG) rfl rfl ?_
    refine z_iload_n (pc' := 30) hM113 rfl rfl rfl ?_
    obtain ⟨h7, hm⟩ := o_x hm
    obtain ⟨z6, ez6, hm⟩ := o_v hm
    refine z_iald (pc' := 31) (zGN hG) hM113 rfl rfl h7 ez6 ?_
    obtain ⟨z8, s9, h10, hm⟩ := o_c hm
    refine z_cv (d := d + 6) (pc' := 34) hM113 rfl hM99 rfl rfl rfl rfl rfl rfl (c99 (d := d) hG h10) rfl ?_
    cases hm
    exact z_retI hM113 rfl rfl ⟨rfl, rfl⟩
def m114 (x1 : Int) (x2 : Int) (x3 : Int) (s : zS) : Option (Int × zS) := oC (m138 x1 x2 s) fun z1 s2 => if z1 = (0 : Int) then some ((-1 : Int), s2) else if x3 < (0 : Int) then some ((-1 : Int), s2) else if (30 : Int) < x3 then some ((-1 : Int), s2) else oV (s2.2.2 1) fun w7 => oX x1 6 (oV (s2.1 (w7 + 14) x1) fun z8 => oC (m99 28 x1 x2 x2 z8 s2) fun z10 s11 => oX x3 31 (oV (s11.1 13 x3) fun z13 => some (z13, s11)))
theorem c114 {G : aHp} {d : Nat} (hG : zG G) {x1 : Int} {x2 : Int} {x3 : Int} {s : zS} {r_ : Int} {s_ : zS} (hm : m114 x1 x2 x3 s = some (r_, s_)) : Zp G (d + 7) 114 0 [some (zr 11 0 0), some (zi x1), some (zi x2), some (zi x3)] [] s (zRet (some (zi r_)) s_) := by
  replace hm : (oC (m138 x1 x2 s) fun z1 s2 => if z1 = (0 : Int) then some ((-1 : Int), s2) else if x3 < (0 : Int) then some ((-1 : Int), s2) else if (30 : Int) < x3 then some ((-1 : Int), s2) else oV (s2.2.2 1) fun w7 => oX x1 6 (oV (s2.1 (w7 + 14) x1) fun z8 => oC (m99 28 x1 x2 x2 z8 s2) fun z10 s11 => oX x3 31 (oV (s11.1 13 x3) fun z13 => some (z13, s11)))) = some (r_, s_) := hm
  refine z_aload_n (pc' := 1) hM114 rfl rfl rfl ?_
  refine z_iload_n (pc' := 2) hM114 rfl rfl rfl ?_
  refine z_iload_n (pc' := 3) hM114 rfl rfl rfl ?_
  obtain ⟨z1, s2, h3, hm⟩ := o_c hm
  refine z_cv (d := d + 6) (pc' := 6) hM114 rfl hM138 rfl rfl rfl rfl rfl rfl (c138 (d := d + 4) hG h3) rfl ?_
  refine z_ifeq (pc' := 9) (t := 19) hM114 rfl rfl (fun h4 => ?_) (fun h4 => ?_)
  · replace hm := o_t hm h4
    refine z_iconst (pc' := 20) hM114 rfl rfl rfl ?_
    cases hm
    exact z_retI hM114 rfl rfl ⟨rfl, rfl⟩
  · replace hm := o_f hm h4
    refine z_iload_n (pc' := 10) hM114 rfl rfl rfl ?_
    refine z_iflt (pc' := 13) (t := 19) hM114 rfl rfl (fun h5 => ?_) (fun h5 => ?_)
    · replace hm := o_t hm h5
      refine z_iconst (pc' := 20) hM114 rfl rfl rfl ?_
      cases hm
      exact z_retI hM114 rfl rfl ⟨rfl, rfl⟩
    · replace hm := o_f hm h5
      refine z_iload_n (pc' := 14) hM114 rfl rfl rfl ?_
      refine z_bipush (pc' := 16) hM114 rfl rfl rfl ?_
      refine z_cmple (pc' := 19) (t := 21) hM114 rfl rfl (fun h6 => ?_) (fun h6 => ?_)
      · replace hm := o_t hm h6
        refine z_iconst (pc' := 20) hM114 rfl rfl rfl ?_
        cases hm
        exact z_retI hM114 rfl rfl ⟨rfl, rfl⟩
      · replace hm := o_f hm h6
        refine z_aload_n (pc' := 22) hM114 rfl rfl rfl ?_
        refine z_fldR (pc' := 25) hM114 rfl (zf_11_5 hG) rfl rfl ?_
        refine z_aload_n (pc' := 26) hM114 rfl rfl rfl ?_
        refine z_fldR (pc' := 29) hM114 rfl (zf_11_8 hG) rfl rfl ?_
        refine z_iload_n (pc' := 30) hM114 rfl rfl rfl ?_
        refine z_iload_n (pc' := 31) hM114 rfl rfl rfl ?_
        refine z_iload_n (pc' := 32) hM114 rfl rfl rfl ?_
        refine z_aload_n (pc' := 33) hM114 rfl rfl rfl ?_
        obtain ⟨w7, ew7, hm⟩ := o_v hm
        refine z_fldM (pc' := 36) (q := 0) hG.2.1 hM114 rfl rfl (Or.inl rfl) rfl rfl ew7 ?_
        refine z_fldR (pc' := 39) hM114 rfl (zf_5_10 hG) rfl rfl ?_
        refine z_iload_n (pc' := 40) hM114 rfl rfl rfl ?_
        obtain ⟨h9, hm⟩ := o_x hm
        obtain ⟨z8, ez8, hm⟩ := o_v hm
        refine z_iald (pc' := 41) (zGN hG) hM114 rfl rfl h9 ez8 ?_
        obtain ⟨z10, s11, h12, hm⟩ := o_c hm
        refine z_cv (d := d + 6) (pc' := 44) hM114 rfl hM99 rfl rfl rfl rfl rfl rfl (c99 (d := d) hG h12) rfl ?_
        refine z_pop (pc' := 45) hM114 rfl rfl ?_
        refine z_aload_n (pc' := 46) hM114 rfl rfl rfl ?_
        refine z_fldR (pc' := 49) hM114 rfl (zf_11_5 hG) rfl rfl ?_
        refine z_fldR (pc' := 52) hM114 rfl (zf_10_0 hG) rfl rfl ?_
        refine z_iload_n (pc' := 53) hM114 rfl rfl rfl ?_
        obtain ⟨h14, hm⟩ := o_x hm
        obtain ⟨z13, ez13, hm⟩ := o_v hm
        refine z_iald (pc' := 54) (zGN hG) hM114 rfl rfl h14 ez13 ?_
        cases hm
        exact z_retI hM114 rfl rfl ⟨rfl, rfl⟩
def m115_13 : Nat → Int → Int → Int → zS → Option (Int × zS)
  | 0, _, _, _, _ => none
  | n + 1, x1, x2, x3, s => if (99 : Int) < x3 then some ((-1 : Int), s) else oC (m99 28 x1 x2 x2 x3 s) fun z2 s3 => if z2 = (-1 : Int) then oZ (x3 + (1 : Int)) fun z6 => m115_13 n x1 x2 z6 s3 else some (x3, s3)
theorem c115_13 {G : aHp} {d : Nat} (hG : zG G) : ∀ {n : Nat} {x1 : Int} {x2 : Int} {x3 : Int} {s : zS} {r_ : Int} {s_ : zS}, m115_13 n x1 x2 x3 s = some (r_, s_) → Zp G (d + 7) 115 13 [some (zr 11 0 0), some (zi x1), some (zi x2), some (zi x3)] [] s (zRet (some (zi r_)) s_) := by
  intro n
  induction n with
  | zero => intro x1 x2 x3 s r_ s_ hm; cases hm
  | succ n ih =>
  intro x1 x2 x3 s r_ s_ hm
  replace hm : (if (99 : Int) < x3 then some ((-1 : Int), s) else oC (m99 28 x1 x2 x2 x3 s) fun z2 s3 => if z2 = (-1 : Int) then oZ (x3 + (1 : Int)) fun z6 => m115_13 n x1 x2 z6 s3 else some (x3, s3)) = some (r_, s_) := hm
  refine z_iload_n (pc' := 14) hM115 rfl rfl rfl ?_
  refine z_bipush (pc' := 16) hM115 rfl rfl rfl ?_
  refine z_cmpgt (pc' := 19) (t := 46) hM115 rfl rfl (fun h1 => ?_) (fun h1 => ?_)
  · replace hm := o_t hm h1
    refine z_iconst (pc' := 47) hM115 rfl rfl rfl ?_
    cases hm
    exact z_retI hM115 rfl rfl ⟨rfl, rfl⟩
  · replace hm := o_f hm h1
    refine z_aload_n (pc' := 20) hM115 rfl rfl rfl ?_
    refine z_fldR (pc' := 23) hM115 rfl (zf_11_5 hG) rfl rfl ?_
    refine z_aload_n (pc' := 24) hM115 rfl rfl rfl ?_
    refine z_fldR (pc' := 27) hM115 rfl (zf_11_8 hG) rfl rfl ?_
    refine z_iload_n (pc' := 28) hM115 rfl rfl rfl ?_
    refine z_iload_n (pc' := 29) hM115 rfl rfl rfl ?_
    refine z_iload_n (pc' := 30) hM115 rfl rfl rfl ?_
    refine z_iload_n (pc' := 31) hM115 rfl rfl rfl ?_
    obtain ⟨z2, s3, h4, hm⟩ := o_c hm
    refine z_cv (d := d + 6) (pc' := 34) hM115 rfl hM99 rfl rfl rfl rfl rfl rfl (c99 (d := d) hG h4) rfl ?_
    refine z_iconst (pc' := 35) hM115 rfl rfl rfl ?_
    refine z_cmpeq (pc' := 38) (t := 40) hM115 rfl rfl (fun h5 => ?_) (fun h5 => ?_)
    · replace hm := o_t hm h5
      obtain ⟨z6, ez6, h7, hm⟩ := o_z hm
      refine z_iinc (pc' := 43) (l' := [some (zr 11 0 0), some (zi x1), some (zi x2), some (zi z6)]) hM115 rfl rfl rfl ez6 h7 rfl rfl ?_
      refine z_goto (t := 13) hM115 rfl ?_
      exact ih hm
    · replace hm := o_f hm h5
      refine z_iload_n (pc' := 39) hM115 rfl rfl rfl ?_
      cases hm
      exact z_retI hM115 rfl rfl ⟨rfl, rfl⟩
def m115 (x1 : Int) (x2 : Int) (s : zS) : Option (Int × zS) := oC (m138 x1 x2 s) fun z1 s2 => if z1 = (0 : Int) then some ((-1 : Int), s2) else m115_13 zFu x1 x2 (0 : Int) s2
theorem c115 {G : aHp} {d : Nat} (hG : zG G) {x1 : Int} {x2 : Int} {s : zS} {r_ : Int} {s_ : zS} (hm : m115 x1 x2 s = some (r_, s_)) : Zp G (d + 7) 115 0 [some (zr 11 0 0), some (zi x1), some (zi x2), none] [] s (zRet (some (zi r_)) s_) := by
  replace hm : (oC (m138 x1 x2 s) fun z1 s2 => if z1 = (0 : Int) then some ((-1 : Int), s2) else m115_13 zFu x1 x2 (0 : Int) s2) = some (r_, s_) := hm
  refine z_aload_n (pc' := 1) hM115 rfl rfl rfl ?_
  refine z_iload_n (pc' := 2) hM115 rfl rfl rfl ?_
  refine z_iload_n (pc' := 3) hM115 rfl rfl rfl ?_
  obtain ⟨z1, s2, h3, hm⟩ := o_c hm
  refine z_cv (d := d + 6) (pc' := 6) hM115 rfl hM138 rfl rfl rfl rfl rfl rfl (c138 (d := d + 4) hG h3) rfl ?_
  refine z_ifne (pc' := 9) (t := 11) hM115 rfl rfl (fun h4 => ?_) (fun h4 => ?_)
  · replace hm := o_t hm h4
    refine z_iconst (pc' := 10) hM115 rfl rfl rfl ?_
    cases hm
    exact z_retI hM115 rfl rfl ⟨rfl, rfl⟩
  · replace hm := o_f hm h4
    refine z_iconst (pc' := 12) hM115 rfl rfl rfl ?_
    refine z_istore_n (pc' := 13) (l' := [some (zr 11 0 0), some (zi x1), some (zi x2), some (zi (0 : Int))]) hM115 rfl rfl rfl rfl ?_
    exact c115_13 hG hm
def m116 (x1 : Int) (x2 : Int) (x3 : Int) (s : zS) : Option (Int × zS) := oC (m138 x1 x2 s) fun z1 s2 => if z1 = (0 : Int) then some ((-1 : Int), s2) else oV (s2.2.2 1) fun w5 => oC (m50 (w5 + 3) x3 s2) fun z6 s7 => if z6 = (0 : Int) then some ((-1 : Int), s7) else if x2 = x3 then some ((-1 : Int), s7) else oV (s7.2.2 1) fun w11 => oX x1 6 (oV (s7.1 (w11 + 14) x1) fun z12 => oC (m99 28 x1 x2 x3 z12 s7) fun z14 s15 => some (z14, s15))
theorem c116 {G : aHp} {d : Nat} (hG : zG G) {x1 : Int} {x2 : Int} {x3 : Int} {s : zS} {r_ : Int} {s_ : zS} (hm : m116 x1 x2 x3 s = some (r_, s_)) : Zp G (d + 7) 116 0 [some (zr 11 0 0), some (zi x1), some (zi x2), some (zi x3)] [] s (zRet (some (zi r_)) s_) := by
  replace hm : (oC (m138 x1 x2 s) fun z1 s2 => if z1 = (0 : Int) then some ((-1 : Int), s2) else oV (s2.2.2 1) fun w5 => oC (m50 (w5 + 3) x3 s2) fun z6 s7 => if z6 = (0 : Int) then some ((-1 : Int), s7) else if x2 = x3 then some ((-1 : Int), s7) else oV (s7.2.2 1) fun w11 => oX x1 6 (oV (s7.1 (w11 + 14) x1) fun z12 => oC (m99 28 x1 x2 x3 z12 s7) fun z14 s15 => some (z14, s15))) = some (r_, s_) := hm
  refine z_aload_n (pc' := 1) hM116 rfl rfl rfl ?_
  refine z_iload_n (pc' := 2) hM116 rfl rfl rfl ?_
  refine z_iload_n (pc' := 3) hM116 rfl rfl rfl ?_
  obtain ⟨z1, s2, h3, hm⟩ := o_c hm
  refine z_cv (d := d + 6) (pc' := 6) hM116 rfl hM138 rfl rfl rfl rfl rfl rfl (c138 (d := d + 4) hG h3) rfl ?_
  refine z_ifeq (pc' := 9) (t := 28) hM116 rfl rfl (fun h4 => ?_) (fun h4 => ?_)
  · replace hm := o_t hm h4
    refine z_iconst (pc' := 29) hM116 rfl rfl rfl ?_
    cases hm
    exact z_retI hM116 rfl rfl ⟨rfl, rfl⟩
  · replace hm := o_f hm h4
    refine z_aload_n (pc' := 10) hM116 rfl rfl rfl ?_
    obtain ⟨w5, ew5, hm⟩ := o_v hm
    refine z_fldM (pc' := 13) (q := 0) hG.2.1 hM116 rfl rfl (Or.inl rfl) rfl rfl ew5 ?_
    refine z_fldR (pc' := 16) hM116 rfl (zf_5_1 hG) rfl rfl ?_
    refine z_iload_n (pc' := 17) hM116 rfl rfl rfl ?_
    obtain ⟨z6, s7, h8, hm⟩ := o_c hm
    refine z_cv (d := d + 6) (pc' := 20) hM116 rfl hM50 rfl rfl rfl rfl rfl rfl (c50 (d := d + 5) hG h8) rfl ?_
    refine z_ifeq (pc' := 23) (t := 28) hM116 rfl rfl (fun h9 => ?_) (fun h9 => ?_)
    · replace hm := o_t hm h9
      refine z_iconst (pc' := 29) hM116 rfl rfl rfl ?_
      cases hm
      exact z_retI hM116 rfl rfl ⟨rfl, rfl⟩
    · replace hm := o_f hm h9
      refine z_iload_n (pc' := 24) hM116 rfl rfl rfl ?_
      refine z_iload_n (pc' := 25) hM116 rfl rfl rfl ?_
      refine z_cmpne (pc' := 28) (t := 30) hM116 rfl rfl (fun h10 => ?_) (fun h10 => ?_)
      · replace hm := o_t hm h10
        refine z_iconst (pc' := 29) hM116 rfl rfl rfl ?_
        cases hm
        exact z_retI hM116 rfl rfl ⟨rfl, rfl⟩
      · replace hm := o_f hm h10
        refine z_aload_n (pc' := 31) hM116 rfl rfl rfl ?_
        refine z_fldR (pc' := 34) hM116 rfl (zf_11_5 hG) rfl rfl ?_
        refine z_aload_n (pc' := 35) hM116 rfl rfl rfl ?_
        refine z_fldR (pc' := 38) hM116 rfl (zf_11_8 hG) rfl rfl ?_
        refine z_iload_n (pc' := 39) hM116 rfl rfl rfl ?_
        refine z_iload_n (pc' := 40) hM116 rfl rfl rfl ?_
        refine z_iload_n (pc' := 41) hM116 rfl rfl rfl ?_
        refine z_aload_n (pc' := 42) hM116 rfl rfl rfl ?_
        obtain ⟨w11, ew11, hm⟩ := o_v hm
        refine z_fldM (pc' := 45) (q := 0) hG.2.1 hM116 rfl rfl (Or.inl rfl) rfl rfl ew11 ?_
        refine z_fldR (pc' := 48) hM116 rfl (zf_5_10 hG) rfl rfl ?_
        refine z_iload_n (pc' := 49) hM116 rfl rfl rfl ?_
        obtain ⟨h13, hm⟩ := o_x hm
        obtain ⟨z12, ez12, hm⟩ := o_v hm
        refine z_iald (pc' := 50) (zGN hG) hM116 rfl rfl h13 ez12 ?_
        obtain ⟨z14, s15, h16, hm⟩ := o_c hm
        refine z_cv (d := d + 6) (pc' := 53) hM116 rfl hM99 rfl rfl rfl rfl rfl rfl (c99 (d := d) hG h16) rfl ?_
        cases hm
        exact z_retI hM116 rfl rfl ⟨rfl, rfl⟩
def m117_15 (x1 : Int) (s : zS) : Option (Int × zS) := oV (s.2.2 1) fun w1 => oC (m1 28 w1 s) fun z2 s3 => if x1 = (-1 : Int) then oV (s3.1 20 1) fun z6 => some (z6, s3) else oX x1 6 (oV (s3.1 21 x1) fun z7 => some (z7, s3))
theorem c117_15 {G : aHp} {d : Nat} (hG : zG G) {x1 : Int} {s : zS} {r_ : Int} {s_ : zS} (hm : m117_15 x1 s = some (r_, s_)) : Zp G (d + 58) 117 15 [some (zr 11 0 0), some (zi x1)] [] s (zRet (some (zi r_)) s_) := by
  replace hm : (oV (s.2.2 1) fun w1 => oC (m1 28 w1 s) fun z2 s3 => if x1 = (-1 : Int) then oV (s3.1 20 1) fun z6 => some (z6, s3) else oX x1 6 (oV (s3.1 21 x1) fun z7 => some (z7, s3))) = some (r_, s_) := hm
  refine z_aload_n (pc' := 16) hM117 rfl rfl rfl ?_
  refine z_fldR (pc' := 19) hM117 rfl (zf_11_6 hG) rfl rfl ?_
  refine z_aload_n (pc' := 20) hM117 rfl rfl rfl ?_
  refine z_fldR (pc' := 23) hM117 rfl (zf_11_8 hG) rfl rfl ?_
  refine z_aload_n (pc' := 24) hM117 rfl rfl rfl ?_
  obtain ⟨w1, ew1, hm⟩ := o_v hm
  refine z_fldM (pc' := 27) (q := 0) hG.2.1 hM117 rfl rfl (Or.inl rfl) rfl rfl ew1 ?_
  refine z_aload_n (pc' := 28) hM117 rfl rfl rfl ?_
  refine z_fldR (pc' := 31) hM117 rfl (zf_11_5 hG) rfl rfl ?_
  obtain ⟨z2, s3, h4, hm⟩ := o_c hm
  refine z_cvV (d := d + 57) (pc' := 34) hM117 rfl hM1 rfl rfl rfl rfl rfl rfl (c1 (d := d) hG h4) rfl ?_
  refine z_iload_n (pc' := 35) hM117 rfl rfl rfl ?_
  refine z_iconst (pc' := 36) hM117 rfl rfl rfl ?_
  refine z_cmpne (pc' := 39) (t := 49) hM117 rfl rfl (fun h5 => ?_) (fun h5 => ?_)
  · replace hm := o_t hm h5
    refine z_aload_n (pc' := 40) hM117 rfl rfl rfl ?_
    refine z_fldR (pc' := 43) hM117 rfl (zf_11_6 hG) rfl rfl ?_
    obtain ⟨z6, ez6, hm⟩ := o_v hm
    refine z_fldI (pc' := 46) hM117 rfl rfl rfl ez6 ?_
    refine z_goto (t := 58) hM117 rfl ?_
    cases hm
    exact z_retI hM117 rfl rfl ⟨rfl, rfl⟩
  · replace hm := o_f hm h5
    refine z_aload_n (pc' := 50) hM117 rfl rfl rfl ?_
    refine z_fldR (pc' := 53) hM117 rfl (zf_11_6 hG) rfl rfl ?_
    refine z_fldR (pc' := 56) hM117 rfl (zf_0_0 hG) rfl rfl ?_
    refine z_iload_n (pc' := 57) hM117 rfl rfl rfl ?_
    obtain ⟨h8, hm⟩ := o_x hm
    obtain ⟨z7, ez7, hm⟩ := o_v hm
    refine z_iald (pc' := 58) (zGN hG) hM117 rfl rfl h8 ez7 ?_
    cases hm
    exact z_retI hM117 rfl rfl ⟨rfl, rfl⟩
def m117 (x1 : Int) (s : zS) : Option (Int × zS) := if x1 = (-1 : Int) then m117_15 x1 s else oC (m137 x1 s) fun z2 s3 => if z2 = (0 : Int) then some ((-1 : Int), s3) else m117_15 x1 s3
theorem c117 {G : aHp} {d : Nat} (hG : zG G) {x1 : Int} {s : zS} {r_ : Int} {s_ : zS} (hm : m117 x1 s = some (r_, s_)) : Zp G (d + 58) 117 0 [some (zr 11 0 0), some (zi x1)] [] s (zRet (some (zi r_)) s_) := by
  replace hm : (if x1 = (-1 : Int) then m117_15 x1 s else oC (m137 x1 s) fun z2 s3 => if z2 = (0 : Int) then some ((-1 : Int), s3) else m117_15 x1 s3) = some (r_, s_) := hm
  refine z_iload_n (pc' := 1) hM117 rfl rfl rfl ?_
  refine z_iconst (pc' := 2) hM117 rfl rfl rfl ?_
  refine z_cmpeq (pc' := 5) (t := 15) hM117 rfl rfl (fun h1 => ?_) (fun h1 => ?_)
  · replace hm := o_t hm h1
    exact c117_15 hG hm
  · replace hm := o_f hm h1
    refine z_aload_n (pc' := 6) hM117 rfl rfl rfl ?_
    refine z_iload_n (pc' := 7) hM117 rfl rfl rfl ?_
    obtain ⟨z2, s3, h4, hm⟩ := o_c hm
    refine z_cv (d := d + 57) (pc' := 10) hM117 rfl hM137 rfl rfl rfl rfl rfl rfl (c137 (d := d + 55) hG h4) rfl ?_
    refine z_ifne (pc' := 13) (t := 15) hM117 rfl rfl (fun h5 => ?_) (fun h5 => ?_)
    · replace hm := o_t hm h5
      refine z_iconst (pc' := 14) hM117 rfl rfl rfl ?_
      cases hm
      exact z_retI hM117 rfl rfl ⟨rfl, rfl⟩
    · replace hm := o_f hm h5
      exact c117_15 hG hm
def m118_26 : Nat → Int → Int → Int → zS → Option (Int × zS)
  | 0, _, _, _, _ => none
  | n + 1, x1, x2, x3, s => oV (s.2.2 1) fun w1 => oV (s.1 (w1 + 5) 0) fun z2 => if x3 < z2 then oX x3 6 (oV (s.1 37 x3) fun z4 => if z4 = (-1 : Int) then oV (s.1 34 5) fun z7 => if (0 : Int) < z7 then oV (s.2.2 1) fun w9 => oC (m62 34 w9 x3 x1 s) fun z10 s11 => oV (s11.2.2 1) fun w13 => oX x3 6 (oV (s11.1 (w13 + 14) x3) fun z14 => oC (m99 28 x3 z10 z10 z14 s11) fun z16 s17 => if z16 = (-1 : Int) then oZ (x3 + (1 : Int)) fun z20 => m118_26 n x1 x2 z20 s17 else oZ (x2 + (1 : Int)) fun z22 => oZ (x3 + (1 : Int)) fun z24 => m118_26 n x1 z22 z24 s17) else oZ (x3 + (1 : Int)) fun z26 => m118_26 n x1 x2 z26 s else oZ (x3 + (1 : Int)) fun z28 => m118_26 n x1 x2 z28 s) else some (x2, s)
theorem c118_26 {G : aHp} {d : Nat} (hG : zG G) : ∀ {n : Nat} {x1 : Int} {x2 : Int} {x3 : Int} {d4 : Option zV} {s : zS} {r_ : Int} {s_ : zS}, m118_26 n x1 x2 x3 s = some (r_, s_) → Zp G (d + 7) 118 26 [some (zr 11 0 0), some (zi x1), some (zi x2), some (zi x3), d4] [] s (zRet (some (zi r_)) s_) := by
  intro n
  induction n with
  | zero => intro x1 x2 x3 d4 s r_ s_ hm; cases hm
  | succ n ih =>
  intro x1 x2 x3 d4 s r_ s_ hm
  replace hm : (oV (s.2.2 1) fun w1 => oV (s.1 (w1 + 5) 0) fun z2 => if x3 < z2 then oX x3 6 (oV (s.1 37 x3) fun z4 => if z4 = (-1 : Int) then oV (s.1 34 5) fun z7 => if (0 : Int) < z7 then oV (s.2.2 1) fun w9 => oC (m62 34 w9 x3 x1 s) fun z10 s11 => oV (s11.2.2 1) fun w13 => oX x3 6 (oV (s11.1 (w13 + 14) x3) fun z14 => oC (m99 28 x3 z10 z10 z14 s11) fun z16 s17 => if z16 = (-1 : Int) then oZ (x3 + (1 : Int)) fun z20 => m118_26 n x1 x2 z20 s17 else oZ (x2 + (1 : Int)) fun z22 => oZ (x3 + (1 : Int)) fun z24 => m118_26 n x1 z22 z24 s17) else oZ (x3 + (1 : Int)) fun z26 => m118_26 n x1 x2 z26 s else oZ (x3 + (1 : Int)) fun z28 => m118_26 n x1 x2 z28 s) else some (x2, s)) = some (r_, s_) := hm
  refine z_iload_n (pc' := 27) hM118 rfl rfl rfl ?_
  refine z_aload_n (pc' := 28) hM118 rfl rfl rfl ?_
  obtain ⟨w1, ew1, hm⟩ := o_v hm
  refine z_fldM (pc' := 31) (q := 0) hG.2.1 hM118 rfl rfl (Or.inl rfl) rfl rfl ew1 ?_
  refine z_fldR (pc' := 34) hM118 rfl (zf_5_2 hG) rfl rfl ?_
  obtain ⟨z2, ez2, hm⟩ := o_v hm
  refine z_fldI (pc' := 37) hM118 rfl rfl rfl ez2 ?_
  refine z_cmpge (pc' := 40) (t := 116) hM118 rfl rfl (fun h3 => ?_) (fun h3 => ?_)
  · replace hm := o_t hm h3
    refine z_aload_n (pc' := 41) hM118 rfl rfl rfl ?_
    refine z_fldR (pc' := 44) hM118 rfl (zf_11_9 hG) rfl rfl ?_
    refine z_fldR (pc' := 47) hM118 rfl (zf_7_2 hG) rfl rfl ?_
    refine z_iload_n (pc' := 48) hM118 rfl rfl rfl ?_
    obtain ⟨h5, hm⟩ := o_x hm
    obtain ⟨z4, ez4, hm⟩ := o_v hm
    refine z_iald (pc' := 49) (zGN hG) hM118 rfl rfl h5 ez4 ?_
    refine z_iconst (pc' := 50) hM118 rfl rfl rfl ?_
    refine z_cmpne (pc' := 53) (t := 110) hM118 rfl rfl (fun h6 => ?_) (fun h6 => ?_)
    · replace hm := o_t hm h6
      refine z_aload_n (pc' := 54) hM118 rfl rfl rfl ?_
      refine z_fldR (pc' := 57) hM118 rfl (zf_11_9 hG) rfl rfl ?_
      obtain ⟨z7, ez7, hm⟩ := o_v hm
      refine z_fldI (pc' := 60) hM118 rfl rfl rfl ez7 ?_
      refine z_ifle (pc' := 63) (t := 110) hM118 rfl rfl (fun h8 => ?_) (fun h8 => ?_)
      · replace hm := o_t hm h8
        refine z_aload_n (pc' := 64) hM118 rfl rfl rfl ?_
        refine z_fldR (pc' := 67) hM118 rfl (zf_11_9 hG) rfl rfl ?_
        refine z_aload_n (pc' := 68) hM118 rfl rfl rfl ?_
        obtain ⟨w9, ew9, hm⟩ := o_v hm
        refine z_fldM (pc' := 71) (q := 0) hG.2.1 hM118 rfl rfl (Or.inl rfl) rfl rfl ew9 ?_
        refine z_iload_n (pc' := 72) hM118 rfl rfl rfl ?_
        refine z_iload_n (pc' := 73) hM118 rfl rfl rfl ?_
        obtain ⟨z10, s11, h12, hm⟩ := o_c hm
        refine z_cv (d := d + 6) (pc' := 76) hM118 rfl hM62 rfl rfl rfl rfl rfl rfl (c62 (d := d + 2) hG h12) rfl ?_
        refine z_istore (pc' := 78) (l' := [some (zr 11 0 0), some (zi x1), some (zi x2), some (zi x3), some (zi z10)]) hM118 rfl rfl rfl rfl ?_
        refine z_aload_n (pc' := 79) hM118 rfl rfl rfl ?_
        refine z_fldR (pc' := 82) hM118 rfl (zf_11_5 hG) rfl rfl ?_
        refine z_aload_n (pc' := 83) hM118 rfl rfl rfl ?_
        refine z_fldR (pc' := 86) hM118 rfl (zf_11_8 hG) rfl rfl ?_
        refine z_iload_n (pc' := 87) hM118 rfl rfl rfl ?_
        refine z_iload (pc' := 89) hM118 rfl rfl rfl ?_
        refine z_iload (pc' := 91) hM118 rfl rfl rfl ?_
        refine z_aload_n (pc' := 92) hM118 rfl rfl rfl ?_
        obtain ⟨w13, ew13, hm⟩ := o_v hm
        refine z_fldM (pc' := 95) (q := 0) hG.2.1 hM118 rfl rfl (Or.inl rfl) rfl rfl ew13 ?_
        refine z_fldR (pc' := 98) hM118 rfl (zf_5_10 hG) rfl rfl ?_
        refine z_iload_n (pc' := 99) hM118 rfl rfl rfl ?_
        obtain ⟨h15, hm⟩ := o_x hm
        obtain ⟨z14, ez14, hm⟩ := o_v hm
        refine z_iald (pc' := 100) (zGN hG) hM118 rfl rfl h15 ez14 ?_
        obtain ⟨z16, s17, h18, hm⟩ := o_c hm
        refine z_cv (d := d + 6) (pc' := 103) hM118 rfl hM99 rfl rfl rfl rfl rfl rfl (c99 (d := d) hG h18) rfl ?_
        refine z_iconst (pc' := 104) hM118 rfl rfl rfl ?_
        refine z_cmpeq (pc' := 107) (t := 110) hM118 rfl rfl (fun h19 => ?_) (fun h19 => ?_)
        · replace hm := o_t hm h19
          obtain ⟨z20, ez20, h21, hm⟩ := o_z hm
          refine z_iinc (pc' := 113) (l' := [some (zr 11 0 0), some (zi x1), some (zi x2), some (zi z20), some (zi z10)]) hM118 rfl rfl rfl ez20 h21 rfl rfl ?_
          refine z_goto (t := 26) hM118 rfl ?_
          exact ih hm
        · replace hm := o_f hm h19
          obtain ⟨z22, ez22, h23, hm⟩ := o_z hm
          refine z_iinc (pc' := 110) (l' := [some (zr 11 0 0), some (zi x1), some (zi z22), some (zi x3), some (zi z10)]) hM118 rfl rfl rfl ez22 h23 rfl rfl ?_
          obtain ⟨z24, ez24, h25, hm⟩ := o_z hm
          refine z_iinc (pc' := 113) (l' := [some (zr 11 0 0), some (zi x1), some (zi z22), some (zi z24), some (zi z10)]) hM118 rfl rfl rfl ez24 h25 rfl rfl ?_
          refine z_goto (t := 26) hM118 rfl ?_
          exact ih hm
      · replace hm := o_f hm h8
        obtain ⟨z26, ez26, h27, hm⟩ := o_z hm
        refine z_iinc (pc' := 113) (l' := [some (zr 11 0 0), some (zi x1), some (zi x2), some (zi z26), d4]) hM118 rfl rfl rfl ez26 h27 rfl rfl ?_
        refine z_goto (t := 26) hM118 rfl ?_
        exact ih hm
    · replace hm := o_f hm h6
      obtain ⟨z28, ez28, h29, hm⟩ := o_z hm
      refine z_iinc (pc' := 113) (l' := [some (zr 11 0 0), some (zi x1), some (zi x2), some (zi z28), d4]) hM118 rfl rfl rfl ez28 h29 rfl rfl ?_
      refine z_goto (t := 26) hM118 rfl ?_
      exact ih hm
  · replace hm := o_f hm h3
    refine z_iload_n (pc' := 117) hM118 rfl rfl rfl ?_
    cases hm
    exact z_retI hM118 rfl rfl ⟨rfl, rfl⟩
def m118 (x1 : Int) (s : zS) : Option (Int × zS) := if x1 < (0 : Int) then some ((-1 : Int), s) else if (2 : Int) < x1 then some ((-1 : Int), s) else oC (m56 34 28 s) fun z3 s4 => m118_26 zFu x1 (0 : Int) (0 : Int) s4
theorem c118 {G : aHp} {d : Nat} (hG : zG G) {x1 : Int} {s : zS} {r_ : Int} {s_ : zS} (hm : m118 x1 s = some (r_, s_)) : Zp G (d + 7) 118 0 [some (zr 11 0 0), some (zi x1), none, none, none] [] s (zRet (some (zi r_)) s_) := by
  replace hm : (if x1 < (0 : Int) then some ((-1 : Int), s) else if (2 : Int) < x1 then some ((-1 : Int), s) else oC (m56 34 28 s) fun z3 s4 => m118_26 zFu x1 (0 : Int) (0 : Int) s4) = some (r_, s_) := hm
  refine z_iload_n (pc' := 1) hM118 rfl rfl rfl ?_
  refine z_iflt (pc' := 4) (t := 9) hM118 rfl rfl (fun h1 => ?_) (fun h1 => ?_)
  · replace hm := o_t hm h1
    refine z_iconst (pc' := 10) hM118 rfl rfl rfl ?_
    cases hm
    exact z_retI hM118 rfl rfl ⟨rfl, rfl⟩
  · replace hm := o_f hm h1
    refine z_iload_n (pc' := 5) hM118 rfl rfl rfl ?_
    refine z_iconst (pc' := 6) hM118 rfl rfl rfl ?_
    refine z_cmple (pc' := 9) (t := 11) hM118 rfl rfl (fun h2 => ?_) (fun h2 => ?_)
    · replace hm := o_t hm h2
      refine z_iconst (pc' := 10) hM118 rfl rfl rfl ?_
      cases hm
      exact z_retI hM118 rfl rfl ⟨rfl, rfl⟩
    · replace hm := o_f hm h2
      refine z_aload_n (pc' := 12) hM118 rfl rfl rfl ?_
      refine z_fldR (pc' := 15) hM118 rfl (zf_11_9 hG) rfl rfl ?_
      refine z_aload_n (pc' := 16) hM118 rfl rfl rfl ?_
      refine z_fldR (pc' := 19) hM118 rfl (zf_11_8 hG) rfl rfl ?_
      obtain ⟨z3, s4, h5, hm⟩ := o_c hm
      refine z_cvV (d := d + 6) (pc' := 22) hM118 rfl hM56 rfl rfl rfl rfl rfl rfl (c56 (d := d + 1) hG h5) rfl ?_
      refine z_iconst (pc' := 23) hM118 rfl rfl rfl ?_
      refine z_istore_n (pc' := 24) (l' := [some (zr 11 0 0), some (zi x1), some (zi (0 : Int)), none, none]) hM118 rfl rfl rfl rfl ?_
      refine z_iconst (pc' := 25) hM118 rfl rfl rfl ?_
      refine z_istore_n (pc' := 26) (l' := [some (zr 11 0 0), some (zi x1), some (zi (0 : Int)), some (zi (0 : Int)), none]) hM118 rfl rfl rfl rfl ?_
      exact c118_26 hG hm
def m140  (s : zS) : Option (Int × zS) := oV (s.1 28 6) fun z1 => oZ ((999 : Int) - z1) fun z2 => oC (m290 (60 : Int) z2 s) fun z4 s5 => some (z4, s5)
theorem c140 {G : aHp} {d : Nat} (hG : zG G) {s : zS} {r_ : Int} {s_ : zS} (hm : m140  s = some (r_, s_)) : Zp G (d + 2) 140 0 [some (zr 11 0 0)] [] s (zRet (some (zi r_)) s_) := by
  replace hm : (oV (s.1 28 6) fun z1 => oZ ((999 : Int) - z1) fun z2 => oC (m290 (60 : Int) z2 s) fun z4 s5 => some (z4, s5)) = some (r_, s_) := hm
  refine z_bipush (pc' := 2) hM140 rfl rfl rfl ?_
  refine z_sipush (pc' := 5) hM140 rfl rfl rfl ?_
  refine z_aload_n (pc' := 6) hM140 rfl rfl rfl ?_
  refine z_fldR (pc' := 9) hM140 rfl (zf_11_8 hG) rfl rfl ?_
  obtain ⟨z1, ez1, hm⟩ := o_v hm
  refine z_fldI (pc' := 12) hM140 rfl rfl rfl ez1 ?_
  obtain ⟨z2, ez2, h3, hm⟩ := o_z hm
  refine z_isub (pc' := 13) hM140 rfl rfl ez2 h3 ?_
  obtain ⟨z4, s5, h6, hm⟩ := o_c hm
  refine z_cs (d := d + 1) (pc' := 16) hM140 rfl hM290 rfl rfl rfl rfl (c290 (d := d) hG h6) rfl ?_
  cases hm
  exact z_retI hM140 rfl rfl ⟨rfl, rfl⟩
def m142 (a1 : Nat) (x2 : Int) (s : zS) : Option (Int × zS) := oC (m7 a1 x2 s) fun z1 s2 => oV (s2.1 a1 6) fun z4 => oZ (z4 + (1 : Int)) fun z5 => oV (sI s2 a1 6 z5) fun s7 => some (0, s7)
theorem c142 {G : aHp} {d : Nat} (hG : zG G) {a1 : Nat} {x2 : Int} {s : zS} {r_ : Int} {s_ : zS} (hm : m142 a1 x2 s = some (r_, s_)) : Zp G (d + 7) 142 0 [some (zr 11 0 0), some (zr 7 0 a1), some (zi x2)] [] s (zRet none s_) := by
  replace hm : (oC (m7 a1 x2 s) fun z1 s2 => oV (s2.1 a1 6) fun z4 => oZ (z4 + (1 : Int)) fun z5 => oV (sI s2 a1 6 z5) fun s7 => some (0, s7)) = some (r_, s_) := hm
  refine z_aload_n (pc' := 1) hM142 rfl rfl rfl ?_
  refine z_fldR (pc' := 4) hM142 rfl (zf_11_4 hG) rfl rfl ?_
  refine z_aload_n (pc' := 5) hM142 rfl rfl rfl ?_
  refine z_iload_n (pc' := 6) hM142 rfl rfl rfl ?_
  obtain ⟨z1, s2, h3, hm⟩ := o_c hm
  refine z_cvV (d := d + 6) (pc' := 9) hM142 rfl hM7 rfl rfl rfl rfl rfl rfl (c7 (d := d) hG h3) rfl ?_
  refine z_aload_n (pc' := 10) hM142 rfl rfl rfl ?_
  refine z_dupA (pc' := 11) hM142 rfl rfl ?_
  obtain ⟨z4, ez4, hm⟩ := o_v hm
  refine z_fldI (pc' := 14) hM142 rfl rfl rfl ez4 ?_
  refine z_iconst (pc' := 15) hM142 rfl rfl rfl ?_
  obtain ⟨z5, ez5, h6, hm⟩ := o_z hm
  refine z_iadd (pc' := 16) hM142 rfl rfl ez5 h6 ?_
  obtain ⟨s7, es7, hm⟩ := o_v hm
  refine z_putI (pc' := 19) hM142 rfl rfl rfl es7 ?_
  cases hm
  exact z_retV hM142 rfl rfl ⟨rfl, rfl⟩
def m119_42 : Nat → Int → Int → Int → Int → zS → Option (Int × zS)
  | 0, _, _, _, _, _ => none
  | n + 1, x1, x2, x3, x4, s => if x4 < x2 then oC (m142 34 x1 s) fun z2 s3 => oZ (x4 + (1 : Int)) fun z5 => m119_42 n x1 x2 x3 z5 s3 else if x3 = (0 : Int) then oX x1 6 (oV (s.1 37 x1) fun z8 => some (z8, s)) else if x3 = (1 : Int) then oX x1 6 (oV (s.1 38 x1) fun z11 => some (z11, s)) else if x3 = (2 : Int) then oX x1 6 (oV (s.1 36 x1) fun z14 => oX z14 8 (oV (s.1 35 z14) fun z16 => some (z16, s))) else some ((-1 : Int), s)
theorem c119_42 {G : aHp} {d : Nat} (hG : zG G) : ∀ {n : Nat} {x1 : Int} {x2 : Int} {x3 : Int} {x4 : Int} {s : zS} {r_ : Int} {s_ : zS}, m119_42 n x1 x2 x3 x4 s = some (r_, s_) → Zp G (d + 8) 119 42 [some (zr 11 0 0), some (zi x1), some (zi x2), some (zi x3), some (zi x4)] [] s (zRet (some (zi r_)) s_) := by
  intro n
  induction n with
  | zero => intro x1 x2 x3 x4 s r_ s_ hm; cases hm
  | succ n ih =>
  intro x1 x2 x3 x4 s r_ s_ hm
  replace hm : (if x4 < x2 then oC (m142 34 x1 s) fun z2 s3 => oZ (x4 + (1 : Int)) fun z5 => m119_42 n x1 x2 x3 z5 s3 else if x3 = (0 : Int) then oX x1 6 (oV (s.1 37 x1) fun z8 => some (z8, s)) else if x3 = (1 : Int) then oX x1 6 (oV (s.1 38 x1) fun z11 => some (z11, s)) else if x3 = (2 : Int) then oX x1 6 (oV (s.1 36 x1) fun z14 => oX z14 8 (oV (s.1 35 z14) fun z16 => some (z16, s))) else some ((-1 : Int), s)) = some (r_, s_) := hm
  refine z_iload (pc' := 44) hM119 rfl rfl rfl ?_
  refine z_iload_n (pc' := 45) hM119 rfl rfl rfl ?_
  refine z_cmpge (pc' := 48) (t := 63) hM119 rfl rfl (fun h1 => ?_) (fun h1 => ?_)
  · replace hm := o_t hm h1
    refine z_aload_n (pc' := 49) hM119 rfl rfl rfl ?_
    refine z_aload_n (pc' := 50) hM119 rfl rfl rfl ?_
    refine z_fldR (pc' := 53) hM119 rfl (zf_11_9 hG) rfl rfl ?_
    refine z_iload_n (pc' := 54) hM119 rfl rfl rfl ?_
    obtain ⟨z2, s3, h4, hm⟩ := o_c hm
    refine z_cvV (d := d + 7) (pc' := 57) hM119 rfl hM142 rfl rfl rfl rfl rfl rfl (c142 (d := d) hG h4) rfl ?_
    obtain ⟨z5, ez5, h6, hm⟩ := o_z hm
    refine z_iinc (pc' := 60) (l' := [some (zr 11 0 0), some (zi x1), some (zi x2), some (zi x3), some (zi z5)]) hM119 rfl rfl rfl ez5 h6 rfl rfl ?_
    refine z_goto (t := 42) hM119 rfl ?_
    exact ih hm
  · replace hm := o_f hm h1
    refine z_iload_n (pc' := 64) hM119 rfl rfl rfl ?_
    refine (Decidable.em (x3 = (0 : Int))).elim (fun h7 => ?_) (fun h7 => ?_)
    · replace hm := o_t hm h7
      refine z_swT (t := 92) (c := (0 : Int)) hM119 rfl h7 (by decide) rfl rfl ?_
      refine z_aload_n (pc' := 93) hM119 rfl rfl rfl ?_
      refine z_fldR (pc' := 96) hM119 rfl (zf_11_9 hG) rfl rfl ?_
      refine z_fldR (pc' := 99) hM119 rfl (zf_7_2 hG) rfl rfl ?_
      refine z_iload_n (pc' := 100) hM119 rfl rfl rfl ?_
      obtain ⟨h9, hm⟩ := o_x hm
      obtain ⟨z8, ez8, hm⟩ := o_v hm
      refine z_iald (pc' := 101) (zGN hG) hM119 rfl rfl h9 ez8 ?_
      cases hm
      exact z_retI hM119 rfl rfl ⟨rfl, rfl⟩
    replace hm := o_f hm h7
    refine (Decidable.em (x3 = (1 : Int))).elim (fun h10 => ?_) (fun h10 => ?_)
    · replace hm := o_t hm h10
      refine z_swT (t := 102) (c := (1 : Int)) hM119 rfl h10 (by decide) rfl rfl ?_
      refine z_aload_n (pc' := 103) hM119 rfl rfl rfl ?_
      refine z_fldR (pc' := 106) hM119 rfl (zf_11_9 hG) rfl rfl ?_
      refine z_fldR (pc' := 109) hM119 rfl (zf_7_3 hG) rfl rfl ?_
      refine z_iload_n (pc' := 110) hM119 rfl rfl rfl ?_
      obtain ⟨h12, hm⟩ := o_x hm
      obtain ⟨z11, ez11, hm⟩ := o_v hm
      refine z_iald (pc' := 111) (zGN hG) hM119 rfl rfl h12 ez11 ?_
      cases hm
      exact z_retI hM119 rfl rfl ⟨rfl, rfl⟩
    replace hm := o_f hm h10
    refine (Decidable.em (x3 = (2 : Int))).elim (fun h13 => ?_) (fun h13 => ?_)
    · replace hm := o_t hm h13
      refine z_swT (t := 112) (c := (2 : Int)) hM119 rfl h13 (by decide) rfl rfl ?_
      refine z_aload_n (pc' := 113) hM119 rfl rfl rfl ?_
      refine z_fldR (pc' := 116) hM119 rfl (zf_11_9 hG) rfl rfl ?_
      refine z_fldR (pc' := 119) hM119 rfl (zf_7_0 hG) rfl rfl ?_
      refine z_aload_n (pc' := 120) hM119 rfl rfl rfl ?_
      refine z_fldR (pc' := 123) hM119 rfl (zf_11_9 hG) rfl rfl ?_
      refine z_fldR (pc' := 126) hM119 rfl (zf_7_1 hG) rfl rfl ?_
      refine z_iload_n (pc' := 127) hM119 rfl rfl rfl ?_
      obtain ⟨h15, hm⟩ := o_x hm
      obtain ⟨z14, ez14, hm⟩ := o_v hm
      refine z_iald (pc' := 128) (zGN hG) hM119 rfl rfl h15 ez14 ?_
      obtain ⟨h17, hm⟩ := o_x hm
      obtain ⟨z16, ez16, hm⟩ := o_v hm
      refine z_iald (pc' := 129) (zGN hG) hM119 rfl rfl h17 ez16 ?_
      cases hm
      exact z_retI hM119 rfl rfl ⟨rfl, rfl⟩
    replace hm := o_f hm h13
    refine z_swF (t := 130) hM119 rfl (by omega) rfl ?_
    refine z_iconst (pc' := 131) hM119 rfl rfl rfl ?_
    cases hm
    exact z_retI hM119 rfl rfl ⟨rfl, rfl⟩
def m119 (x1 : Int) (x2 : Int) (x3 : Int) (s : zS) : Option (Int × zS) := oV (s.2.2 1) fun w1 => oC (m50 (w1 + 5) x1 s) fun z2 s3 => if z2 = (0 : Int) then some ((-1 : Int), s3) else if x2 < (0 : Int) then some ((-1 : Int), s3) else oC (m140 s3) fun z7 s8 => if z7 < x2 then some ((-1 : Int), s8) else oC (m56 34 28 s8) fun z11 s12 => m119_42 zFu x1 x2 x3 (0 : Int) s12
theorem c119 {G : aHp} {d : Nat} (hG : zG G) {x1 : Int} {x2 : Int} {x3 : Int} {s : zS} {r_ : Int} {s_ : zS} (hm : m119 x1 x2 x3 s = some (r_, s_)) : Zp G (d + 8) 119 0 [some (zr 11 0 0), some (zi x1), some (zi x2), some (zi x3), none] [] s (zRet (some (zi r_)) s_) := by
  replace hm : (oV (s.2.2 1) fun w1 => oC (m50 (w1 + 5) x1 s) fun z2 s3 => if z2 = (0 : Int) then some ((-1 : Int), s3) else if x2 < (0 : Int) then some ((-1 : Int), s3) else oC (m140 s3) fun z7 s8 => if z7 < x2 then some ((-1 : Int), s8) else oC (m56 34 28 s8) fun z11 s12 => m119_42 zFu x1 x2 x3 (0 : Int) s12) = some (r_, s_) := hm
  refine z_aload_n (pc' := 1) hM119 rfl rfl rfl ?_
  obtain ⟨w1, ew1, hm⟩ := o_v hm
  refine z_fldM (pc' := 4) (q := 0) hG.2.1 hM119 rfl rfl (Or.inl rfl) rfl rfl ew1 ?_
  refine z_fldR (pc' := 7) hM119 rfl (zf_5_2 hG) rfl rfl ?_
  refine z_iload_n (pc' := 8) hM119 rfl rfl rfl ?_
  obtain ⟨z2, s3, h4, hm⟩ := o_c hm
  refine z_cv (d := d + 7) (pc' := 11) hM119 rfl hM50 rfl rfl rfl rfl rfl rfl (c50 (d := d + 6) hG h4) rfl ?_
  refine z_ifeq (pc' := 14) (t := 26) hM119 rfl rfl (fun h5 => ?_) (fun h5 => ?_)
  · replace hm := o_t hm h5
    refine z_iconst (pc' := 27) hM119 rfl rfl rfl ?_
    cases hm
    exact z_retI hM119 rfl rfl ⟨rfl, rfl⟩
  · replace hm := o_f hm h5
    refine z_iload_n (pc' := 15) hM119 rfl rfl rfl ?_
    refine z_iflt (pc' := 18) (t := 26) hM119 rfl rfl (fun h6 => ?_) (fun h6 => ?_)
    · replace hm := o_t hm h6
      refine z_iconst (pc' := 27) hM119 rfl rfl rfl ?_
      cases hm
      exact z_retI hM119 rfl rfl ⟨rfl, rfl⟩
    · replace hm := o_f hm h6
      refine z_iload_n (pc' := 19) hM119 rfl rfl rfl ?_
      refine z_aload_n (pc' := 20) hM119 rfl rfl rfl ?_
      obtain ⟨z7, s8, h9, hm⟩ := o_c hm
      refine z_cv (d := d + 7) (pc' := 23) hM119 rfl hM140 rfl rfl rfl rfl rfl rfl (c140 (d := d + 5) hG h9) rfl ?_
      refine z_cmple (pc' := 26) (t := 28) hM119 rfl rfl (fun h10 => ?_) (fun h10 => ?_)
      · replace hm := o_t hm h10
        refine z_iconst (pc' := 27) hM119 rfl rfl rfl ?_
        cases hm
        exact z_retI hM119 rfl rfl ⟨rfl, rfl⟩
      · replace hm := o_f hm h10
        refine z_aload_n (pc' := 29) hM119 rfl rfl rfl ?_
        refine z_fldR (pc' := 32) hM119 rfl (zf_11_9 hG) rfl rfl ?_
        refine z_aload_n (pc' := 33) hM119 rfl rfl rfl ?_
        refine z_fldR (pc' := 36) hM119 rfl (zf_11_8 hG) rfl rfl ?_
        obtain ⟨z11, s12, h13, hm⟩ := o_c hm
        refine z_cvV (d := d + 7) (pc' := 39) hM119 rfl hM56 rfl rfl rfl rfl rfl rfl (c56 (d := d + 2) hG h13) rfl ?_
        refine z_iconst (pc' := 40) hM119 rfl rfl rfl ?_
        refine z_istore (pc' := 42) (l' := [some (zr 11 0 0), some (zi x1), some (zi x2), some (zi x3), some (zi (0 : Int))]) hM119 rfl rfl rfl rfl ?_
        exact c119_42 hG hm
def m120_47 : Nat → Int → Int → Int → zS → Option (Int × zS)
  | 0, _, _, _, _ => none
  | n + 1, x1, x2, x3, s => if x2 < x3 then some ((-1 : Int), s) else oC (m5 34 x1 s) fun z2 s3 => if z2 = (0 : Int) then oC (m142 34 x1 s3) fun z6 s7 => oZ (x3 + (1 : Int)) fun z9 => m120_47 n x1 x2 z9 s7 else some (x3, s3)
theorem c120_47 {G : aHp} {d : Nat} (hG : zG G) : ∀ {n : Nat} {x1 : Int} {x2 : Int} {x3 : Int} {s : zS} {r_ : Int} {s_ : zS}, m120_47 n x1 x2 x3 s = some (r_, s_) → Zp G (d + 8) 120 47 [some (zr 11 0 0), some (zi x1), some (zi x2), some (zi x3)] [] s (zRet (some (zi r_)) s_) := by
  intro n
  induction n with
  | zero => intro x1 x2 x3 s r_ s_ hm; cases hm
  | succ n ih =>
  intro x1 x2 x3 s r_ s_ hm
  replace hm : (if x2 < x3 then some ((-1 : Int), s) else oC (m5 34 x1 s) fun z2 s3 => if z2 = (0 : Int) then oC (m142 34 x1 s3) fun z6 s7 => oZ (x3 + (1 : Int)) fun z9 => m120_47 n x1 x2 z9 s7 else some (x3, s3)) = some (r_, s_) := hm
  refine z_iload_n (pc' := 48) hM120 rfl rfl rfl ?_
  refine z_iload_n (pc' := 49) hM120 rfl rfl rfl ?_
  refine z_cmpgt (pc' := 52) (t := 84) hM120 rfl rfl (fun h1 => ?_) (fun h1 => ?_)
  · replace hm := o_t hm h1
    refine z_iconst (pc' := 85) hM120 rfl rfl rfl ?_
    cases hm
    exact z_retI hM120 rfl rfl ⟨rfl, rfl⟩
  · replace hm := o_f hm h1
    refine z_aload_n (pc' := 53) hM120 rfl rfl rfl ?_
    refine z_fldR (pc' := 56) hM120 rfl (zf_11_4 hG) rfl rfl ?_
    refine z_aload_n (pc' := 57) hM120 rfl rfl rfl ?_
    refine z_fldR (pc' := 60) hM120 rfl (zf_11_9 hG) rfl rfl ?_
    refine z_iload_n (pc' := 61) hM120 rfl rfl rfl ?_
    obtain ⟨z2, s3, h4, hm⟩ := o_c hm
    refine z_cv (d := d + 7) (pc' := 64) hM120 rfl hM5 rfl rfl rfl rfl rfl rfl (c5 (d := d + 6) hG h4) rfl ?_
    refine z_ifeq (pc' := 67) (t := 69) hM120 rfl rfl (fun h5 => ?_) (fun h5 => ?_)
    · replace hm := o_t hm h5
      refine z_aload_n (pc' := 70) hM120 rfl rfl rfl ?_
      refine z_aload_n (pc' := 71) hM120 rfl rfl rfl ?_
      refine z_fldR (pc' := 74) hM120 rfl (zf_11_9 hG) rfl rfl ?_
      refine z_iload_n (pc' := 75) hM120 rfl rfl rfl ?_
      obtain ⟨z6, s7, h8, hm⟩ := o_c hm
      refine z_cvV (d := d + 7) (pc' := 78) hM120 rfl hM142 rfl rfl rfl rfl rfl rfl (c142 (d := d) hG h8) rfl ?_
      obtain ⟨z9, ez9, h10, hm⟩ := o_z hm
      refine z_iinc (pc' := 81) (l' := [some (zr 11 0 0), some (zi x1), some (zi x2), some (zi z9)]) hM120 rfl rfl rfl ez9 h10 rfl rfl ?_
      refine z_goto (t := 47) hM120 rfl ?_
      exact ih hm
    · replace hm := o_f hm h5
      refine z_iload_n (pc' := 68) hM120 rfl rfl rfl ?_
      cases hm
      exact z_retI hM120 rfl rfl ⟨rfl, rfl⟩
def m120 (x1 : Int) (s : zS) : Option (Int × zS) := oV (s.2.2 1) fun w1 => oC (m50 (w1 + 5) x1 s) fun z2 s3 => if z2 = (0 : Int) then some ((-1 : Int), s3) else oX x1 6 (oV (s3.1 31 x1) fun z6 => if z6 = (-1 : Int) then some ((-1 : Int), s3) else oC (m140 s3) fun z9 s10 => oC (m56 34 28 s10) fun z12 s13 => m120_47 zFu x1 z9 (0 : Int) s13)
theorem c120 {G : aHp} {d : Nat} (hG : zG G) {x1 : Int} {s : zS} {r_ : Int} {s_ : zS} (hm : m120 x1 s = some (r_, s_)) : Zp G (d + 8) 120 0 [some (zr 11 0 0), some (zi x1), none, none] [] s (zRet (some (zi r_)) s_) := by
  replace hm : (oV (s.2.2 1) fun w1 => oC (m50 (w1 + 5) x1 s) fun z2 s3 => if z2 = (0 : Int) then some ((-1 : Int), s3) else oX x1 6 (oV (s3.1 31 x1) fun z6 => if z6 = (-1 : Int) then some ((-1 : Int), s3) else oC (m140 s3) fun z9 s10 => oC (m56 34 28 s10) fun z12 s13 => m120_47 zFu x1 z9 (0 : Int) s13)) = some (r_, s_) := hm
  refine z_aload_n (pc' := 1) hM120 rfl rfl rfl ?_
  obtain ⟨w1, ew1, hm⟩ := o_v hm
  refine z_fldM (pc' := 4) (q := 0) hG.2.1 hM120 rfl rfl (Or.inl rfl) rfl rfl ew1 ?_
  refine z_fldR (pc' := 7) hM120 rfl (zf_5_2 hG) rfl rfl ?_
  refine z_iload_n (pc' := 8) hM120 rfl rfl rfl ?_
  obtain ⟨z2, s3, h4, hm⟩ := o_c hm
  refine z_cv (d := d + 7) (pc' := 11) hM120 rfl hM50 rfl rfl rfl rfl rfl rfl (c50 (d := d + 6) hG h4) rfl ?_
  refine z_ifeq (pc' := 14) (t := 27) hM120 rfl rfl (fun h5 => ?_) (fun h5 => ?_)
  · replace hm := o_t hm h5
    refine z_iconst (pc' := 28) hM120 rfl rfl rfl ?_
    cases hm
    exact z_retI hM120 rfl rfl ⟨rfl, rfl⟩
  · replace hm := o_f hm h5
    refine z_aload_n (pc' := 15) hM120 rfl rfl rfl ?_
    refine z_fldR (pc' := 18) hM120 rfl (zf_11_8 hG) rfl rfl ?_
    refine z_fldR (pc' := 21) hM120 rfl (zf_7_2 hG) rfl rfl ?_
    refine z_iload_n (pc' := 22) hM120 rfl rfl rfl ?_
    obtain ⟨h7, hm⟩ := o_x hm
    obtain ⟨z6, ez6, hm⟩ := o_v hm
    refine z_iald (pc' := 23) (zGN hG) hM120 rfl rfl h7 ez6 ?_
    refine z_iconst (pc' := 24) hM120 rfl rfl rfl ?_
    refine z_cmpne (pc' := 27) (t := 29) hM120 rfl rfl (fun h8 => ?_) (fun h8 => ?_)
    · replace hm := o_t hm h8
      refine z_iconst (pc' := 28) hM120 rfl rfl rfl ?_
      cases hm
      exact z_retI hM120 rfl rfl ⟨rfl, rfl⟩
    · replace hm := o_f hm h8
      refine z_aload_n (pc' := 30) hM120 rfl rfl rfl ?_
      obtain ⟨z9, s10, h11, hm⟩ := o_c hm
      refine z_cv (d := d + 7) (pc' := 33) hM120 rfl hM140 rfl rfl rfl rfl rfl rfl (c140 (d := d + 5) hG h11) rfl ?_
      refine z_istore_n (pc' := 34) (l' := [some (zr 11 0 0), some (zi x1), some (zi z9), none]) hM120 rfl rfl rfl rfl ?_
      refine z_aload_n (pc' := 35) hM120 rfl rfl rfl ?_
      refine z_fldR (pc' := 38) hM120 rfl (zf_11_9 hG) rfl rfl ?_
      refine z_aload_n (pc' := 39) hM120 rfl rfl rfl ?_
      refine z_fldR (pc' := 42) hM120 rfl (zf_11_8 hG) rfl rfl ?_
      obtain ⟨z12, s13, h14, hm⟩ := o_c hm
      refine z_cvV (d := d + 7) (pc' := 45) hM120 rfl hM56 rfl rfl rfl rfl rfl rfl (c56 (d := d + 2) hG h14) rfl ?_
      refine z_iconst (pc' := 46) hM120 rfl rfl rfl ?_
      refine z_istore_n (pc' := 47) (l' := [some (zr 11 0 0), some (zi x1), some (zi z9), some (zi (0 : Int))]) hM120 rfl rfl rfl rfl ?_
      exact c120_47 hG hm
def m121  (s : zS) : Option (Int × zS) := oV (s.2.2 1) fun w1 => oV (s.1 (w1 + 1) 0) fun z2 => oC (m12 z2 s) fun z3 s4 => oV (sI s4 1 2 (0 : Int)) fun s6 => if z3 = (0 : Int) then oC (m136 (1 : Int) s6) fun z8 s9 => some (z8, s9) else oV (s6.1 24 0) fun z11 => some (z11, s6)
theorem c121 {G : aHp} {d : Nat} (hG : zG G) {s : zS} {r_ : Int} {s_ : zS} (hm : m121  s = some (r_, s_)) : Zp G (d + 3) 121 0 [some (zr 11 0 0), none] [] s (zRet (some (zi r_)) s_) := by
  replace hm : (oV (s.2.2 1) fun w1 => oV (s.1 (w1 + 1) 0) fun z2 => oC (m12 z2 s) fun z3 s4 => oV (sI s4 1 2 (0 : Int)) fun s6 => if z3 = (0 : Int) then oC (m136 (1 : Int) s6) fun z8 s9 => some (z8, s9) else oV (s6.1 24 0) fun z11 => some (z11, s6)) = some (r_, s_) := hm
  refine z_aload_n (pc' := 1) hM121 rfl rfl rfl ?_
  refine z_fldR (pc' := 4) hM121 rfl (zf_11_7 hG) rfl rfl ?_
  refine z_aload_n (pc' := 5) hM121 rfl rfl rfl ?_
  refine z_fldR (pc' := 8) hM121 rfl (zf_11_0 hG) rfl rfl ?_
  refine z_aload_n (pc' := 9) hM121 rfl rfl rfl ?_
  obtain ⟨w1, ew1, hm⟩ := o_v hm
  refine z_fldM (pc' := 12) (q := 0) hG.2.1 hM121 rfl rfl (Or.inl rfl) rfl rfl ew1 ?_
  refine z_fldR (pc' := 15) hM121 rfl (zf_5_0 hG) rfl rfl ?_
  obtain ⟨z2, ez2, hm⟩ := o_v hm
  refine z_fldI (pc' := 18) hM121 rfl rfl rfl ez2 ?_
  obtain ⟨z3, s4, h5, hm⟩ := o_c hm
  refine z_cv (d := d + 2) (pc' := 21) hM121 rfl hM12 rfl rfl rfl rfl rfl rfl (c12 (d := d) hG h5) rfl ?_
  refine z_istore_n (pc' := 22) (l' := [some (zr 11 0 0), some (zi z3)]) hM121 rfl rfl rfl rfl ?_
  refine z_aload_n (pc' := 23) hM121 rfl rfl rfl ?_
  refine z_fldR (pc' := 26) hM121 rfl (zf_11_0 hG) rfl rfl ?_
  refine z_iconst (pc' := 27) hM121 rfl rfl rfl ?_
  obtain ⟨s6, es6, hm⟩ := o_v hm
  refine z_putI (pc' := 30) hM121 rfl rfl rfl es6 ?_
  refine z_iload_n (pc' := 31) hM121 rfl rfl rfl ?_
  refine z_ifeq (pc' := 34) (t := 44) hM121 rfl rfl (fun h7 => ?_) (fun h7 => ?_)
  · replace hm := o_t hm h7
    refine z_aload_n (pc' := 45) hM121 rfl rfl rfl ?_
    refine z_iconst (pc' := 46) hM121 rfl rfl rfl ?_
    obtain ⟨z8, s9, h10, hm⟩ := o_c hm
    refine z_cv (d := d + 2) (pc' := 49) hM121 rfl hM136 rfl rfl rfl rfl rfl rfl (c136 (d := d + 1) hG h10) rfl ?_
    cases hm
    exact z_retI hM121 rfl rfl ⟨rfl, rfl⟩
  · replace hm := o_f hm h7
    refine z_aload_n (pc' := 35) hM121 rfl rfl rfl ?_
    refine z_fldR (pc' := 38) hM121 rfl (zf_11_7 hG) rfl rfl ?_
    obtain ⟨z11, ez11, hm⟩ := o_v hm
    refine z_fldI (pc' := 41) hM121 rfl rfl rfl ez11 ?_
    refine z_goto (t := 49) hM121 rfl ?_
    cases hm
    exact z_retI hM121 rfl rfl ⟨rfl, rfl⟩
def m122 (x1 : Int) (s : zS) : Option (Int × zS) := if x1 < (0 : Int) then some ((-1 : Int), s) else if (2 : Int) < x1 then some ((-1 : Int), s) else oV (s.2.2 1) fun w3 => oC (m13 28 w3 s) fun z4 s5 => if x1 = (0 : Int) then oV (s5.1 24 1) fun z8 => some (z8, s5) else if x1 = (1 : Int) then oV (s5.1 24 2) fun z10 => some (z10, s5) else oV (s5.1 24 3) fun z11 => some (z11, s5)
theorem c122 {G : aHp} {d : Nat} (hG : zG G) {x1 : Int} {s : zS} {r_ : Int} {s_ : zS} (hm : m122 x1 s = some (r_, s_)) : Zp G (d + 8) 122 0 [some (zr 11 0 0), some (zi x1)] [] s (zRet (some (zi r_)) s_) := by
  replace hm : (if x1 < (0 : Int) then some ((-1 : Int), s) else if (2 : Int) < x1 then some ((-1 : Int), s) else oV (s.2.2 1) fun w3 => oC (m13 28 w3 s) fun z4 s5 => if x1 = (0 : Int) then oV (s5.1 24 1) fun z8 => some (z8, s5) else if x1 = (1 : Int) then oV (s5.1 24 2) fun z10 => some (z10, s5) else oV (s5.1 24 3) fun z11 => some (z11, s5)) = some (r_, s_) := hm
  refine z_iload_n (pc' := 1) hM122 rfl rfl rfl ?_
  refine z_iflt (pc' := 4) (t := 9) hM122 rfl rfl (fun h1 => ?_) (fun h1 => ?_)
  · replace hm := o_t hm h1
    refine z_iconst (pc' := 10) hM122 rfl rfl rfl ?_
    cases hm
    exact z_retI hM122 rfl rfl ⟨rfl, rfl⟩
  · replace hm := o_f hm h1
    refine z_iload_n (pc' := 5) hM122 rfl rfl rfl ?_
    refine z_iconst (pc' := 6) hM122 rfl rfl rfl ?_
    refine z_cmple (pc' := 9) (t := 11) hM122 rfl rfl (fun h2 => ?_) (fun h2 => ?_)
    · replace hm := o_t hm h2
      refine z_iconst (pc' := 10) hM122 rfl rfl rfl ?_
      cases hm
      exact z_retI hM122 rfl rfl ⟨rfl, rfl⟩
    · replace hm := o_f hm h2
      refine z_aload_n (pc' := 12) hM122 rfl rfl rfl ?_
      refine z_fldR (pc' := 15) hM122 rfl (zf_11_7 hG) rfl rfl ?_
      refine z_aload_n (pc' := 16) hM122 rfl rfl rfl ?_
      refine z_fldR (pc' := 19) hM122 rfl (zf_11_8 hG) rfl rfl ?_
      refine z_aload_n (pc' := 20) hM122 rfl rfl rfl ?_
      obtain ⟨w3, ew3, hm⟩ := o_v hm
      refine z_fldM (pc' := 23) (q := 0) hG.2.1 hM122 rfl rfl (Or.inl rfl) rfl rfl ew3 ?_
      refine z_aload_n (pc' := 24) hM122 rfl rfl rfl ?_
      refine z_fldR (pc' := 27) hM122 rfl (zf_11_5 hG) rfl rfl ?_
      obtain ⟨z4, s5, h6, hm⟩ := o_c hm
      refine z_cvV (d := d + 7) (pc' := 30) hM122 rfl hM13 rfl rfl rfl rfl rfl rfl (c13 (d := d) hG h6) rfl ?_
      refine z_iload_n (pc' := 31) hM122 rfl rfl rfl ?_
      refine z_ifne (pc' := 34) (t := 42) hM122 rfl rfl (fun h7 => ?_) (fun h7 => ?_)
      · replace hm := o_t hm h7
        refine z_aload_n (pc' := 35) hM122 rfl rfl rfl ?_
        refine z_fldR (pc' := 38) hM122 rfl (zf_11_7 hG) rfl rfl ?_
        obtain ⟨z8, ez8, hm⟩ := o_v hm
        refine z_fldI (pc' := 41) hM122 rfl rfl rfl ez8 ?_
        cases hm
        exact z_retI hM122 rfl rfl ⟨rfl, rfl⟩
      · replace hm := o_f hm h7
        refine z_iload_n (pc' := 43) hM122 rfl rfl rfl ?_
        refine z_iconst (pc' := 44) hM122 rfl rfl rfl ?_
        refine z_cmpne (pc' := 47) (t := 57) hM122 rfl rfl (fun h9 => ?_) (fun h9 => ?_)
        · replace hm := o_t hm h9
          refine z_aload_n (pc' := 48) hM122 rfl rfl rfl ?_
          refine z_fldR (pc' := 51) hM122 rfl (zf_11_7 hG) rfl rfl ?_
          obtain ⟨z10, ez10, hm⟩ := o_v hm
          refine z_fldI (pc' := 54) hM122 rfl rfl rfl ez10 ?_
          refine z_goto (t := 64) hM122 rfl ?_
          cases hm
          exact z_retI hM122 rfl rfl ⟨rfl, rfl⟩
        · replace hm := o_f hm h9
          refine z_aload_n (pc' := 58) hM122 rfl rfl rfl ?_
          refine z_fldR (pc' := 61) hM122 rfl (zf_11_7 hG) rfl rfl ?_
          obtain ⟨z11, ez11, hm⟩ := o_v hm
          refine z_fldI (pc' := 64) hM122 rfl rfl rfl ez11 ?_
          cases hm
          exact z_retI hM122 rfl rfl ⟨rfl, rfl⟩
def m123 (x1 : Int) (s : zS) : Option (Int × zS) := if x1 < (0 : Int) then some ((-1 : Int), s) else if (1 : Int) < x1 then some ((-1 : Int), s) else oV (s.2.2 1) fun w3 => oC (m13 28 w3 s) fun z4 s5 => oV (s5.1 24 1) fun z7 => if z7 = (0 : Int) then some ((-1 : Int), s5) else oC (m17 s5) fun z9 s10 => if x1 = (0 : Int) then some (z9, s10) else oC (m16 z9 s10) fun z13 s14 => some (z13, s14)
theorem c123 {G : aHp} {d : Nat} (hG : zG G) {x1 : Int} {s : zS} {r_ : Int} {s_ : zS} (hm : m123 x1 s = some (r_, s_)) : Zp G (d + 8) 123 0 [some (zr 11 0 0), some (zi x1), none] [] s (zRet (some (zi r_)) s_) := by
  replace hm : (if x1 < (0 : Int) then some ((-1 : Int), s) else if (1 : Int) < x1 then some ((-1 : Int), s) else oV (s.2.2 1) fun w3 => oC (m13 28 w3 s) fun z4 s5 => oV (s5.1 24 1) fun z7 => if z7 = (0 : Int) then some ((-1 : Int), s5) else oC (m17 s5) fun z9 s10 => if x1 = (0 : Int) then some (z9, s10) else oC (m16 z9 s10) fun z13 s14 => some (z13, s14)) = some (r_, s_) := hm
  refine z_iload_n (pc' := 1) hM123 rfl rfl rfl ?_
  refine z_iflt (pc' := 4) (t := 9) hM123 rfl rfl (fun h1 => ?_) (fun h1 => ?_)
  · replace hm := o_t hm h1
    refine z_iconst (pc' := 10) hM123 rfl rfl rfl ?_
    cases hm
    exact z_retI hM123 rfl rfl ⟨rfl, rfl⟩
  · replace hm := o_f hm h1
    refine z_iload_n (pc' := 5) hM123 rfl rfl rfl ?_
    refine z_iconst (pc' := 6) hM123 rfl rfl rfl ?_
    refine z_cmple (pc' := 9) (t := 11) hM123 rfl rfl (fun h2 => ?_) (fun h2 => ?_)
    · replace hm := o_t hm h2
      refine z_iconst (pc' := 10) hM123 rfl rfl rfl ?_
      cases hm
      exact z_retI hM123 rfl rfl ⟨rfl, rfl⟩
    · replace hm := o_f hm h2
      refine z_aload_n (pc' := 12) hM123 rfl rfl rfl ?_
      refine z_fldR (pc' := 15) hM123 rfl (zf_11_7 hG) rfl rfl ?_
      refine z_aload_n (pc' := 16) hM123 rfl rfl rfl ?_
      refine z_fldR (pc' := 19) hM123 rfl (zf_11_8 hG) rfl rfl ?_
      refine z_aload_n (pc' := 20) hM123 rfl rfl rfl ?_
      obtain ⟨w3, ew3, hm⟩ := o_v hm
      refine z_fldM (pc' := 23) (q := 0) hG.2.1 hM123 rfl rfl (Or.inl rfl) rfl rfl ew3 ?_
      refine z_aload_n (pc' := 24) hM123 rfl rfl rfl ?_
      refine z_fldR (pc' := 27) hM123 rfl (zf_11_5 hG) rfl rfl ?_
      obtain ⟨z4, s5, h6, hm⟩ := o_c hm
      refine z_cvV (d := d + 7) (pc' := 30) hM123 rfl hM13 rfl rfl rfl rfl rfl rfl (c13 (d := d) hG h6) rfl ?_
      refine z_aload_n (pc' := 31) hM123 rfl rfl rfl ?_
      refine z_fldR (pc' := 34) hM123 rfl (zf_11_7 hG) rfl rfl ?_
      obtain ⟨z7, ez7, hm⟩ := o_v hm
      refine z_fldI (pc' := 37) hM123 rfl rfl rfl ez7 ?_
      refine z_ifne (pc' := 40) (t := 42) hM123 rfl rfl (fun h8 => ?_) (fun h8 => ?_)
      · replace hm := o_t hm h8
        refine z_iconst (pc' := 41) hM123 rfl rfl rfl ?_
        cases hm
        exact z_retI hM123 rfl rfl ⟨rfl, rfl⟩
      · replace hm := o_f hm h8
        refine z_aload_n (pc' := 43) hM123 rfl rfl rfl ?_
        refine z_fldR (pc' := 46) hM123 rfl (zf_11_7 hG) rfl rfl ?_
        obtain ⟨z9, s10, h11, hm⟩ := o_c hm
        refine z_cv (d := d + 7) (pc' := 49) hM123 rfl hM17 rfl rfl rfl rfl rfl rfl (c17 (d := d + 4) hG h11) rfl ?_
        refine z_istore_n (pc' := 50) (l' := [some (zr 11 0 0), some (zi x1), some (zi z9)]) hM123 rfl rfl rfl rfl ?_
        refine z_iload_n (pc' := 51) hM123 rfl rfl rfl ?_
        refine z_ifne (pc' := 54) (t := 58) hM123 rfl rfl (fun h12 => ?_) (fun h12 => ?_)
        · replace hm := o_t hm h12
          refine z_iload_n (pc' := 55) hM123 rfl rfl rfl ?_
          refine z_goto (t := 66) hM123 rfl ?_
          cases hm
          exact z_retI hM123 rfl rfl ⟨rfl, rfl⟩
        · replace hm := o_f hm h12
          refine z_aload_n (pc' := 59) hM123 rfl rfl rfl ?_
          refine z_fldR (pc' := 62) hM123 rfl (zf_11_7 hG) rfl rfl ?_
          refine z_iload_n (pc' := 63) hM123 rfl rfl rfl ?_
          obtain ⟨z13, s14, h15, hm⟩ := o_c hm
          refine z_cv (d := d + 7) (pc' := 66) hM123 rfl hM16 rfl rfl rfl rfl rfl rfl (c16 (d := d + 5) hG h15) rfl ?_
          cases hm
          exact z_retI hM123 rfl rfl ⟨rfl, rfl⟩
def m145  (s : zS) : Option (Int × zS) := oV (s.1 0 16) fun z1 => oV (s.1 0 17) fun z2 => oZ (z1 + z2) fun z3 => oN (20 : Int) (oV (Int.tmod z3 (20 : Int)) fun z5 => oX z5 20 (oV (89 + 6 * z5.toNat) fun w8 => oC (m56 w8 28 s) fun z9 s10 => oV (s10.1 0 17) fun z12 => if z12 < (20 : Int) then oV (s10.1 0 17) fun z14 => oZ (z14 + (1 : Int)) fun z15 => oV (sI s10 0 17 z15) fun s17 => some (0, s17) else oV (s10.1 0 16) fun z18 => oZ (z18 + (1 : Int)) fun z19 => oN (20 : Int) (oV (Int.tmod z19 (20 : Int)) fun z21 => oV (sI s10 0 16 z21) fun s22 => some (0, s22))))
theorem c145 {G : aHp} {d : Nat} (hG : zG G) {s : zS} {r_ : Int} {s_ : zS} (hm : m145  s = some (r_, s_)) : Zp G (d + 6) 145 0 [some (zr 11 0 0)] [] s (zRet none s_) := by
  replace hm : (oV (s.1 0 16) fun z1 => oV (s.1 0 17) fun z2 => oZ (z1 + z2) fun z3 => oN (20 : Int) (oV (Int.tmod z3 (20 : Int)) fun z5 => oX z5 20 (oV (89 + 6 * z5.toNat) fun w8 => oC (m56 w8 28 s) fun z9 s10 => oV (s10.1 0 17) fun z12 => if z12 < (20 : Int) then oV (s10.1 0 17) fun z14 => oZ (z14 + (1 : Int)) fun z15 => oV (sI s10 0 17 z15) fun s17 => some (0, s17) else oV (s10.1 0 16) fun z18 => oZ (z18 + (1 : Int)) fun z19 => oN (20 : Int) (oV (Int.tmod z19 (20 : Int)) fun z21 => oV (sI s10 0 16 z21) fun s22 => some (0, s22))))) = some (r_, s_) := hm
  refine z_aload_n (pc' := 1) hM145 rfl rfl rfl ?_
  refine z_fldR (pc' := 4) hM145 rfl (zf_11_10 hG) rfl rfl ?_
  refine z_aload_n (pc' := 5) hM145 rfl rfl rfl ?_
  obtain ⟨z1, ez1, hm⟩ := o_v hm
  refine z_fldI (pc' := 8) hM145 rfl rfl rfl ez1 ?_
  refine z_aload_n (pc' := 9) hM145 rfl rfl rfl ?_
  obtain ⟨z2, ez2, hm⟩ := o_v hm
  refine z_fldI (pc' := 12) hM145 rfl rfl rfl ez2 ?_
  obtain ⟨z3, ez3, h4, hm⟩ := o_z hm
  refine z_iadd (pc' := 13) hM145 rfl rfl ez3 h4 ?_
  refine z_bipush (pc' := 15) hM145 rfl rfl rfl ?_
  obtain ⟨nz5, hm⟩ := o_n hm
  obtain ⟨z5, ez5, hm⟩ := o_v hm
  refine z_irem (pc' := 16) hM145 rfl rfl nz5 ez5 ?_
  obtain ⟨h7, hm⟩ := o_x hm
  obtain ⟨w8, ew8, hm⟩ := o_v hm
  refine z_aald (pc' := 17) hG.2.2.1 hM145 rfl rfl h7 ew8 ?_
  refine z_aload_n (pc' := 18) hM145 rfl rfl rfl ?_
  refine z_fldR (pc' := 21) hM145 rfl (zf_11_8 hG) rfl rfl ?_
  obtain ⟨z9, s10, h11, hm⟩ := o_c hm
  refine z_cvV (d := d + 5) (pc' := 24) hM145 rfl hM56 rfl rfl rfl rfl rfl rfl (c56 (d := d) hG h11) rfl ?_
  refine z_aload_n (pc' := 25) hM145 rfl rfl rfl ?_
  obtain ⟨z12, ez12, hm⟩ := o_v hm
  refine z_fldI (pc' := 28) hM145 rfl rfl rfl ez12 ?_
  refine z_bipush (pc' := 30) hM145 rfl rfl rfl ?_
  refine z_cmpge (pc' := 33) (t := 46) hM145 rfl rfl (fun h13 => ?_) (fun h13 => ?_)
  · replace hm := o_t hm h13
    refine z_aload_n (pc' := 34) hM145 rfl rfl rfl ?_
    refine z_dupA (pc' := 35) hM145 rfl rfl ?_
    obtain ⟨z14, ez14, hm⟩ := o_v hm
    refine z_fldI (pc' := 38) hM145 rfl rfl rfl ez14 ?_
    refine z_iconst (pc' := 39) hM145 rfl rfl rfl ?_
    obtain ⟨z15, ez15, h16, hm⟩ := o_z hm
    refine z_iadd (pc' := 40) hM145 rfl rfl ez15 h16 ?_
    obtain ⟨s17, es17, hm⟩ := o_v hm
    refine z_putI (pc' := 43) hM145 rfl rfl rfl es17 ?_
    refine z_goto (t := 59) hM145 rfl ?_
    cases hm
    exact z_retV hM145 rfl rfl ⟨rfl, rfl⟩
  · replace hm := o_f hm h13
    refine z_aload_n (pc' := 47) hM145 rfl rfl rfl ?_
    refine z_aload_n (pc' := 48) hM145 rfl rfl rfl ?_
    obtain ⟨z18, ez18, hm⟩ := o_v hm
    refine z_fldI (pc' := 51) hM145 rfl rfl rfl ez18 ?_
    refine z_iconst (pc' := 52) hM145 rfl rfl rfl ?_
    obtain ⟨z19, ez19, h20, hm⟩ := o_z hm
    refine z_iadd (pc' := 53) hM145 rfl rfl ez19 h20 ?_
    refine z_bipush (pc' := 55) hM145 rfl rfl rfl ?_
    obtain ⟨nz21, hm⟩ := o_n hm
    obtain ⟨z21, ez21, hm⟩ := o_v hm
    refine z_irem (pc' := 56) hM145 rfl rfl nz21 ez21 ?_
    obtain ⟨s22, es22, hm⟩ := o_v hm
    refine z_putI (pc' := 59) hM145 rfl rfl rfl es22 ?_
    cases hm
    exact z_retV hM145 rfl rfl ⟨rfl, rfl⟩
