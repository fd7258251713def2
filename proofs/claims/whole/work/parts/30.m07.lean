/-! ===== methods (by gen_mir.py) ===== -/
def m124 (x1 : Int) (s : zS) : Option (Int × zS) := oC (m137 x1 s) fun z1 s2 => if z1 = (0 : Int) then oC (m136 (2 : Int) s2) fun z5 s6 => some (z5, s6) else oV (s2.1 28 5) fun z8 => if z8 = (0 : Int) then oC (m136 (2 : Int) s2) fun z10 s11 => some (z10, s11) else oC (m145 s2) fun z13 s14 => oV (s14.2.2 1) fun w16 => oV (s14.1 28 7) fun z17 => oC (m62 28 w16 x1 z17 s14) fun z18 s19 => some (z18, s19)
theorem c124 {G : aHp} {d : Nat} (hG : zG G) {x1 : Int} {s : zS} {r_ : Int} {s_ : zS} (hm : m124 x1 s = some (r_, s_)) : Zp G (d + 7) 124 0 [some (zr 11 0 0), some (zi x1)] [] s (zRet (some (zi r_)) s_) := by
  replace hm : (oC (m137 x1 s) fun z1 s2 => if z1 = (0 : Int) then oC (m136 (2 : Int) s2) fun z5 s6 => some (z5, s6) else oV (s2.1 28 5) fun z8 => if z8 = (0 : Int) then oC (m136 (2 : Int) s2) fun z10 s11 => some (z10, s11) else oC (m145 s2) fun z13 s14 => oV (s14.2.2 1) fun w16 => oV (s14.1 28 7) fun z17 => oC (m62 28 w16 x1 z17 s14) fun z18 s19 => some (z18, s19)) = some (r_, s_) := hm
  refine z_aload_n (pc' := 1) hM124 rfl rfl rfl ?_
  refine z_iload_n (pc' := 2) hM124 rfl rfl rfl ?_
  obtain ⟨z1, s2, h3, hm⟩ := o_c hm
  refine z_cv (d := d + 6) (pc' := 5) hM124 rfl hM137 rfl rfl rfl rfl rfl rfl (c137 (d := d + 4) hG h3) rfl ?_
  refine z_ifeq (pc' := 8) (t := 18) hM124 rfl rfl (fun h4 => ?_) (fun h4 => ?_)
  · replace hm := o_t hm h4
    refine z_aload_n (pc' := 19) hM124 rfl rfl rfl ?_
    refine z_iconst (pc' := 20) hM124 rfl rfl rfl ?_
    obtain ⟨z5, s6, h7, hm⟩ := o_c hm
    refine z_cv (d := d + 6) (pc' := 23) hM124 rfl hM136 rfl rfl rfl rfl rfl rfl (c136 (d := d + 5) hG h7) rfl ?_
    cases hm
    exact z_retI hM124 rfl rfl ⟨rfl, rfl⟩
  · replace hm := o_f hm h4
    refine z_aload_n (pc' := 9) hM124 rfl rfl rfl ?_
    refine z_fldR (pc' := 12) hM124 rfl (zf_11_8 hG) rfl rfl ?_
    obtain ⟨z8, ez8, hm⟩ := o_v hm
    refine z_fldI (pc' := 15) hM124 rfl rfl rfl ez8 ?_
    refine z_ifne (pc' := 18) (t := 24) hM124 rfl rfl (fun h9 => ?_) (fun h9 => ?_)
    · replace hm := o_t hm h9
      refine z_aload_n (pc' := 19) hM124 rfl rfl rfl ?_
      refine z_iconst (pc' := 20) hM124 rfl rfl rfl ?_
      obtain ⟨z10, s11, h12, hm⟩ := o_c hm
      refine z_cv (d := d + 6) (pc' := 23) hM124 rfl hM136 rfl rfl rfl rfl rfl rfl (c136 (d := d + 5) hG h12) rfl ?_
      cases hm
      exact z_retI hM124 rfl rfl ⟨rfl, rfl⟩
    · replace hm := o_f hm h9
      refine z_aload_n (pc' := 25) hM124 rfl rfl rfl ?_
      obtain ⟨z13, s14, h15, hm⟩ := o_c hm
      refine z_cvV (d := d + 6) (pc' := 28) hM124 rfl hM145 rfl rfl rfl rfl rfl rfl (c145 (d := d) hG h15) rfl ?_
      refine z_aload_n (pc' := 29) hM124 rfl rfl rfl ?_
      refine z_fldR (pc' := 32) hM124 rfl (zf_11_8 hG) rfl rfl ?_
      refine z_aload_n (pc' := 33) hM124 rfl rfl rfl ?_
      obtain ⟨w16, ew16, hm⟩ := o_v hm
      refine z_fldM (pc' := 36) (q := 0) hG.2.1 hM124 rfl rfl (Or.inl rfl) rfl rfl ew16 ?_
      refine z_iload_n (pc' := 37) hM124 rfl rfl rfl ?_
      refine z_aload_n (pc' := 38) hM124 rfl rfl rfl ?_
      refine z_fldR (pc' := 41) hM124 rfl (zf_11_8 hG) rfl rfl ?_
      obtain ⟨z17, ez17, hm⟩ := o_v hm
      refine z_fldI (pc' := 44) hM124 rfl rfl rfl ez17 ?_
      obtain ⟨z18, s19, h20, hm⟩ := o_c hm
      refine z_cv (d := d + 6) (pc' := 47) hM124 rfl hM62 rfl rfl rfl rfl rfl rfl (c62 (d := d + 2) hG h20) rfl ?_
      cases hm
      exact z_retI hM124 rfl rfl ⟨rfl, rfl⟩
def m125 (x1 : Int) (s : zS) : Option (Int × zS) := oV (s.2.2 1) fun w1 => oC (m50 (w1 + 5) x1 s) fun z2 s3 => if z2 = (0 : Int) then oC (m136 (2 : Int) s3) fun z6 s7 => some (z6, s7) else oX x1 6 (oV (s3.1 31 x1) fun z9 => if z9 = (-1 : Int) then oC (m136 (2 : Int) s3) fun z12 s13 => some (z12, s13) else oC (m145 s3) fun z15 s16 => oC (m63 28 x1 s16) fun z18 s19 => some (z18, s19))
theorem c125 {G : aHp} {d : Nat} (hG : zG G) {x1 : Int} {s : zS} {r_ : Int} {s_ : zS} (hm : m125 x1 s = some (r_, s_)) : Zp G (d + 7) 125 0 [some (zr 11 0 0), some (zi x1)] [] s (zRet (some (zi r_)) s_) := by
  replace hm : (oV (s.2.2 1) fun w1 => oC (m50 (w1 + 5) x1 s) fun z2 s3 => if z2 = (0 : Int) then oC (m136 (2 : Int) s3) fun z6 s7 => some (z6, s7) else oX x1 6 (oV (s3.1 31 x1) fun z9 => if z9 = (-1 : Int) then oC (m136 (2 : Int) s3) fun z12 s13 => some (z12, s13) else oC (m145 s3) fun z15 s16 => oC (m63 28 x1 s16) fun z18 s19 => some (z18, s19))) = some (r_, s_) := hm
  refine z_aload_n (pc' := 1) hM125 rfl rfl rfl ?_
  obtain ⟨w1, ew1, hm⟩ := o_v hm
  refine z_fldM (pc' := 4) (q := 0) hG.2.1 hM125 rfl rfl (Or.inl rfl) rfl rfl ew1 ?_
  refine z_fldR (pc' := 7) hM125 rfl (zf_5_2 hG) rfl rfl ?_
  refine z_iload_n (pc' := 8) hM125 rfl rfl rfl ?_
  obtain ⟨z2, s3, h4, hm⟩ := o_c hm
  refine z_cv (d := d + 6) (pc' := 11) hM125 rfl hM50 rfl rfl rfl rfl rfl rfl (c50 (d := d + 5) hG h4) rfl ?_
  refine z_ifeq (pc' := 14) (t := 27) hM125 rfl rfl (fun h5 => ?_) (fun h5 => ?_)
  · replace hm := o_t hm h5
    refine z_aload_n (pc' := 28) hM125 rfl rfl rfl ?_
    refine z_iconst (pc' := 29) hM125 rfl rfl rfl ?_
    obtain ⟨z6, s7, h8, hm⟩ := o_c hm
    refine z_cv (d := d + 6) (pc' := 32) hM125 rfl hM136 rfl rfl rfl rfl rfl rfl (c136 (d := d + 5) hG h8) rfl ?_
    cases hm
    exact z_retI hM125 rfl rfl ⟨rfl, rfl⟩
  · replace hm := o_f hm h5
    refine z_aload_n (pc' := 15) hM125 rfl rfl rfl ?_
    refine z_fldR (pc' := 18) hM125 rfl (zf_11_8 hG) rfl rfl ?_
    refine z_fldR (pc' := 21) hM125 rfl (zf_7_2 hG) rfl rfl ?_
    refine z_iload_n (pc' := 22) hM125 rfl rfl rfl ?_
    obtain ⟨h10, hm⟩ := o_x hm
    obtain ⟨z9, ez9, hm⟩ := o_v hm
    refine z_iald (pc' := 23) (zGN hG) hM125 rfl rfl h10 ez9 ?_
    refine z_iconst (pc' := 24) hM125 rfl rfl rfl ?_
    refine z_cmpne (pc' := 27) (t := 33) hM125 rfl rfl (fun h11 => ?_) (fun h11 => ?_)
    · replace hm := o_t hm h11
      refine z_aload_n (pc' := 28) hM125 rfl rfl rfl ?_
      refine z_iconst (pc' := 29) hM125 rfl rfl rfl ?_
      obtain ⟨z12, s13, h14, hm⟩ := o_c hm
      refine z_cv (d := d + 6) (pc' := 32) hM125 rfl hM136 rfl rfl rfl rfl rfl rfl (c136 (d := d + 5) hG h14) rfl ?_
      cases hm
      exact z_retI hM125 rfl rfl ⟨rfl, rfl⟩
    · replace hm := o_f hm h11
      refine z_aload_n (pc' := 34) hM125 rfl rfl rfl ?_
      obtain ⟨z15, s16, h17, hm⟩ := o_c hm
      refine z_cvV (d := d + 6) (pc' := 37) hM125 rfl hM145 rfl rfl rfl rfl rfl rfl (c145 (d := d) hG h17) rfl ?_
      refine z_aload_n (pc' := 38) hM125 rfl rfl rfl ?_
      refine z_fldR (pc' := 41) hM125 rfl (zf_11_8 hG) rfl rfl ?_
      refine z_iload_n (pc' := 42) hM125 rfl rfl rfl ?_
      obtain ⟨z18, s19, h20, hm⟩ := o_c hm
      refine z_cv (d := d + 6) (pc' := 45) hM125 rfl hM63 rfl rfl rfl rfl rfl rfl (c63 (d := d + 4) hG h20) rfl ?_
      cases hm
      exact z_retI hM125 rfl rfl ⟨rfl, rfl⟩
def m126 (x1 : Int) (s : zS) : Option (Int × zS) := if x1 < (0 : Int) then oC (m136 (2 : Int) s) fun z2 s3 => some ((0 : Int), s3) else if (2 : Int) < x1 then oC (m136 (2 : Int) s) fun z6 s7 => some ((0 : Int), s7) else oV (s.1 28 7) fun z9 => if x1 = z9 then oC (m136 (2 : Int) s) fun z11 s12 => some ((0 : Int), s12) else oC (m145 s) fun z14 s15 => oV (sI s15 28 7 x1) fun s17 => some ((1 : Int), s17)
theorem c126 {G : aHp} {d : Nat} (hG : zG G) {x1 : Int} {s : zS} {r_ : Int} {s_ : zS} (hm : m126 x1 s = some (r_, s_)) : Zp G (d + 7) 126 0 [some (zr 11 0 0), some (zi x1)] [] s (zRet (some (zi r_)) s_) := by
  replace hm : (if x1 < (0 : Int) then oC (m136 (2 : Int) s) fun z2 s3 => some ((0 : Int), s3) else if (2 : Int) < x1 then oC (m136 (2 : Int) s) fun z6 s7 => some ((0 : Int), s7) else oV (s.1 28 7) fun z9 => if x1 = z9 then oC (m136 (2 : Int) s) fun z11 s12 => some ((0 : Int), s12) else oC (m145 s) fun z14 s15 => oV (sI s15 28 7 x1) fun s17 => some ((1 : Int), s17)) = some (r_, s_) := hm
  refine z_iload_n (pc' := 1) hM126 rfl rfl rfl ?_
  refine z_iflt (pc' := 4) (t := 20) hM126 rfl rfl (fun h1 => ?_) (fun h1 => ?_)
  · replace hm := o_t hm h1
    refine z_aload_n (pc' := 21) hM126 rfl rfl rfl ?_
    refine z_iconst (pc' := 22) hM126 rfl rfl rfl ?_
    obtain ⟨z2, s3, h4, hm⟩ := o_c hm
    refine z_cv (d := d + 6) (pc' := 25) hM126 rfl hM136 rfl rfl rfl rfl rfl rfl (c136 (d := d + 5) hG h4) rfl ?_
    refine z_pop (pc' := 26) hM126 rfl rfl ?_
    refine z_iconst (pc' := 27) hM126 rfl rfl rfl ?_
    cases hm
    exact z_retZ hM126 rfl rfl (Or.inl rfl) ⟨rfl, rfl⟩
  · replace hm := o_f hm h1
    refine z_iload_n (pc' := 5) hM126 rfl rfl rfl ?_
    refine z_iconst (pc' := 6) hM126 rfl rfl rfl ?_
    refine z_cmpgt (pc' := 9) (t := 20) hM126 rfl rfl (fun h5 => ?_) (fun h5 => ?_)
    · replace hm := o_t hm h5
      refine z_aload_n (pc' := 21) hM126 rfl rfl rfl ?_
      refine z_iconst (pc' := 22) hM126 rfl rfl rfl ?_
      obtain ⟨z6, s7, h8, hm⟩ := o_c hm
      refine z_cv (d := d + 6) (pc' := 25) hM126 rfl hM136 rfl rfl rfl rfl rfl rfl (c136 (d := d + 5) hG h8) rfl ?_
      refine z_pop (pc' := 26) hM126 rfl rfl ?_
      refine z_iconst (pc' := 27) hM126 rfl rfl rfl ?_
      cases hm
      exact z_retZ hM126 rfl rfl (Or.inl rfl) ⟨rfl, rfl⟩
    · replace hm := o_f hm h5
      refine z_iload_n (pc' := 10) hM126 rfl rfl rfl ?_
      refine z_aload_n (pc' := 11) hM126 rfl rfl rfl ?_
      refine z_fldR (pc' := 14) hM126 rfl (zf_11_8 hG) rfl rfl ?_
      obtain ⟨z9, ez9, hm⟩ := o_v hm
      refine z_fldI (pc' := 17) hM126 rfl rfl rfl ez9 ?_
      refine z_cmpne (pc' := 20) (t := 28) hM126 rfl rfl (fun h10 => ?_) (fun h10 => ?_)
      · replace hm := o_t hm h10
        refine z_aload_n (pc' := 21) hM126 rfl rfl rfl ?_
        refine z_iconst (pc' := 22) hM126 rfl rfl rfl ?_
        obtain ⟨z11, s12, h13, hm⟩ := o_c hm
        refine z_cv (d := d + 6) (pc' := 25) hM126 rfl hM136 rfl rfl rfl rfl rfl rfl (c136 (d := d + 5) hG h13) rfl ?_
        refine z_pop (pc' := 26) hM126 rfl rfl ?_
        refine z_iconst (pc' := 27) hM126 rfl rfl rfl ?_
        cases hm
        exact z_retZ hM126 rfl rfl (Or.inl rfl) ⟨rfl, rfl⟩
      · replace hm := o_f hm h10
        refine z_aload_n (pc' := 29) hM126 rfl rfl rfl ?_
        obtain ⟨z14, s15, h16, hm⟩ := o_c hm
        refine z_cvV (d := d + 6) (pc' := 32) hM126 rfl hM145 rfl rfl rfl rfl rfl rfl (c145 (d := d) hG h16) rfl ?_
        refine z_aload_n (pc' := 33) hM126 rfl rfl rfl ?_
        refine z_fldR (pc' := 36) hM126 rfl (zf_11_8 hG) rfl rfl ?_
        refine z_iload_n (pc' := 37) hM126 rfl rfl rfl ?_
        obtain ⟨s17, es17, hm⟩ := o_v hm
        refine z_putI (pc' := 40) hM126 rfl rfl rfl es17 ?_
        refine z_iconst (pc' := 41) hM126 rfl rfl rfl ?_
        cases hm
        exact z_retZ hM126 rfl rfl (Or.inr rfl) ⟨rfl, rfl⟩
def m139 (x1 : Int) (s : zS) : Option (Int × zS) := if x1 < (1 : Int) then some ((0 : Int), s) else if (100 : Int) < x1 then some ((0 : Int), s) else oV (s.1 28 6) fun z3 => oZ ((999 : Int) - z3) fun z4 => if z4 < x1 then some ((0 : Int), s) else some ((1 : Int), s)
theorem c139 {G : aHp} {d : Nat} (hG : zG G) {x1 : Int} {s : zS} {r_ : Int} {s_ : zS} (hm : m139 x1 s = some (r_, s_)) : Zp G (d + 1) 139 0 [some (zr 11 0 0), some (zi x1)] [] s (zRet (some (zi r_)) s_) := by
  replace hm : (if x1 < (1 : Int) then some ((0 : Int), s) else if (100 : Int) < x1 then some ((0 : Int), s) else oV (s.1 28 6) fun z3 => oZ ((999 : Int) - z3) fun z4 => if z4 < x1 then some ((0 : Int), s) else some ((1 : Int), s)) = some (r_, s_) := hm
  refine z_iload_n (pc' := 1) hM139 rfl rfl rfl ?_
  refine z_iconst (pc' := 2) hM139 rfl rfl rfl ?_
  refine z_cmplt (pc' := 5) (t := 30) hM139 rfl rfl (fun h1 => ?_) (fun h1 => ?_)
  · replace hm := o_t hm h1
    refine z_iconst (pc' := 31) hM139 rfl rfl rfl ?_
    cases hm
    exact z_retZ hM139 rfl rfl (Or.inl rfl) ⟨rfl, rfl⟩
  · replace hm := o_f hm h1
    refine z_iload_n (pc' := 6) hM139 rfl rfl rfl ?_
    refine z_bipush (pc' := 8) hM139 rfl rfl rfl ?_
    refine z_cmpgt (pc' := 11) (t := 30) hM139 rfl rfl (fun h2 => ?_) (fun h2 => ?_)
    · replace hm := o_t hm h2
      refine z_iconst (pc' := 31) hM139 rfl rfl rfl ?_
      cases hm
      exact z_retZ hM139 rfl rfl (Or.inl rfl) ⟨rfl, rfl⟩
    · replace hm := o_f hm h2
      refine z_iload_n (pc' := 12) hM139 rfl rfl rfl ?_
      refine z_sipush (pc' := 15) hM139 rfl rfl rfl ?_
      refine z_aload_n (pc' := 16) hM139 rfl rfl rfl ?_
      refine z_fldR (pc' := 19) hM139 rfl (zf_11_8 hG) rfl rfl ?_
      obtain ⟨z3, ez3, hm⟩ := o_v hm
      refine z_fldI (pc' := 22) hM139 rfl rfl rfl ez3 ?_
      obtain ⟨z4, ez4, h5, hm⟩ := o_z hm
      refine z_isub (pc' := 23) hM139 rfl rfl ez4 h5 ?_
      refine z_cmpgt (pc' := 26) (t := 30) hM139 rfl rfl (fun h6 => ?_) (fun h6 => ?_)
      · replace hm := o_t hm h6
        refine z_iconst (pc' := 31) hM139 rfl rfl rfl ?_
        cases hm
        exact z_retZ hM139 rfl rfl (Or.inl rfl) ⟨rfl, rfl⟩
      · replace hm := o_f hm h6
        refine z_iconst (pc' := 27) hM139 rfl rfl rfl ?_
        refine z_goto (t := 31) hM139 rfl ?_
        cases hm
        exact z_retZ hM139 rfl rfl (Or.inr rfl) ⟨rfl, rfl⟩
def m127_40 (k32_ : Int → Int → Int → zS → Option (Int × zS)) : Nat → Int → Int → Int → Int → zS → Option (Int × zS)
  | 0, _, _, _, _, _ => none
  | n + 1, x1, x2, x3, x4, s => oV (s.2.2 1) fun w1 => oV (s.1 (w1 + 5) 0) fun z2 => if x4 < z2 then oC (m7 28 x4 s) fun z4 s5 => oZ (x4 + (1 : Int)) fun z7 => m127_40 k32_ n x1 x2 x3 z7 s5 else oV (s.1 28 6) fun z9 => oZ (z9 + (1 : Int)) fun z10 => oV (sI s 28 6 z10) fun s12 => oZ (x3 + (1 : Int)) fun z13 => k32_ x1 x2 z13 s12
theorem c127_40 {G : aHp} {d : Nat} {k32_ : Int → Int → Int → zS → Option (Int × zS)} (hG : zG G) (hk32 : ∀ {x1 : Int} {x2 : Int} {x3 : Int} {d4 : Option zV} {s : zS} {r_ : Int} {s_ : zS}, k32_ x1 x2 x3 s = some (r_, s_) → Zp G (d + 7) 127 32 [some (zr 11 0 0), some (zi x1), some (zi x2), some (zi x3), d4] [] s (zRet (some (zi r_)) s_)) : ∀ {n : Nat} {x1 : Int} {x2 : Int} {x3 : Int} {x4 : Int} {s : zS} {r_ : Int} {s_ : zS}, m127_40 k32_ n x1 x2 x3 x4 s = some (r_, s_) → Zp G (d + 7) 127 40 [some (zr 11 0 0), some (zi x1), some (zi x2), some (zi x3), some (zi x4)] [] s (zRet (some (zi r_)) s_) := by
  intro n
  induction n with
  | zero => intro x1 x2 x3 x4 s r_ s_ hm; cases hm
  | succ n ih =>
  intro x1 x2 x3 x4 s r_ s_ hm
  replace hm : (oV (s.2.2 1) fun w1 => oV (s.1 (w1 + 5) 0) fun z2 => if x4 < z2 then oC (m7 28 x4 s) fun z4 s5 => oZ (x4 + (1 : Int)) fun z7 => m127_40 k32_ n x1 x2 x3 z7 s5 else oV (s.1 28 6) fun z9 => oZ (z9 + (1 : Int)) fun z10 => oV (sI s 28 6 z10) fun s12 => oZ (x3 + (1 : Int)) fun z13 => k32_ x1 x2 z13 s12) = some (r_, s_) := hm
  refine z_iload (pc' := 42) hM127 rfl rfl rfl ?_
  refine z_aload_n (pc' := 43) hM127 rfl rfl rfl ?_
  obtain ⟨w1, ew1, hm⟩ := o_v hm
  refine z_fldM (pc' := 46) (q := 0) hG.2.1 hM127 rfl rfl (Or.inl rfl) rfl rfl ew1 ?_
  refine z_fldR (pc' := 49) hM127 rfl (zf_5_2 hG) rfl rfl ?_
  obtain ⟨z2, ez2, hm⟩ := o_v hm
  refine z_fldI (pc' := 52) hM127 rfl rfl rfl ez2 ?_
  refine z_cmpge (pc' := 55) (t := 74) hM127 rfl rfl (fun h3 => ?_) (fun h3 => ?_)
  · replace hm := o_t hm h3
    refine z_aload_n (pc' := 56) hM127 rfl rfl rfl ?_
    refine z_fldR (pc' := 59) hM127 rfl (zf_11_4 hG) rfl rfl ?_
    refine z_aload_n (pc' := 60) hM127 rfl rfl rfl ?_
    refine z_fldR (pc' := 63) hM127 rfl (zf_11_8 hG) rfl rfl ?_
    refine z_iload (pc' := 65) hM127 rfl rfl rfl ?_
    obtain ⟨z4, s5, h6, hm⟩ := o_c hm
    refine z_cvV (d := d + 6) (pc' := 68) hM127 rfl hM7 rfl rfl rfl rfl rfl rfl (c7 (d := d) hG h6) rfl ?_
    obtain ⟨z7, ez7, h8, hm⟩ := o_z hm
    refine z_iinc (pc' := 71) (l' := [some (zr 11 0 0), some (zi x1), some (zi x2), some (zi x3), some (zi z7)]) hM127 rfl rfl rfl ez7 h8 rfl rfl ?_
    refine z_goto (t := 40) hM127 rfl ?_
    exact ih hm
  · replace hm := o_f hm h3
    refine z_aload_n (pc' := 75) hM127 rfl rfl rfl ?_
    refine z_fldR (pc' := 78) hM127 rfl (zf_11_8 hG) rfl rfl ?_
    refine z_dupA (pc' := 79) hM127 rfl rfl ?_
    obtain ⟨z9, ez9, hm⟩ := o_v hm
    refine z_fldI (pc' := 82) hM127 rfl rfl rfl ez9 ?_
    refine z_iconst (pc' := 83) hM127 rfl rfl rfl ?_
    obtain ⟨z10, ez10, h11, hm⟩ := o_z hm
    refine z_iadd (pc' := 84) hM127 rfl rfl ez10 h11 ?_
    obtain ⟨s12, es12, hm⟩ := o_v hm
    refine z_putI (pc' := 87) hM127 rfl rfl rfl es12 ?_
    obtain ⟨z13, ez13, h14, hm⟩ := o_z hm
    refine z_iinc (pc' := 90) (l' := [some (zr 11 0 0), some (zi x1), some (zi x2), some (zi z13), some (zi x4)]) hM127 rfl rfl rfl ez13 h14 rfl rfl ?_
    refine z_goto (t := 32) hM127 rfl ?_
    exact hk32 hm
def m127_32 : Nat → Int → Int → Int → zS → Option (Int × zS)
  | 0, _, _, _, _ => none
  | n + 1, x1, x2, x3, s => if x3 < x1 then m127_40 (m127_32 n) zFu x1 x2 x3 (0 : Int) s else oC (m6 28 s) fun z2 s3 => oZ (z2 - x2) fun z5 => some (z5, s3)
theorem c127_32 {G : aHp} {d : Nat} (hG : zG G) : ∀ {n : Nat} {x1 : Int} {x2 : Int} {x3 : Int} {d4 : Option zV} {s : zS} {r_ : Int} {s_ : zS}, m127_32 n x1 x2 x3 s = some (r_, s_) → Zp G (d + 7) 127 32 [some (zr 11 0 0), some (zi x1), some (zi x2), some (zi x3), d4] [] s (zRet (some (zi r_)) s_) := by
  intro n
  induction n with
  | zero => intro x1 x2 x3 d4 s r_ s_ hm; cases hm
  | succ n ih =>
  intro x1 x2 x3 d4 s r_ s_ hm
  replace hm : (if x3 < x1 then m127_40 (m127_32 n) zFu x1 x2 x3 (0 : Int) s else oC (m6 28 s) fun z2 s3 => oZ (z2 - x2) fun z5 => some (z5, s3)) = some (r_, s_) := hm
  refine z_iload_n (pc' := 33) hM127 rfl rfl rfl ?_
  refine z_iload_n (pc' := 34) hM127 rfl rfl rfl ?_
  refine z_cmpge (pc' := 37) (t := 93) hM127 rfl rfl (fun h1 => ?_) (fun h1 => ?_)
  · replace hm := o_t hm h1
    refine z_iconst (pc' := 38) hM127 rfl rfl rfl ?_
    refine z_istore (pc' := 40) (l' := [some (zr 11 0 0), some (zi x1), some (zi x2), some (zi x3), some (zi (0 : Int))]) hM127 rfl rfl rfl rfl ?_
    exact c127_40 hG ih hm
  · replace hm := o_f hm h1
    refine z_aload_n (pc' := 94) hM127 rfl rfl rfl ?_
    refine z_fldR (pc' := 97) hM127 rfl (zf_11_4 hG) rfl rfl ?_
    refine z_aload_n (pc' := 98) hM127 rfl rfl rfl ?_
    refine z_fldR (pc' := 101) hM127 rfl (zf_11_8 hG) rfl rfl ?_
    obtain ⟨z2, s3, h4, hm⟩ := o_c hm
    refine z_cv (d := d + 6) (pc' := 104) hM127 rfl hM6 rfl rfl rfl rfl rfl rfl (c6 (d := d + 4) hG h4) rfl ?_
    refine z_iload_n (pc' := 105) hM127 rfl rfl rfl ?_
    obtain ⟨z5, ez5, h6, hm⟩ := o_z hm
    refine z_isub (pc' := 106) hM127 rfl rfl ez5 h6 ?_
    cases hm
    exact z_retI hM127 rfl rfl ⟨rfl, rfl⟩
def m127 (x1 : Int) (s : zS) : Option (Int × zS) := oC (m139 x1 s) fun z1 s2 => if z1 = (0 : Int) then oC (m136 (3 : Int) s2) fun z5 s6 => some (z5, s6) else oC (m145 s2) fun z8 s9 => oC (m6 28 s9) fun z11 s12 => m127_32 zFu x1 z11 (0 : Int) s12
theorem c127 {G : aHp} {d : Nat} (hG : zG G) {x1 : Int} {s : zS} {r_ : Int} {s_ : zS} (hm : m127 x1 s = some (r_, s_)) : Zp G (d + 7) 127 0 [some (zr 11 0 0), some (zi x1), none, none, none] [] s (zRet (some (zi r_)) s_) := by
  replace hm : (oC (m139 x1 s) fun z1 s2 => if z1 = (0 : Int) then oC (m136 (3 : Int) s2) fun z5 s6 => some (z5, s6) else oC (m145 s2) fun z8 s9 => oC (m6 28 s9) fun z11 s12 => m127_32 zFu x1 z11 (0 : Int) s12) = some (r_, s_) := hm
  refine z_aload_n (pc' := 1) hM127 rfl rfl rfl ?_
  refine z_iload_n (pc' := 2) hM127 rfl rfl rfl ?_
  obtain ⟨z1, s2, h3, hm⟩ := o_c hm
  refine z_cv (d := d + 6) (pc' := 5) hM127 rfl hM139 rfl rfl rfl rfl rfl rfl (c139 (d := d + 5) hG h3) rfl ?_
  refine z_ifne (pc' := 8) (t := 14) hM127 rfl rfl (fun h4 => ?_) (fun h4 => ?_)
  · replace hm := o_t hm h4
    refine z_aload_n (pc' := 9) hM127 rfl rfl rfl ?_
    refine z_iconst (pc' := 10) hM127 rfl rfl rfl ?_
    obtain ⟨z5, s6, h7, hm⟩ := o_c hm
    refine z_cv (d := d + 6) (pc' := 13) hM127 rfl hM136 rfl rfl rfl rfl rfl rfl (c136 (d := d + 5) hG h7) rfl ?_
    cases hm
    exact z_retI hM127 rfl rfl ⟨rfl, rfl⟩
  · replace hm := o_f hm h4
    refine z_aload_n (pc' := 15) hM127 rfl rfl rfl ?_
    obtain ⟨z8, s9, h10, hm⟩ := o_c hm
    refine z_cvV (d := d + 6) (pc' := 18) hM127 rfl hM145 rfl rfl rfl rfl rfl rfl (c145 (d := d) hG h10) rfl ?_
    refine z_aload_n (pc' := 19) hM127 rfl rfl rfl ?_
    refine z_fldR (pc' := 22) hM127 rfl (zf_11_4 hG) rfl rfl ?_
    refine z_aload_n (pc' := 23) hM127 rfl rfl rfl ?_
    refine z_fldR (pc' := 26) hM127 rfl (zf_11_8 hG) rfl rfl ?_
    obtain ⟨z11, s12, h13, hm⟩ := o_c hm
    refine z_cv (d := d + 6) (pc' := 29) hM127 rfl hM6 rfl rfl rfl rfl rfl rfl (c6 (d := d + 4) hG h13) rfl ?_
    refine z_istore_n (pc' := 30) (l' := [some (zr 11 0 0), some (zi x1), some (zi z11), none, none]) hM127 rfl rfl rfl rfl ?_
    refine z_iconst (pc' := 31) hM127 rfl rfl rfl ?_
    refine z_istore_n (pc' := 32) (l' := [some (zr 11 0 0), some (zi x1), some (zi z11), some (zi (0 : Int)), none]) hM127 rfl rfl rfl rfl ?_
    exact c127_32 hG hm
def m144 (x1 : Int) (s : zS) : Option (Int × zS) := oV (s.1 0 18) fun z1 => oJ ((1103515245 : Int) * z1) fun z2 => oJ (z2 + (12345 : Int)) fun z4 => oV (zAndJ z4 (2147483647 : Int)) fun z6 => oZ z6 fun z7 => oV (sI s 0 18 z7) fun s9 => if (0 : Int) < x1 then oV (s9.1 0 18) fun z11 => oN (64 : Int) (oZ (Int.tdiv z11 (64 : Int)) fun z12 => oN x1 (oV (Int.tmod z12 x1) fun z14 => some (z14, s9))) else some ((0 : Int), s9)
theorem c144 {G : aHp} {d : Nat} (hG : zG G) {x1 : Int} {s : zS} {r_ : Int} {s_ : zS} (hm : m144 x1 s = some (r_, s_)) : Zp G (d + 1) 144 0 [some (zr 11 0 0), some (zi x1)] [] s (zRet (some (zi r_)) s_) := by
  replace hm : (oV (s.1 0 18) fun z1 => oJ ((1103515245 : Int) * z1) fun z2 => oJ (z2 + (12345 : Int)) fun z4 => oV (zAndJ z4 (2147483647 : Int)) fun z6 => oZ z6 fun z7 => oV (sI s 0 18 z7) fun s9 => if (0 : Int) < x1 then oV (s9.1 0 18) fun z11 => oN (64 : Int) (oZ (Int.tdiv z11 (64 : Int)) fun z12 => oN x1 (oV (Int.tmod z12 x1) fun z14 => some (z14, s9))) else some ((0 : Int), s9)) = some (r_, s_) := hm
  refine z_aload_n (pc' := 1) hM144 rfl rfl rfl ?_
  refine z_ldc2 (pc' := 4) hM144 rfl rfl rfl ?_
  refine z_aload_n (pc' := 5) hM144 rfl rfl rfl ?_
  obtain ⟨z1, ez1, hm⟩ := o_v hm
  refine z_fldI (pc' := 8) hM144 rfl rfl rfl ez1 ?_
  refine z_i2l (pc' := 9) hM144 rfl rfl ?_
  obtain ⟨z2, ez2, h3, hm⟩ := o_j hm
  refine z_lmul (pc' := 10) hM144 rfl rfl ez2 h3 ?_
  refine z_ldc2 (pc' := 13) hM144 rfl rfl rfl ?_
  obtain ⟨z4, ez4, h5, hm⟩ := o_j hm
  refine z_ladd (pc' := 14) hM144 rfl rfl ez4 h5 ?_
  refine z_ldc2 (pc' := 17) hM144 rfl rfl rfl ?_
  obtain ⟨z6, ez6, hm⟩ := o_v hm
  refine z_land (pc' := 18) hM144 rfl rfl ez6 ?_
  obtain ⟨z7, ez7, h8, hm⟩ := o_z hm
  refine z_l2i (pc' := 19) hM144 rfl rfl ez7 h8 ?_
  obtain ⟨s9, es9, hm⟩ := o_v hm
  refine z_putI (pc' := 22) hM144 rfl rfl rfl es9 ?_
  refine z_iload_n (pc' := 23) hM144 rfl rfl rfl ?_
  refine z_ifle (pc' := 26) (t := 38) hM144 rfl rfl (fun h10 => ?_) (fun h10 => ?_)
  · replace hm := o_t hm h10
    refine z_aload_n (pc' := 27) hM144 rfl rfl rfl ?_
    obtain ⟨z11, ez11, hm⟩ := o_v hm
    refine z_fldI (pc' := 30) hM144 rfl rfl rfl ez11 ?_
    refine z_bipush (pc' := 32) hM144 rfl rfl rfl ?_
    obtain ⟨nz12, hm⟩ := o_n hm
    obtain ⟨z12, ez12, h13, hm⟩ := o_z hm
    refine z_idiv (pc' := 33) hM144 rfl rfl nz12 ez12 h13 ?_
    refine z_iload_n (pc' := 34) hM144 rfl rfl rfl ?_
    obtain ⟨nz14, hm⟩ := o_n hm
    obtain ⟨z14, ez14, hm⟩ := o_v hm
    refine z_irem (pc' := 35) hM144 rfl rfl nz14 ez14 ?_
    refine z_goto (t := 39) hM144 rfl ?_
    cases hm
    exact z_retI hM144 rfl rfl ⟨rfl, rfl⟩
  · replace hm := o_f hm h10
    refine z_iconst (pc' := 39) hM144 rfl rfl rfl ?_
    cases hm
    exact z_retI hM144 rfl rfl ⟨rfl, rfl⟩
def m143_4 : Nat → Int → Int → zS → Option (Int × zS)
  | 0, _, _, _ => none
  | n + 1, x1, x2, s => oV (s.2.2 1) fun w1 => oV (s.1 (w1 + 5) 0) fun z2 => if x2 < z2 then oX x2 6 (oV (s.1 31 x2) fun z4 => if z4 = (-1 : Int) then oZ (x2 + (1 : Int)) fun z7 => m143_4 n x1 z7 s else oC (m144 (100 : Int) s) fun z9 s10 => oV (s10.2.2 1) fun w12 => oV (s10.1 w12 19) fun z13 => if z9 < z13 then oZ (x1 + (1 : Int)) fun z15 => oZ (x2 + (1 : Int)) fun z17 => m143_4 n z15 z17 s10 else oC (m7 28 x2 s10) fun z19 s20 => oZ (x2 + (1 : Int)) fun z22 => m143_4 n x1 z22 s20) else oV (s.1 28 6) fun z24 => oZ (z24 + (1 : Int)) fun z25 => oV (sI s 28 6 z25) fun s27 => some (x1, s27)
theorem c143_4 {G : aHp} {d : Nat} (hG : zG G) : ∀ {n : Nat} {x1 : Int} {x2 : Int} {s : zS} {r_ : Int} {s_ : zS}, m143_4 n x1 x2 s = some (r_, s_) → Zp G (d + 7) 143 4 [some (zr 11 0 0), some (zi x1), some (zi x2)] [] s (zRet (some (zi r_)) s_) := by
  intro n
  induction n with
  | zero => intro x1 x2 s r_ s_ hm; cases hm
  | succ n ih =>
  intro x1 x2 s r_ s_ hm
  replace hm : (oV (s.2.2 1) fun w1 => oV (s.1 (w1 + 5) 0) fun z2 => if x2 < z2 then oX x2 6 (oV (s.1 31 x2) fun z4 => if z4 = (-1 : Int) then oZ (x2 + (1 : Int)) fun z7 => m143_4 n x1 z7 s else oC (m144 (100 : Int) s) fun z9 s10 => oV (s10.2.2 1) fun w12 => oV (s10.1 w12 19) fun z13 => if z9 < z13 then oZ (x1 + (1 : Int)) fun z15 => oZ (x2 + (1 : Int)) fun z17 => m143_4 n z15 z17 s10 else oC (m7 28 x2 s10) fun z19 s20 => oZ (x2 + (1 : Int)) fun z22 => m143_4 n x1 z22 s20) else oV (s.1 28 6) fun z24 => oZ (z24 + (1 : Int)) fun z25 => oV (sI s 28 6 z25) fun s27 => some (x1, s27)) = some (r_, s_) := hm
  refine z_iload_n (pc' := 5) hM143 rfl rfl rfl ?_
  refine z_aload_n (pc' := 6) hM143 rfl rfl rfl ?_
  obtain ⟨w1, ew1, hm⟩ := o_v hm
  refine z_fldM (pc' := 9) (q := 0) hG.2.1 hM143 rfl rfl (Or.inl rfl) rfl rfl ew1 ?_
  refine z_fldR (pc' := 12) hM143 rfl (zf_5_2 hG) rfl rfl ?_
  obtain ⟨z2, ez2, hm⟩ := o_v hm
  refine z_fldI (pc' := 15) hM143 rfl rfl rfl ez2 ?_
  refine z_cmpge (pc' := 18) (t := 71) hM143 rfl rfl (fun h3 => ?_) (fun h3 => ?_)
  · replace hm := o_t hm h3
    refine z_aload_n (pc' := 19) hM143 rfl rfl rfl ?_
    refine z_fldR (pc' := 22) hM143 rfl (zf_11_8 hG) rfl rfl ?_
    refine z_fldR (pc' := 25) hM143 rfl (zf_7_2 hG) rfl rfl ?_
    refine z_iload_n (pc' := 26) hM143 rfl rfl rfl ?_
    obtain ⟨h5, hm⟩ := o_x hm
    obtain ⟨z4, ez4, hm⟩ := o_v hm
    refine z_iald (pc' := 27) (zGN hG) hM143 rfl rfl h5 ez4 ?_
    refine z_iconst (pc' := 28) hM143 rfl rfl rfl ?_
    refine z_cmpeq (pc' := 31) (t := 65) hM143 rfl rfl (fun h6 => ?_) (fun h6 => ?_)
    · replace hm := o_t hm h6
      obtain ⟨z7, ez7, h8, hm⟩ := o_z hm
      refine z_iinc (pc' := 68) (l' := [some (zr 11 0 0), some (zi x1), some (zi z7)]) hM143 rfl rfl rfl ez7 h8 rfl rfl ?_
      refine z_goto (t := 4) hM143 rfl ?_
      exact ih hm
    · replace hm := o_f hm h6
      refine z_aload_n (pc' := 32) hM143 rfl rfl rfl ?_
      refine z_bipush (pc' := 34) hM143 rfl rfl rfl ?_
      obtain ⟨z9, s10, h11, hm⟩ := o_c hm
      refine z_cv (d := d + 6) (pc' := 37) hM143 rfl hM144 rfl rfl rfl rfl rfl rfl (c144 (d := d + 5) hG h11) rfl ?_
      refine z_aload_n (pc' := 38) hM143 rfl rfl rfl ?_
      obtain ⟨w12, ew12, hm⟩ := o_v hm
      refine z_fldM (pc' := 41) (q := 0) hG.2.1 hM143 rfl rfl (Or.inl rfl) rfl rfl ew12 ?_
      obtain ⟨z13, ez13, hm⟩ := o_v hm
      refine z_fldI (pc' := 44) hM143 rfl rfl rfl ez13 ?_
      refine z_cmpge (pc' := 47) (t := 53) hM143 rfl rfl (fun h14 => ?_) (fun h14 => ?_)
      · replace hm := o_t hm h14
        obtain ⟨z15, ez15, h16, hm⟩ := o_z hm
        refine z_iinc (pc' := 50) (l' := [some (zr 11 0 0), some (zi z15), some (zi x2)]) hM143 rfl rfl rfl ez15 h16 rfl rfl ?_
        refine z_goto (t := 65) hM143 rfl ?_
        obtain ⟨z17, ez17, h18, hm⟩ := o_z hm
        refine z_iinc (pc' := 68) (l' := [some (zr 11 0 0), some (zi z15), some (zi z17)]) hM143 rfl rfl rfl ez17 h18 rfl rfl ?_
        refine z_goto (t := 4) hM143 rfl ?_
        exact ih hm
      · replace hm := o_f hm h14
        refine z_aload_n (pc' := 54) hM143 rfl rfl rfl ?_
        refine z_fldR (pc' := 57) hM143 rfl (zf_11_4 hG) rfl rfl ?_
        refine z_aload_n (pc' := 58) hM143 rfl rfl rfl ?_
        refine z_fldR (pc' := 61) hM143 rfl (zf_11_8 hG) rfl rfl ?_
        refine z_iload_n (pc' := 62) hM143 rfl rfl rfl ?_
        obtain ⟨z19, s20, h21, hm⟩ := o_c hm
        refine z_cvV (d := d + 6) (pc' := 65) hM143 rfl hM7 rfl rfl rfl rfl rfl rfl (c7 (d := d) hG h21) rfl ?_
        obtain ⟨z22, ez22, h23, hm⟩ := o_z hm
        refine z_iinc (pc' := 68) (l' := [some (zr 11 0 0), some (zi x1), some (zi z22)]) hM143 rfl rfl rfl ez22 h23 rfl rfl ?_
        refine z_goto (t := 4) hM143 rfl ?_
        exact ih hm
  · replace hm := o_f hm h3
    refine z_aload_n (pc' := 72) hM143 rfl rfl rfl ?_
    refine z_fldR (pc' := 75) hM143 rfl (zf_11_8 hG) rfl rfl ?_
    refine z_dupA (pc' := 76) hM143 rfl rfl ?_
    obtain ⟨z24, ez24, hm⟩ := o_v hm
    refine z_fldI (pc' := 79) hM143 rfl rfl rfl ez24 ?_
    refine z_iconst (pc' := 80) hM143 rfl rfl rfl ?_
    obtain ⟨z25, ez25, h26, hm⟩ := o_z hm
    refine z_iadd (pc' := 81) hM143 rfl rfl ez25 h26 ?_
    obtain ⟨s27, es27, hm⟩ := o_v hm
    refine z_putI (pc' := 84) hM143 rfl rfl rfl es27 ?_
    refine z_iload_n (pc' := 85) hM143 rfl rfl rfl ?_
    cases hm
    exact z_retI hM143 rfl rfl ⟨rfl, rfl⟩
def m143  (s : zS) : Option (Int × zS) := m143_4 zFu (0 : Int) (0 : Int) s
theorem c143 {G : aHp} {d : Nat} (hG : zG G) {s : zS} {r_ : Int} {s_ : zS} (hm : m143  s = some (r_, s_)) : Zp G (d + 7) 143 0 [some (zr 11 0 0), none, none] [] s (zRet (some (zi r_)) s_) := by
  replace hm : (m143_4 zFu (0 : Int) (0 : Int) s) = some (r_, s_) := hm
  refine z_iconst (pc' := 1) hM143 rfl rfl rfl ?_
  refine z_istore_n (pc' := 2) (l' := [some (zr 11 0 0), some (zi (0 : Int)), none]) hM143 rfl rfl rfl rfl ?_
  refine z_iconst (pc' := 3) hM143 rfl rfl rfl ?_
  refine z_istore_n (pc' := 4) (l' := [some (zr 11 0 0), some (zi (0 : Int)), some (zi (0 : Int))]) hM143 rfl rfl rfl rfl ?_
  exact c143_4 hG hm
def m128_22 : Nat → Int → Int → Int → zS → Option (Int × zS)
  | 0, _, _, _, _ => none
  | n + 1, x1, x2, x3, s => if x3 < x1 then oC (m143 s) fun z2 s3 => oZ (x2 + z2) fun z5 => oZ (x3 + (1 : Int)) fun z7 => m128_22 n x1 z5 z7 s3 else some (x2, s)
theorem c128_22 {G : aHp} {d : Nat} (hG : zG G) : ∀ {n : Nat} {x1 : Int} {x2 : Int} {x3 : Int} {s : zS} {r_ : Int} {s_ : zS}, m128_22 n x1 x2 x3 s = some (r_, s_) → Zp G (d + 8) 128 22 [some (zr 11 0 0), some (zi x1), some (zi x2), some (zi x3)] [] s (zRet (some (zi r_)) s_) := by
  intro n
  induction n with
  | zero => intro x1 x2 x3 s r_ s_ hm; cases hm
  | succ n ih =>
  intro x1 x2 x3 s r_ s_ hm
  replace hm : (if x3 < x1 then oC (m143 s) fun z2 s3 => oZ (x2 + z2) fun z5 => oZ (x3 + (1 : Int)) fun z7 => m128_22 n x1 z5 z7 s3 else some (x2, s)) = some (r_, s_) := hm
  refine z_iload_n (pc' := 23) hM128 rfl rfl rfl ?_
  refine z_iload_n (pc' := 24) hM128 rfl rfl rfl ?_
  refine z_cmpge (pc' := 27) (t := 40) hM128 rfl rfl (fun h1 => ?_) (fun h1 => ?_)
  · replace hm := o_t hm h1
    refine z_iload_n (pc' := 28) hM128 rfl rfl rfl ?_
    refine z_aload_n (pc' := 29) hM128 rfl rfl rfl ?_
    obtain ⟨z2, s3, h4, hm⟩ := o_c hm
    refine z_cv (d := d + 7) (pc' := 32) hM128 rfl hM143 rfl rfl rfl rfl rfl rfl (c143 (d := d) hG h4) rfl ?_
    obtain ⟨z5, ez5, h6, hm⟩ := o_z hm
    refine z_iadd (pc' := 33) hM128 rfl rfl ez5 h6 ?_
    refine z_istore_n (pc' := 34) (l' := [some (zr 11 0 0), some (zi x1), some (zi z5), some (zi x3)]) hM128 rfl rfl rfl rfl ?_
    obtain ⟨z7, ez7, h8, hm⟩ := o_z hm
    refine z_iinc (pc' := 37) (l' := [some (zr 11 0 0), some (zi x1), some (zi z5), some (zi z7)]) hM128 rfl rfl rfl ez7 h8 rfl rfl ?_
    refine z_goto (t := 22) hM128 rfl ?_
    exact ih hm
  · replace hm := o_f hm h1
    refine z_iload_n (pc' := 41) hM128 rfl rfl rfl ?_
    cases hm
    exact z_retI hM128 rfl rfl ⟨rfl, rfl⟩
def m128 (x1 : Int) (s : zS) : Option (Int × zS) := oC (m139 x1 s) fun z1 s2 => if z1 = (0 : Int) then oC (m136 (3 : Int) s2) fun z5 s6 => some (z5, s6) else oC (m145 s2) fun z8 s9 => m128_22 zFu x1 (0 : Int) (0 : Int) s9
theorem c128 {G : aHp} {d : Nat} (hG : zG G) {x1 : Int} {s : zS} {r_ : Int} {s_ : zS} (hm : m128 x1 s = some (r_, s_)) : Zp G (d + 8) 128 0 [some (zr 11 0 0), some (zi x1), none, none] [] s (zRet (some (zi r_)) s_) := by
  replace hm : (oC (m139 x1 s) fun z1 s2 => if z1 = (0 : Int) then oC (m136 (3 : Int) s2) fun z5 s6 => some (z5, s6) else oC (m145 s2) fun z8 s9 => m128_22 zFu x1 (0 : Int) (0 : Int) s9) = some (r_, s_) := hm
  refine z_aload_n (pc' := 1) hM128 rfl rfl rfl ?_
  refine z_iload_n (pc' := 2) hM128 rfl rfl rfl ?_
  obtain ⟨z1, s2, h3, hm⟩ := o_c hm
  refine z_cv (d := d + 7) (pc' := 5) hM128 rfl hM139 rfl rfl rfl rfl rfl rfl (c139 (d := d + 6) hG h3) rfl ?_
  refine z_ifne (pc' := 8) (t := 14) hM128 rfl rfl (fun h4 => ?_) (fun h4 => ?_)
  · replace hm := o_t hm h4
    refine z_aload_n (pc' := 9) hM128 rfl rfl rfl ?_
    refine z_iconst (pc' := 10) hM128 rfl rfl rfl ?_
    obtain ⟨z5, s6, h7, hm⟩ := o_c hm
    refine z_cv (d := d + 7) (pc' := 13) hM128 rfl hM136 rfl rfl rfl rfl rfl rfl (c136 (d := d + 6) hG h7) rfl ?_
    cases hm
    exact z_retI hM128 rfl rfl ⟨rfl, rfl⟩
  · replace hm := o_f hm h4
    refine z_aload_n (pc' := 15) hM128 rfl rfl rfl ?_
    obtain ⟨z8, s9, h10, hm⟩ := o_c hm
    refine z_cvV (d := d + 7) (pc' := 18) hM128 rfl hM145 rfl rfl rfl rfl rfl rfl (c145 (d := d + 1) hG h10) rfl ?_
    refine z_iconst (pc' := 19) hM128 rfl rfl rfl ?_
    refine z_istore_n (pc' := 20) (l' := [some (zr 11 0 0), some (zi x1), some (zi (0 : Int)), none]) hM128 rfl rfl rfl rfl ?_
    refine z_iconst (pc' := 21) hM128 rfl rfl rfl ?_
    refine z_istore_n (pc' := 22) (l' := [some (zr 11 0 0), some (zi x1), some (zi (0 : Int)), some (zi (0 : Int))]) hM128 rfl rfl rfl rfl ?_
    exact c128_22 hG hm
def m129  (s : zS) : Option (Int × zS) := oV (s.1 0 17) fun z1 => if z1 = (0 : Int) then oC (m136 (4 : Int) s) fun z3 s4 => some ((0 : Int), s4) else oV (s.1 0 17) fun z6 => oZ (z6 - (1 : Int)) fun z7 => oV (sI s 0 17 z7) fun s9 => oV (s9.1 0 16) fun z10 => oV (s9.1 0 17) fun z11 => oZ (z10 + z11) fun z12 => oN (20 : Int) (oV (Int.tmod z12 (20 : Int)) fun z14 => oX z14 20 (oV (89 + 6 * z14.toNat) fun w17 => oC (m56 28 w17 s9) fun z18 s19 => some ((1 : Int), s19)))
theorem c129 {G : aHp} {d : Nat} (hG : zG G) {s : zS} {r_ : Int} {s_ : zS} (hm : m129  s = some (r_, s_)) : Zp G (d + 6) 129 0 [some (zr 11 0 0)] [] s (zRet (some (zi r_)) s_) := by
  replace hm : (oV (s.1 0 17) fun z1 => if z1 = (0 : Int) then oC (m136 (4 : Int) s) fun z3 s4 => some ((0 : Int), s4) else oV (s.1 0 17) fun z6 => oZ (z6 - (1 : Int)) fun z7 => oV (sI s 0 17 z7) fun s9 => oV (s9.1 0 16) fun z10 => oV (s9.1 0 17) fun z11 => oZ (z10 + z11) fun z12 => oN (20 : Int) (oV (Int.tmod z12 (20 : Int)) fun z14 => oX z14 20 (oV (89 + 6 * z14.toNat) fun w17 => oC (m56 28 w17 s9) fun z18 s19 => some ((1 : Int), s19)))) = some (r_, s_) := hm
  refine z_aload_n (pc' := 1) hM129 rfl rfl rfl ?_
  obtain ⟨z1, ez1, hm⟩ := o_v hm
  refine z_fldI (pc' := 4) hM129 rfl rfl rfl ez1 ?_
  refine z_ifne (pc' := 7) (t := 15) hM129 rfl rfl (fun h2 => ?_) (fun h2 => ?_)
  · replace hm := o_t hm h2
    refine z_aload_n (pc' := 8) hM129 rfl rfl rfl ?_
    refine z_iconst (pc' := 9) hM129 rfl rfl rfl ?_
    obtain ⟨z3, s4, h5, hm⟩ := o_c hm
    refine z_cv (d := d + 5) (pc' := 12) hM129 rfl hM136 rfl rfl rfl rfl rfl rfl (c136 (d := d + 4) hG h5) rfl ?_
    refine z_pop (pc' := 13) hM129 rfl rfl ?_
    refine z_iconst (pc' := 14) hM129 rfl rfl rfl ?_
    cases hm
    exact z_retZ hM129 rfl rfl (Or.inl rfl) ⟨rfl, rfl⟩
  · replace hm := o_f hm h2
    refine z_aload_n (pc' := 16) hM129 rfl rfl rfl ?_
    refine z_dupA (pc' := 17) hM129 rfl rfl ?_
    obtain ⟨z6, ez6, hm⟩ := o_v hm
    refine z_fldI (pc' := 20) hM129 rfl rfl rfl ez6 ?_
    refine z_iconst (pc' := 21) hM129 rfl rfl rfl ?_
    obtain ⟨z7, ez7, h8, hm⟩ := o_z hm
    refine z_isub (pc' := 22) hM129 rfl rfl ez7 h8 ?_
    obtain ⟨s9, es9, hm⟩ := o_v hm
    refine z_putI (pc' := 25) hM129 rfl rfl rfl es9 ?_
    refine z_aload_n (pc' := 26) hM129 rfl rfl rfl ?_
    refine z_fldR (pc' := 29) hM129 rfl (zf_11_8 hG) rfl rfl ?_
    refine z_aload_n (pc' := 30) hM129 rfl rfl rfl ?_
    refine z_fldR (pc' := 33) hM129 rfl (zf_11_10 hG) rfl rfl ?_
    refine z_aload_n (pc' := 34) hM129 rfl rfl rfl ?_
    obtain ⟨z10, ez10, hm⟩ := o_v hm
    refine z_fldI (pc' := 37) hM129 rfl rfl rfl ez10 ?_
    refine z_aload_n (pc' := 38) hM129 rfl rfl rfl ?_
    obtain ⟨z11, ez11, hm⟩ := o_v hm
    refine z_fldI (pc' := 41) hM129 rfl rfl rfl ez11 ?_
    obtain ⟨z12, ez12, h13, hm⟩ := o_z hm
    refine z_iadd (pc' := 42) hM129 rfl rfl ez12 h13 ?_
    refine z_bipush (pc' := 44) hM129 rfl rfl rfl ?_
    obtain ⟨nz14, hm⟩ := o_n hm
    obtain ⟨z14, ez14, hm⟩ := o_v hm
    refine z_irem (pc' := 45) hM129 rfl rfl nz14 ez14 ?_
    obtain ⟨h16, hm⟩ := o_x hm
    obtain ⟨w17, ew17, hm⟩ := o_v hm
    refine z_aald (pc' := 46) hG.2.2.1 hM129 rfl rfl h16 ew17 ?_
    obtain ⟨z18, s19, h20, hm⟩ := o_c hm
    refine z_cvV (d := d + 5) (pc' := 49) hM129 rfl hM56 rfl rfl rfl rfl rfl rfl (c56 (d := d) hG h20) rfl ?_
    refine z_iconst (pc' := 50) hM129 rfl rfl rfl ?_
    cases hm
    exact z_retZ hM129 rfl rfl (Or.inr rfl) ⟨rfl, rfl⟩
def m130 (x1 : Int) (s : zS) : Option (Int × zS) := if x1 < (0 : Int) then oC (m136 (5 : Int) s) fun z2 s3 => some ((0 : Int), s3) else oV (sI s 0 18 x1) fun s5 => some ((1 : Int), s5)
theorem c130 {G : aHp} {d : Nat} (hG : zG G) {x1 : Int} {s : zS} {r_ : Int} {s_ : zS} (hm : m130 x1 s = some (r_, s_)) : Zp G (d + 2) 130 0 [some (zr 11 0 0), some (zi x1)] [] s (zRet (some (zi r_)) s_) := by
  replace hm : (if x1 < (0 : Int) then oC (m136 (5 : Int) s) fun z2 s3 => some ((0 : Int), s3) else oV (sI s 0 18 x1) fun s5 => some ((1 : Int), s5)) = some (r_, s_) := hm
  refine z_iload_n (pc' := 1) hM130 rfl rfl rfl ?_
  refine z_ifge (pc' := 4) (t := 12) hM130 rfl rfl (fun h1 => ?_) (fun h1 => ?_)
  · replace hm := o_t hm h1
    refine z_aload_n (pc' := 5) hM130 rfl rfl rfl ?_
    refine z_iconst (pc' := 6) hM130 rfl rfl rfl ?_
    obtain ⟨z2, s3, h4, hm⟩ := o_c hm
    refine z_cv (d := d + 1) (pc' := 9) hM130 rfl hM136 rfl rfl rfl rfl rfl rfl (c136 (d := d) hG h4) rfl ?_
    refine z_pop (pc' := 10) hM130 rfl rfl ?_
    refine z_iconst (pc' := 11) hM130 rfl rfl rfl ?_
    cases hm
    exact z_retZ hM130 rfl rfl (Or.inl rfl) ⟨rfl, rfl⟩
  · replace hm := o_f hm h1
    refine z_aload_n (pc' := 13) hM130 rfl rfl rfl ?_
    refine z_iload_n (pc' := 14) hM130 rfl rfl rfl ?_
    obtain ⟨s5, es5, hm⟩ := o_v hm
    refine z_putI (pc' := 17) hM130 rfl rfl rfl es5 ?_
    refine z_iconst (pc' := 18) hM130 rfl rfl rfl ?_
    cases hm
    exact z_retZ hM130 rfl rfl (Or.inr rfl) ⟨rfl, rfl⟩
def m146 (x1 : Int) (s : zS) : Option (Int × zS) := oC (m10 28 x1 s) fun z1 s2 => oV (s2.2.2 1) fun w4 => oC (m20 5 w4 s2) fun z5 s6 => some (z5, s6)
theorem c146 {G : aHp} {d : Nat} (hG : zG G) {x1 : Int} {s : zS} {r_ : Int} {s_ : zS} (hm : m146 x1 s = some (r_, s_)) : Zp G (d + 4) 146 0 [some (zr 11 0 0), some (zi x1)] [] s (zRet (some (zi r_)) s_) := by
  replace hm : (oC (m10 28 x1 s) fun z1 s2 => oV (s2.2.2 1) fun w4 => oC (m20 5 w4 s2) fun z5 s6 => some (z5, s6)) = some (r_, s_) := hm
  refine z_aload_n (pc' := 1) hM146 rfl rfl rfl ?_
  refine z_fldR (pc' := 4) hM146 rfl (zf_11_4 hG) rfl rfl ?_
  refine z_aload_n (pc' := 5) hM146 rfl rfl rfl ?_
  refine z_fldR (pc' := 8) hM146 rfl (zf_11_8 hG) rfl rfl ?_
  refine z_iload_n (pc' := 9) hM146 rfl rfl rfl ?_
  obtain ⟨z1, s2, h3, hm⟩ := o_c hm
  refine z_cvV (d := d + 3) (pc' := 12) hM146 rfl hM10 rfl rfl rfl rfl rfl rfl (c10 (d := d) hG h3) rfl ?_
  refine z_aload_n (pc' := 13) hM146 rfl rfl rfl ?_
  refine z_fldR (pc' := 16) hM146 rfl (zf_11_1 hG) rfl rfl ?_
  refine z_aload_n (pc' := 17) hM146 rfl rfl rfl ?_
  refine z_fldR (pc' := 20) hM146 rfl (zf_11_4 hG) rfl rfl ?_
  refine z_fldR (pc' := 23) hM146 rfl (zf_1_0 hG) rfl rfl ?_
  refine z_aload_n (pc' := 24) hM146 rfl rfl rfl ?_
  obtain ⟨w4, ew4, hm⟩ := o_v hm
  refine z_fldM (pc' := 27) (q := 0) hG.2.1 hM146 rfl rfl (Or.inl rfl) rfl rfl ew4 ?_
  obtain ⟨z5, s6, h7, hm⟩ := o_c hm
  refine z_cv (d := d + 3) (pc' := 30) hM146 rfl hM20 rfl rfl rfl rfl rfl rfl (c20 (d := d) hG h7) rfl ?_
  cases hm
  exact z_retI hM146 rfl rfl ⟨rfl, rfl⟩
def m147_10 : Nat → Int → Int → Int → Int → Int → zS → Option (Int × zS)
  | 0, _, _, _, _, _, _ => none
  | n + 1, x1, x2, x3, x4, x5, s => oV (s.2.2 1) fun w1 => oV (s.1 (w1 + 5) 0) fun z2 => if x5 < z2 then oC (m146 x5 s) fun z4 s5 => if z4 = (0 : Int) then oZ (x5 + (1 : Int)) fun z8 => m147_10 n x1 x2 x3 x4 z8 s5 else if x2 = (-1 : Int) then oZ (x4 + (1 : Int)) fun z11 => oZ (x5 + (1 : Int)) fun z13 => m147_10 n x1 x5 x5 z11 z13 s5 else oZ (x4 + (1 : Int)) fun z15 => oZ (x5 + (1 : Int)) fun z17 => m147_10 n x1 x2 x5 z15 z17 s5 else if x1 = (0 : Int) then some (x2, s) else if x1 = (1 : Int) then some (x3, s) else some (x4, s)
theorem c147_10 {G : aHp} {d : Nat} (hG : zG G) : ∀ {n : Nat} {x1 : Int} {x2 : Int} {x3 : Int} {x4 : Int} {x5 : Int} {s : zS} {r_ : Int} {s_ : zS}, m147_10 n x1 x2 x3 x4 x5 s = some (r_, s_) → Zp G (d + 5) 147 10 [some (zr 11 0 0), some (zi x1), some (zi x2), some (zi x3), some (zi x4), some (zi x5)] [] s (zRet (some (zj r_)) s_) := by
  intro n
  induction n with
  | zero => intro x1 x2 x3 x4 x5 s r_ s_ hm; cases hm
  | succ n ih =>
  intro x1 x2 x3 x4 x5 s r_ s_ hm
  replace hm : (oV (s.2.2 1) fun w1 => oV (s.1 (w1 + 5) 0) fun z2 => if x5 < z2 then oC (m146 x5 s) fun z4 s5 => if z4 = (0 : Int) then oZ (x5 + (1 : Int)) fun z8 => m147_10 n x1 x2 x3 x4 z8 s5 else if x2 = (-1 : Int) then oZ (x4 + (1 : Int)) fun z11 => oZ (x5 + (1 : Int)) fun z13 => m147_10 n x1 x5 x5 z11 z13 s5 else oZ (x4 + (1 : Int)) fun z15 => oZ (x5 + (1 : Int)) fun z17 => m147_10 n x1 x2 x5 z15 z17 s5 else if x1 = (0 : Int) then some (x2, s) else if x1 = (1 : Int) then some (x3, s) else some (x4, s)) = some (r_, s_) := hm
  refine z_iload (pc' := 12) hM147 rfl rfl rfl ?_
  refine z_aload_n (pc' := 13) hM147 rfl rfl rfl ?_
  obtain ⟨w1, ew1, hm⟩ := o_v hm
  refine z_fldM (pc' := 16) (q := 0) hG.2.1 hM147 rfl rfl (Or.inl rfl) rfl rfl ew1 ?_
  refine z_fldR (pc' := 19) hM147 rfl (zf_5_2 hG) rfl rfl ?_
  obtain ⟨z2, ez2, hm⟩ := o_v hm
  refine z_fldI (pc' := 22) hM147 rfl rfl rfl ez2 ?_
  refine z_cmpge (pc' := 25) (t := 58) hM147 rfl rfl (fun h3 => ?_) (fun h3 => ?_)
  · replace hm := o_t hm h3
    refine z_aload_n (pc' := 26) hM147 rfl rfl rfl ?_
    refine z_iload (pc' := 28) hM147 rfl rfl rfl ?_
    obtain ⟨z4, s5, h6, hm⟩ := o_c hm
    refine z_cv (d := d + 4) (pc' := 31) hM147 rfl hM146 rfl rfl rfl rfl rfl rfl (c146 (d := d) hG h6) rfl ?_
    refine z_ifeq (pc' := 34) (t := 52) hM147 rfl rfl (fun h7 => ?_) (fun h7 => ?_)
    · replace hm := o_t hm h7
      obtain ⟨z8, ez8, h9, hm⟩ := o_z hm
      refine z_iinc (pc' := 55) (l' := [some (zr 11 0 0), some (zi x1), some (zi x2), some (zi x3), some (zi x4), some (zi z8)]) hM147 rfl rfl rfl ez8 h9 rfl rfl ?_
      refine z_goto (t := 10) hM147 rfl ?_
      exact ih hm
    · replace hm := o_f hm h7
      refine z_iload_n (pc' := 35) hM147 rfl rfl rfl ?_
      refine z_iconst (pc' := 36) hM147 rfl rfl rfl ?_
      refine z_cmpne (pc' := 39) (t := 44) hM147 rfl rfl (fun h10 => ?_) (fun h10 => ?_)
      · replace hm := o_t hm h10
        refine z_iload (pc' := 41) hM147 rfl rfl rfl ?_
        refine z_goto (t := 45) hM147 rfl ?_
        refine z_istore_n (pc' := 46) (l' := [some (zr 11 0 0), some (zi x1), some (zi x5), some (zi x3), some (zi x4), some (zi x5)]) hM147 rfl rfl rfl rfl ?_
        refine z_iload (pc' := 48) hM147 rfl rfl rfl ?_
        refine z_istore_n (pc' := 49) (l' := [some (zr 11 0 0), some (zi x1), some (zi x5), some (zi x5), some (zi x4), some (zi x5)]) hM147 rfl rfl rfl rfl ?_
        obtain ⟨z11, ez11, h12, hm⟩ := o_z hm
        refine z_iinc (pc' := 52) (l' := [some (zr 11 0 0), some (zi x1), some (zi x5), some (zi x5), some (zi z11), some (zi x5)]) hM147 rfl rfl rfl ez11 h12 rfl rfl ?_
        obtain ⟨z13, ez13, h14, hm⟩ := o_z hm
        refine z_iinc (pc' := 55) (l' := [some (zr 11 0 0), some (zi x1), some (zi x5), some (zi x5), some (zi z11), some (zi z13)]) hM147 rfl rfl rfl ez13 h14 rfl rfl ?_
        refine z_goto (t := 10) hM147 rfl ?_
        exact ih hm
      · replace hm := o_f hm h10
        refine z_iload_n (pc' := 45) hM147 rfl rfl rfl ?_
        refine z_istore_n (pc' := 46) (l' := [some (zr 11 0 0), some (zi x1), some (zi x2), some (zi x3), some (zi x4), some (zi x5)]) hM147 rfl rfl rfl rfl ?_
        refine z_iload (pc' := 48) hM147 rfl rfl rfl ?_
        refine z_istore_n (pc' := 49) (l' := [some (zr 11 0 0), some (zi x1), some (zi x2), some (zi x5), some (zi x4), some (zi x5)]) hM147 rfl rfl rfl rfl ?_
        obtain ⟨z15, ez15, h16, hm⟩ := o_z hm
        refine z_iinc (pc' := 52) (l' := [some (zr 11 0 0), some (zi x1), some (zi x2), some (zi x5), some (zi z15), some (zi x5)]) hM147 rfl rfl rfl ez15 h16 rfl rfl ?_
        obtain ⟨z17, ez17, h18, hm⟩ := o_z hm
        refine z_iinc (pc' := 55) (l' := [some (zr 11 0 0), some (zi x1), some (zi x2), some (zi x5), some (zi z15), some (zi z17)]) hM147 rfl rfl rfl ez17 h18 rfl rfl ?_
        refine z_goto (t := 10) hM147 rfl ?_
        exact ih hm
  · replace hm := o_f hm h3
    refine z_iload_n (pc' := 59) hM147 rfl rfl rfl ?_
    refine z_ifne (pc' := 62) (t := 65) hM147 rfl rfl (fun h19 => ?_) (fun h19 => ?_)
    · replace hm := o_t hm h19
      refine z_iload_n (pc' := 63) hM147 rfl rfl rfl ?_
      refine z_i2l (pc' := 64) hM147 rfl rfl ?_
      cases hm
      exact z_retJ hM147 rfl rfl ⟨rfl, rfl⟩
    · replace hm := o_f hm h19
      refine z_iload_n (pc' := 66) hM147 rfl rfl rfl ?_
      refine z_iconst (pc' := 67) hM147 rfl rfl rfl ?_
      refine z_cmpne (pc' := 70) (t := 75) hM147 rfl rfl (fun h20 => ?_) (fun h20 => ?_)
      · replace hm := o_t hm h20
        refine z_iload_n (pc' := 71) hM147 rfl rfl rfl ?_
        refine z_i2l (pc' := 72) hM147 rfl rfl ?_
        refine z_goto (t := 78) hM147 rfl ?_
        cases hm
        exact z_retJ hM147 rfl rfl ⟨rfl, rfl⟩
      · replace hm := o_f hm h20
        refine z_iload (pc' := 77) hM147 rfl rfl rfl ?_
        refine z_i2l (pc' := 78) hM147 rfl rfl ?_
        cases hm
        exact z_retJ hM147 rfl rfl ⟨rfl, rfl⟩
def m147 (x1 : Int) (s : zS) : Option (Int × zS) := m147_10 zFu x1 (-1 : Int) (-1 : Int) (0 : Int) (0 : Int) s
theorem c147 {G : aHp} {d : Nat} (hG : zG G) {x1 : Int} {s : zS} {r_ : Int} {s_ : zS} (hm : m147 x1 s = some (r_, s_)) : Zp G (d + 5) 147 0 [some (zr 11 0 0), some (zi x1), none, none, none, none] [] s (zRet (some (zj r_)) s_) := by
  replace hm : (m147_10 zFu x1 (-1 : Int) (-1 : Int) (0 : Int) (0 : Int) s) = some (r_, s_) := hm
  refine z_iconst (pc' := 1) hM147 rfl rfl rfl ?_
  refine z_istore_n (pc' := 2) (l' := [some (zr 11 0 0), some (zi x1), some (zi (-1 : Int)), none, none, none]) hM147 rfl rfl rfl rfl ?_
  refine z_iconst (pc' := 3) hM147 rfl rfl rfl ?_
  refine z_istore_n (pc' := 4) (l' := [some (zr 11 0 0), some (zi x1), some (zi (-1 : Int)), some (zi (-1 : Int)), none, none]) hM147 rfl rfl rfl rfl ?_
  refine z_iconst (pc' := 5) hM147 rfl rfl rfl ?_
  refine z_istore (pc' := 7) (l' := [some (zr 11 0 0), some (zi x1), some (zi (-1 : Int)), some (zi (-1 : Int)), some (zi (0 : Int)), none]) hM147 rfl rfl rfl rfl ?_
  refine z_iconst (pc' := 8) hM147 rfl rfl rfl ?_
  refine z_istore (pc' := 10) (l' := [some (zr 11 0 0), some (zi x1), some (zi (-1 : Int)), some (zi (-1 : Int)), some (zi (0 : Int)), some (zi (0 : Int))]) hM147 rfl rfl rfl rfl ?_
  exact c147_10 hG hm
def m148_5 : Nat → Int → Int → Int → zS → Option (Int × zS)
  | 0, _, _, _, _ => none
  | n + 1, x1, x2, x4, s => oV (s.2.2 1) fun w1 => oV (s.1 (w1 + 5) 0) fun z2 => if x4 < z2 then oC (m146 x4 s) fun z4 s5 => if x1 = (3 : Int) then oJ (x2 + z4) fun z8 => oZ (x4 + (1 : Int)) fun z10 => m148_5 n x1 z8 z10 s5 else if x4 = (0 : Int) then oZ (x4 + (1 : Int)) fun z13 => m148_5 n x1 z4 z13 s5 else if x1 = (4 : Int) then oC (m289 x2 z4 s5) fun z16 s17 => oZ (x4 + (1 : Int)) fun z19 => m148_5 n x1 z16 z19 s17 else oC (m291 x2 z4 s5) fun z21 s22 => oZ (x4 + (1 : Int)) fun z24 => m148_5 n x1 z21 z24 s22 else some (x2, s)
theorem c148_5 {G : aHp} {d : Nat} (hG : zG G) : ∀ {n : Nat} {x1 : Int} {x2 : Int} {x4 : Int} {d3 d5 d6 : Option zV} {s : zS} {r_ : Int} {s_ : zS}, m148_5 n x1 x2 x4 s = some (r_, s_) → Zp G (d + 5) 148 5 [some (zr 11 0 0), some (zi x1), some (zj x2), d3, some (zi x4), d5, d6] [] s (zRet (some (zj r_)) s_) := by
  intro n
  induction n with
  | zero => intro x1 x2 x4 d3 d5 d6 s r_ s_ hm; cases hm
  | succ n ih =>
  intro x1 x2 x4 d3 d5 d6 s r_ s_ hm
  replace hm : (oV (s.2.2 1) fun w1 => oV (s.1 (w1 + 5) 0) fun z2 => if x4 < z2 then oC (m146 x4 s) fun z4 s5 => if x1 = (3 : Int) then oJ (x2 + z4) fun z8 => oZ (x4 + (1 : Int)) fun z10 => m148_5 n x1 z8 z10 s5 else if x4 = (0 : Int) then oZ (x4 + (1 : Int)) fun z13 => m148_5 n x1 z4 z13 s5 else if x1 = (4 : Int) then oC (m289 x2 z4 s5) fun z16 s17 => oZ (x4 + (1 : Int)) fun z19 => m148_5 n x1 z16 z19 s17 else oC (m291 x2 z4 s5) fun z21 s22 => oZ (x4 + (1 : Int)) fun z24 => m148_5 n x1 z21 z24 s22 else some (x2, s)) = some (r_, s_) := hm
  refine z_iload (pc' := 7) hM148 rfl rfl rfl ?_
  refine z_aload_n (pc' := 8) hM148 rfl rfl rfl ?_
  obtain ⟨w1, ew1, hm⟩ := o_v hm
  refine z_fldM (pc' := 11) (q := 0) hG.2.1 hM148 rfl rfl (Or.inl rfl) rfl rfl ew1 ?_
  refine z_fldR (pc' := 14) hM148 rfl (zf_5_2 hG) rfl rfl ?_
  obtain ⟨z2, ez2, hm⟩ := o_v hm
  refine z_fldI (pc' := 17) hM148 rfl rfl rfl ez2 ?_
  refine z_cmpge (pc' := 20) (t := 80) hM148 rfl rfl (fun h3 => ?_) (fun h3 => ?_)
  · replace hm := o_t hm h3
    refine z_aload_n (pc' := 21) hM148 rfl rfl rfl ?_
    refine z_iload (pc' := 23) hM148 rfl rfl rfl ?_
    obtain ⟨z4, s5, h6, hm⟩ := o_c hm
    refine z_cv (d := d + 4) (pc' := 26) hM148 rfl hM146 rfl rfl rfl rfl rfl rfl (c146 (d := d) hG h6) rfl ?_
    refine z_i2l (pc' := 27) hM148 rfl rfl ?_
    refine z_lstore (pc' := 29) (l' := [some (zr 11 0 0), some (zi x1), some (zj x2), d3, some (zi x4), some (zj z4), none]) hM148 rfl rfl rfl rfl ?_
    refine z_iload_n (pc' := 30) hM148 rfl rfl rfl ?_
    refine z_iconst (pc' := 31) hM148 rfl rfl rfl ?_
    refine z_cmpne (pc' := 34) (t := 42) hM148 rfl rfl (fun h7 => ?_) (fun h7 => ?_)
    · replace hm := o_t hm h7
      refine z_lload_n (pc' := 35) hM148 rfl rfl rfl ?_
      refine z_lload (pc' := 37) hM148 rfl rfl rfl ?_
      obtain ⟨z8, ez8, h9, hm⟩ := o_j hm
      refine z_ladd (pc' := 38) hM148 rfl rfl ez8 h9 ?_
      refine z_lstore_n (pc' := 39) (l' := [some (zr 11 0 0), some (zi x1), some (zj z8), none, some (zi x4), some (zj z4), none]) hM148 rfl rfl rfl rfl ?_
      refine z_goto (t := 74) hM148 rfl ?_
      obtain ⟨z10, ez10, h11, hm⟩ := o_z hm
      refine z_iinc (pc' := 77) (l' := [some (zr 11 0 0), some (zi x1), some (zj z8), none, some (zi z10), some (zj z4), none]) hM148 rfl rfl rfl ez10 h11 rfl rfl ?_
      refine z_goto (t := 5) hM148 rfl ?_
      exact ih hm
    · replace hm := o_f hm h7
      refine z_iload (pc' := 44) hM148 rfl rfl rfl ?_
      refine z_ifne (pc' := 47) (t := 53) hM148 rfl rfl (fun h12 => ?_) (fun h12 => ?_)
      · replace hm := o_t hm h12
        refine z_lload (pc' := 49) hM148 rfl rfl rfl ?_
        refine z_lstore_n (pc' := 50) (l' := [some (zr 11 0 0), some (zi x1), some (zj z4), none, some (zi x4), some (zj z4), none]) hM148 rfl rfl rfl rfl ?_
        refine z_goto (t := 74) hM148 rfl ?_
        obtain ⟨z13, ez13, h14, hm⟩ := o_z hm
        refine z_iinc (pc' := 77) (l' := [some (zr 11 0 0), some (zi x1), some (zj z4), none, some (zi z13), some (zj z4), none]) hM148 rfl rfl rfl ez13 h14 rfl rfl ?_
        refine z_goto (t := 5) hM148 rfl ?_
        exact ih hm
      · replace hm := o_f hm h12
        refine z_iload_n (pc' := 54) hM148 rfl rfl rfl ?_
        refine z_iconst (pc' := 55) hM148 rfl rfl rfl ?_
        refine z_cmpne (pc' := 58) (t := 67) hM148 rfl rfl (fun h15 => ?_) (fun h15 => ?_)
        · replace hm := o_t hm h15
          refine z_lload_n (pc' := 59) hM148 rfl rfl rfl ?_
          refine z_lload (pc' := 61) hM148 rfl rfl rfl ?_
          obtain ⟨z16, s17, h18, hm⟩ := o_c hm
          refine z_cs (d := d + 4) (pc' := 64) hM148 rfl hM289 rfl rfl rfl rfl (c289 (d := d + 3) hG h18) rfl ?_
          refine z_goto (t := 73) hM148 rfl ?_
          refine z_lstore_n (pc' := 74) (l' := [some (zr 11 0 0), some (zi x1), some (zj z16), none, some (zi x4), some (zj z4), none]) hM148 rfl rfl rfl rfl ?_
          obtain ⟨z19, ez19, h20, hm⟩ := o_z hm
          refine z_iinc (pc' := 77) (l' := [some (zr 11 0 0), some (zi x1), some (zj z16), none, some (zi z19), some (zj z4), none]) hM148 rfl rfl rfl ez19 h20 rfl rfl ?_
          refine z_goto (t := 5) hM148 rfl ?_
          exact ih hm
        · replace hm := o_f hm h15
          refine z_lload_n (pc' := 68) hM148 rfl rfl rfl ?_
          refine z_lload (pc' := 70) hM148 rfl rfl rfl ?_
          obtain ⟨z21, s22, h23, hm⟩ := o_c hm
          refine z_cs (d := d + 4) (pc' := 73) hM148 rfl hM291 rfl rfl rfl rfl (c291 (d := d + 3) hG h23) rfl ?_
          refine z_lstore_n (pc' := 74) (l' := [some (zr 11 0 0), some (zi x1), some (zj z21), none, some (zi x4), some (zj z4), none]) hM148 rfl rfl rfl rfl ?_
          obtain ⟨z24, ez24, h25, hm⟩ := o_z hm
          refine z_iinc (pc' := 77) (l' := [some (zr 11 0 0), some (zi x1), some (zj z21), none, some (zi z24), some (zj z4), none]) hM148 rfl rfl rfl ez24 h25 rfl rfl ?_
          refine z_goto (t := 5) hM148 rfl ?_
          exact ih hm
  · replace hm := o_f hm h3
    refine z_lload_n (pc' := 81) hM148 rfl rfl rfl ?_
    cases hm
    exact z_retJ hM148 rfl rfl ⟨rfl, rfl⟩
def m148 (x1 : Int) (s : zS) : Option (Int × zS) := m148_5 zFu x1 (0 : Int) (0 : Int) s
theorem c148 {G : aHp} {d : Nat} (hG : zG G) {x1 : Int} {s : zS} {r_ : Int} {s_ : zS} (hm : m148 x1 s = some (r_, s_)) : Zp G (d + 5) 148 0 [some (zr 11 0 0), some (zi x1), none, none, none, none, none] [] s (zRet (some (zj r_)) s_) := by
  replace hm : (m148_5 zFu x1 (0 : Int) (0 : Int) s) = some (r_, s_) := hm
  refine z_lconst (pc' := 1) (x := (0 : Int)) hM148 rfl rfl rfl rfl ?_
  refine z_lstore_n (pc' := 2) (l' := [some (zr 11 0 0), some (zi x1), some (zj (0 : Int)), none, none, none, none]) hM148 rfl rfl rfl rfl ?_
  refine z_iconst (pc' := 3) hM148 rfl rfl rfl ?_
  refine z_istore (pc' := 5) (l' := [some (zr 11 0 0), some (zi x1), some (zj (0 : Int)), none, some (zi (0 : Int)), none, none]) hM148 rfl rfl rfl rfl ?_
  exact c148_5 hG hm
def m131  (s : zS) : Option (Int × zS) := oC (m25 5 s) fun z1 s2 => oV (sI s2 1 2 (0 : Int)) fun s4 => if z1 = (-1 : Int) then some ((-1000000000000000 : Int), s4) else if (2 : Int) < z1 then oC (m148 z1 s4) fun z7 s8 => some (z7, s8) else oC (m147 z1 s4) fun z10 s11 => some (z10, s11)
theorem c131 {G : aHp} {d : Nat} (hG : zG G) {s : zS} {r_ : Int} {s_ : zS} (hm : m131  s = some (r_, s_)) : Zp G (d + 330) 131 0 [some (zr 11 0 0), none] [] s (zRet (some (zj r_)) s_) := by
  replace hm : (oC (m25 5 s) fun z1 s2 => oV (sI s2 1 2 (0 : Int)) fun s4 => if z1 = (-1 : Int) then some ((-1000000000000000 : Int), s4) else if (2 : Int) < z1 then oC (m148 z1 s4) fun z7 s8 => some (z7, s8) else oC (m147 z1 s4) fun z10 s11 => some (z10, s11)) = some (r_, s_) := hm
  refine z_aload_n (pc' := 1) hM131 rfl rfl rfl ?_
  refine z_fldR (pc' := 4) hM131 rfl (zf_11_2 hG) rfl rfl ?_
  refine z_aload_n (pc' := 5) hM131 rfl rfl rfl ?_
  refine z_fldR (pc' := 8) hM131 rfl (zf_11_1 hG) rfl rfl ?_
  obtain ⟨z1, s2, h3, hm⟩ := o_c hm
  refine z_cv (d := d + 329) (pc' := 11) hM131 rfl hM25 rfl rfl rfl rfl rfl rfl (c25 (d := d) hG h3) rfl ?_
  refine z_istore_n (pc' := 12) (l' := [some (zr 11 0 0), some (zi z1)]) hM131 rfl rfl rfl rfl ?_
  refine z_aload_n (pc' := 13) hM131 rfl rfl rfl ?_
  refine z_fldR (pc' := 16) hM131 rfl (zf_11_0 hG) rfl rfl ?_
  refine z_iconst (pc' := 17) hM131 rfl rfl rfl ?_
  obtain ⟨s4, es4, hm⟩ := o_v hm
  refine z_putI (pc' := 20) hM131 rfl rfl rfl es4 ?_
  refine z_iload_n (pc' := 21) hM131 rfl rfl rfl ?_
  refine z_iconst (pc' := 22) hM131 rfl rfl rfl ?_
  refine z_cmpne (pc' := 25) (t := 29) hM131 rfl rfl (fun h5 => ?_) (fun h5 => ?_)
  · replace hm := o_t hm h5
    refine z_ldc2 (pc' := 28) hM131 rfl rfl rfl ?_
    cases hm
    exact z_retJ hM131 rfl rfl ⟨rfl, rfl⟩
  · replace hm := o_f hm h5
    refine z_iload_n (pc' := 30) hM131 rfl rfl rfl ?_
    refine z_iconst (pc' := 31) hM131 rfl rfl rfl ?_
    refine z_cmpgt (pc' := 34) (t := 42) hM131 rfl rfl (fun h6 => ?_) (fun h6 => ?_)
    · replace hm := o_t hm h6
      refine z_aload_n (pc' := 43) hM131 rfl rfl rfl ?_
      refine z_iload_n (pc' := 44) hM131 rfl rfl rfl ?_
      obtain ⟨z7, s8, h9, hm⟩ := o_c hm
      refine z_cv (d := d + 329) (pc' := 47) hM131 rfl hM148 rfl rfl rfl rfl rfl rfl (c148 (d := d + 324) hG h9) rfl ?_
      cases hm
      exact z_retJ hM131 rfl rfl ⟨rfl, rfl⟩
    · replace hm := o_f hm h6
      refine z_aload_n (pc' := 35) hM131 rfl rfl rfl ?_
      refine z_iload_n (pc' := 36) hM131 rfl rfl rfl ?_
      obtain ⟨z10, s11, h12, hm⟩ := o_c hm
      refine z_cv (d := d + 329) (pc' := 39) hM131 rfl hM147 rfl rfl rfl rfl rfl rfl (c147 (d := d + 324) hG h12) rfl ?_
      refine z_goto (t := 47) hM131 rfl ?_
      cases hm
      exact z_retJ hM131 rfl rfl ⟨rfl, rfl⟩
def m132  (s : zS) : Option (Int × zS) := oV (s.2.2 1) fun w1 => oC (m64 28 w1 s) fun z2 s3 => oV (sI s3 0 15 z2) fun s5 => oV (s5.1 0 15) fun z6 => some (z6, s5)
theorem c132 {G : aHp} {d : Nat} (hG : zG G) {s : zS} {r_ : Int} {s_ : zS} (hm : m132  s = some (r_, s_)) : Zp G (d + 4) 132 0 [some (zr 11 0 0)] [] s (zRet (some (zi r_)) s_) := by
  replace hm : (oV (s.2.2 1) fun w1 => oC (m64 28 w1 s) fun z2 s3 => oV (sI s3 0 15 z2) fun s5 => oV (s5.1 0 15) fun z6 => some (z6, s5)) = some (r_, s_) := hm
  refine z_aload_n (pc' := 1) hM132 rfl rfl rfl ?_
  refine z_aload_n (pc' := 2) hM132 rfl rfl rfl ?_
  refine z_fldR (pc' := 5) hM132 rfl (zf_11_8 hG) rfl rfl ?_
  refine z_aload_n (pc' := 6) hM132 rfl rfl rfl ?_
  refine z_fldR (pc' := 9) hM132 rfl (zf_11_12 hG) rfl rfl ?_
  refine z_aload_n (pc' := 10) hM132 rfl rfl rfl ?_
  obtain ⟨w1, ew1, hm⟩ := o_v hm
  refine z_fldM (pc' := 13) (q := 0) hG.2.1 hM132 rfl rfl (Or.inl rfl) rfl rfl ew1 ?_
  obtain ⟨z2, s3, h4, hm⟩ := o_c hm
  refine z_cv (d := d + 3) (pc' := 16) hM132 rfl hM64 rfl rfl rfl rfl rfl rfl (c64 (d := d) hG h4) rfl ?_
  obtain ⟨s5, es5, hm⟩ := o_v hm
  refine z_putI (pc' := 19) hM132 rfl rfl rfl es5 ?_
  refine z_aload_n (pc' := 20) hM132 rfl rfl rfl ?_
  obtain ⟨z6, ez6, hm⟩ := o_v hm
  refine z_fldI (pc' := 23) hM132 rfl rfl rfl ez6 ?_
  cases hm
  exact z_retI hM132 rfl rfl ⟨rfl, rfl⟩
def m133 (x1 : Int) (s : zS) : Option (Int × zS) := if x1 < (0 : Int) then some ((-1 : Int), s) else oV (s.1 0 15) fun z2 => if x1 < z2 then oX x1 64 (oV (s.1 42 x1) fun z4 => some (z4, s)) else some ((-1 : Int), s)
theorem c133 {G : aHp} {d : Nat} (hG : zG G) {x1 : Int} {s : zS} {r_ : Int} {s_ : zS} (hm : m133 x1 s = some (r_, s_)) : Zp G (d + 1) 133 0 [some (zr 11 0 0), some (zi x1)] [] s (zRet (some (zi r_)) s_) := by
  replace hm : (if x1 < (0 : Int) then some ((-1 : Int), s) else oV (s.1 0 15) fun z2 => if x1 < z2 then oX x1 64 (oV (s.1 42 x1) fun z4 => some (z4, s)) else some ((-1 : Int), s)) = some (r_, s_) := hm
  refine z_iload_n (pc' := 1) hM133 rfl rfl rfl ?_
  refine z_iflt (pc' := 4) (t := 21) hM133 rfl rfl (fun h1 => ?_) (fun h1 => ?_)
  · replace hm := o_t hm h1
    refine z_iconst (pc' := 22) hM133 rfl rfl rfl ?_
    cases hm
    exact z_retI hM133 rfl rfl ⟨rfl, rfl⟩
  · replace hm := o_f hm h1
    refine z_iload_n (pc' := 5) hM133 rfl rfl rfl ?_
    refine z_aload_n (pc' := 6) hM133 rfl rfl rfl ?_
    obtain ⟨z2, ez2, hm⟩ := o_v hm
    refine z_fldI (pc' := 9) hM133 rfl rfl rfl ez2 ?_
    refine z_cmpge (pc' := 12) (t := 21) hM133 rfl rfl (fun h3 => ?_) (fun h3 => ?_)
    · replace hm := o_t hm h3
      refine z_aload_n (pc' := 13) hM133 rfl rfl rfl ?_
      refine z_fldR (pc' := 16) hM133 rfl (zf_11_12 hG) rfl rfl ?_
      refine z_iload_n (pc' := 17) hM133 rfl rfl rfl ?_
      obtain ⟨h5, hm⟩ := o_x hm
      obtain ⟨z4, ez4, hm⟩ := o_v hm
      refine z_iald (pc' := 18) (zGN hG) hM133 rfl rfl h5 ez4 ?_
      refine z_goto (t := 22) hM133 rfl ?_
      cases hm
      exact z_retI hM133 rfl rfl ⟨rfl, rfl⟩
    · replace hm := o_f hm h3
      refine z_iconst (pc' := 22) hM133 rfl rfl rfl ?_
      cases hm
      exact z_retI hM133 rfl rfl ⟨rfl, rfl⟩
def m134  (s : zS) : Option (Int × zS) := oV (s.2.2 1) fun w1 => oC (m67 34 w1 s) fun z2 s3 => oV (sI s3 1 2 (0 : Int)) fun s5 => if z2 = (0 : Int) then oC (m136 (5 : Int) s5) fun z7 s8 => some ((0 : Int), s8) else oC (m56 28 34 s5) fun z10 s11 => oV (sI s11 0 17 (0 : Int)) fun s13 => some ((1 : Int), s13)
theorem c134 {G : aHp} {d : Nat} (hG : zG G) {s : zS} {r_ : Int} {s_ : zS} (hm : m134  s = some (r_, s_)) : Zp G (d + 6) 134 0 [some (zr 11 0 0), none] [] s (zRet (some (zi r_)) s_) := by
  replace hm : (oV (s.2.2 1) fun w1 => oC (m67 34 w1 s) fun z2 s3 => oV (sI s3 1 2 (0 : Int)) fun s5 => if z2 = (0 : Int) then oC (m136 (5 : Int) s5) fun z7 s8 => some ((0 : Int), s8) else oC (m56 28 34 s5) fun z10 s11 => oV (sI s11 0 17 (0 : Int)) fun s13 => some ((1 : Int), s13)) = some (r_, s_) := hm
  refine z_aload_n (pc' := 1) hM134 rfl rfl rfl ?_
  refine z_fldR (pc' := 4) hM134 rfl (zf_11_9 hG) rfl rfl ?_
  refine z_aload_n (pc' := 5) hM134 rfl rfl rfl ?_
  refine z_fldR (pc' := 8) hM134 rfl (zf_11_0 hG) rfl rfl ?_
  refine z_aload_n (pc' := 9) hM134 rfl rfl rfl ?_
  obtain ⟨w1, ew1, hm⟩ := o_v hm
  refine z_fldM (pc' := 12) (q := 0) hG.2.1 hM134 rfl rfl (Or.inl rfl) rfl rfl ew1 ?_
  obtain ⟨z2, s3, h4, hm⟩ := o_c hm
  refine z_cv (d := d + 5) (pc' := 15) hM134 rfl hM67 rfl rfl rfl rfl rfl rfl (c67 (d := d + 1) hG h4) rfl ?_
  refine z_istore_n (pc' := 16) (l' := [some (zr 11 0 0), some (zi z2)]) hM134 rfl rfl rfl rfl ?_
  refine z_aload_n (pc' := 17) hM134 rfl rfl rfl ?_
  refine z_fldR (pc' := 20) hM134 rfl (zf_11_0 hG) rfl rfl ?_
  refine z_iconst (pc' := 21) hM134 rfl rfl rfl ?_
  obtain ⟨s5, es5, hm⟩ := o_v hm
  refine z_putI (pc' := 24) hM134 rfl rfl rfl es5 ?_
  refine z_iload_n (pc' := 25) hM134 rfl rfl rfl ?_
  refine z_ifne (pc' := 28) (t := 36) hM134 rfl rfl (fun h6 => ?_) (fun h6 => ?_)
  · replace hm := o_t hm h6
    refine z_aload_n (pc' := 29) hM134 rfl rfl rfl ?_
    refine z_iconst (pc' := 30) hM134 rfl rfl rfl ?_
    obtain ⟨z7, s8, h9, hm⟩ := o_c hm
    refine z_cv (d := d + 5) (pc' := 33) hM134 rfl hM136 rfl rfl rfl rfl rfl rfl (c136 (d := d + 4) hG h9) rfl ?_
    refine z_pop (pc' := 34) hM134 rfl rfl ?_
    refine z_iconst (pc' := 35) hM134 rfl rfl rfl ?_
    cases hm
    exact z_retZ hM134 rfl rfl (Or.inl rfl) ⟨rfl, rfl⟩
  · replace hm := o_f hm h6
    refine z_aload_n (pc' := 37) hM134 rfl rfl rfl ?_
    refine z_fldR (pc' := 40) hM134 rfl (zf_11_8 hG) rfl rfl ?_
    refine z_aload_n (pc' := 41) hM134 rfl rfl rfl ?_
    refine z_fldR (pc' := 44) hM134 rfl (zf_11_9 hG) rfl rfl ?_
    obtain ⟨z10, s11, h12, hm⟩ := o_c hm
    refine z_cvV (d := d + 5) (pc' := 47) hM134 rfl hM56 rfl rfl rfl rfl rfl rfl (c56 (d := d) hG h12) rfl ?_
    refine z_aload_n (pc' := 48) hM134 rfl rfl rfl ?_
    refine z_iconst (pc' := 49) hM134 rfl rfl rfl ?_
    obtain ⟨s13, es13, hm⟩ := o_v hm
    refine z_putI (pc' := 52) hM134 rfl rfl rfl es13 ?_
    refine z_iconst (pc' := 53) hM134 rfl rfl rfl ?_
    cases hm
    exact z_retZ hM134 rfl rfl (Or.inr rfl) ⟨rfl, rfl⟩
def m135 (x1 : Int) (s : zS) : Option (Int × zS) := if x1 < (0 : Int) then some ((-1 : Int), s) else if x1 < (6 : Int) then oX x1 6 (oV (s.1 41 x1) fun z3 => some (z3, s)) else some ((-1 : Int), s)
theorem c135 {G : aHp} {d : Nat} (hG : zG G) {x1 : Int} {s : zS} {r_ : Int} {s_ : zS} (hm : m135 x1 s = some (r_, s_)) : Zp G (d + 1) 135 0 [some (zr 11 0 0), some (zi x1)] [] s (zRet (some (zi r_)) s_) := by
  replace hm : (if x1 < (0 : Int) then some ((-1 : Int), s) else if x1 < (6 : Int) then oX x1 6 (oV (s.1 41 x1) fun z3 => some (z3, s)) else some ((-1 : Int), s)) = some (r_, s_) := hm
  refine z_iload_n (pc' := 1) hM135 rfl rfl rfl ?_
  refine z_iflt (pc' := 4) (t := 19) hM135 rfl rfl (fun h1 => ?_) (fun h1 => ?_)
  · replace hm := o_t hm h1
    refine z_iconst (pc' := 20) hM135 rfl rfl rfl ?_
    cases hm
    exact z_retI hM135 rfl rfl ⟨rfl, rfl⟩
  · replace hm := o_f hm h1
    refine z_iload_n (pc' := 5) hM135 rfl rfl rfl ?_
    refine z_bipush (pc' := 7) hM135 rfl rfl rfl ?_
    refine z_cmpge (pc' := 10) (t := 19) hM135 rfl rfl (fun h2 => ?_) (fun h2 => ?_)
    · replace hm := o_t hm h2
      refine z_aload_n (pc' := 11) hM135 rfl rfl rfl ?_
      refine z_fldR (pc' := 14) hM135 rfl (zf_11_11 hG) rfl rfl ?_
      refine z_iload_n (pc' := 15) hM135 rfl rfl rfl ?_
      obtain ⟨h4, hm⟩ := o_x hm
      obtain ⟨z3, ez3, hm⟩ := o_v hm
      refine z_iald (pc' := 16) (zGN hG) hM135 rfl rfl h4 ez3 ?_
      refine z_goto (t := 20) hM135 rfl ?_
      cases hm
      exact z_retI hM135 rfl rfl ⟨rfl, rfl⟩
    · replace hm := o_f hm h2
      refine z_iconst (pc' := 20) hM135 rfl rfl rfl ?_
      cases hm
      exact z_retI hM135 rfl rfl ⟨rfl, rfl⟩
def m150 (x0 : Int) (x2 : Int) (x4 : Int) (s : zS) : Option (Int × zS) := oV (zCmp x0 x2) fun z1 => if z1 < (0 : Int) then some ((0 : Int), s) else oV (zCmp x0 x4) fun z3 => if (0 : Int) < z3 then some ((0 : Int), s) else some ((1 : Int), s)
theorem c150 {G : aHp} {d : Nat} (hG : zG G) {x0 : Int} {x2 : Int} {x4 : Int} {s : zS} {r_ : Int} {s_ : zS} (hm : m150 x0 x2 x4 s = some (r_, s_)) : Zp G (d + 1) 150 0 [some (zj x0), none, some (zj x2), none, some (zj x4), none] [] s (zRet (some (zi r_)) s_) := by
  replace hm : (oV (zCmp x0 x2) fun z1 => if z1 < (0 : Int) then some ((0 : Int), s) else oV (zCmp x0 x4) fun z3 => if (0 : Int) < z3 then some ((0 : Int), s) else some ((1 : Int), s)) = some (r_, s_) := hm
  refine z_lload_n (pc' := 1) hM150 rfl rfl rfl ?_
  refine z_lload_n (pc' := 2) hM150 rfl rfl rfl ?_
  obtain ⟨z1, ez1, hm⟩ := o_v hm
  refine z_lcmp (pc' := 3) hM150 rfl rfl ez1 ?_
  refine z_iflt (pc' := 6) (t := 17) hM150 rfl rfl (fun h2 => ?_) (fun h2 => ?_)
  · replace hm := o_t hm h2
    refine z_iconst (pc' := 18) hM150 rfl rfl rfl ?_
    cases hm
    exact z_retZ hM150 rfl rfl (Or.inl rfl) ⟨rfl, rfl⟩
  · replace hm := o_f hm h2
    refine z_lload_n (pc' := 7) hM150 rfl rfl rfl ?_
    refine z_lload (pc' := 9) hM150 rfl rfl rfl ?_
    obtain ⟨z3, ez3, hm⟩ := o_v hm
    refine z_lcmp (pc' := 10) hM150 rfl rfl ez3 ?_
    refine z_ifgt (pc' := 13) (t := 17) hM150 rfl rfl (fun h4 => ?_) (fun h4 => ?_)
    · replace hm := o_t hm h4
      refine z_iconst (pc' := 18) hM150 rfl rfl rfl ?_
      cases hm
      exact z_retZ hM150 rfl rfl (Or.inl rfl) ⟨rfl, rfl⟩
    · replace hm := o_f hm h4
      refine z_iconst (pc' := 14) hM150 rfl rfl rfl ?_
      refine z_goto (t := 18) hM150 rfl ?_
      cases hm
      exact z_retZ hM150 rfl rfl (Or.inr rfl) ⟨rfl, rfl⟩
def m151_81 (k28_ : Int → Int → Int → Int → Int → Int → zS → Option (Int × zS)) (x1 : Int) (x2 : Int) (x3 : Int) (x4 : Int) (x5 : Int) (x6 : Int) (y0 : Int) (s : zS) : Option (Int × zS) := oV (s.1 209 1) fun z1 => oN (4 : Int) (oV (Int.tmod x6 (4 : Int)) fun z2 => oZ ((3 : Int) - z2) fun z3 => oZ ((8 : Int) * z3) fun z5 => oV (zShr y0 z5) fun z7 => oV (zAnd z7 (255 : Int)) fun z8 => oX z1 1600 (oV (sI s 210 z1 z8) fun s9 => oV (s9.1 209 1) fun z11 => oZ (z11 + (1 : Int)) fun z12 => oV (sI s9 209 1 z12) fun s14 => oZ (x6 + (1 : Int)) fun z15 => k28_ x1 x2 x3 x4 x5 z15 s14))
theorem c151_81 {G : aHp} {d : Nat} {k28_ : Int → Int → Int → Int → Int → Int → zS → Option (Int × zS)} (hG : zG G) (hk28 : ∀ {x1 : Int} {x2 : Int} {x3 : Int} {x4 : Int} {x5 : Int} {x6 : Int} {d7 : Option zV} {s : zS} {r_ : Int} {s_ : zS}, k28_ x1 x2 x3 x4 x5 x6 s = some (r_, s_) → Zp G (d + 1) 151 28 [some (zr 12 0 209), some (zi x1), some (zi x2), some (zi x3), some (zi x4), some (zi x5), some (zi x6), d7] [] s (zRet (some (zi r_)) s_)) {x1 : Int} {x2 : Int} {x3 : Int} {x4 : Int} {x5 : Int} {x6 : Int} {y0 : Int} {d7 : Option zV} {s : zS} {r_ : Int} {s_ : zS} (hm : m151_81 k28_ x1 x2 x3 x4 x5 x6 y0 s = some (r_, s_)) : Zp G (d + 1) 151 81 [some (zr 12 0 209), some (zi x1), some (zi x2), some (zi x3), some (zi x4), some (zi x5), some (zi x6), d7] [zi y0] s (zRet (some (zi r_)) s_) := by
  replace hm : (oV (s.1 209 1) fun z1 => oN (4 : Int) (oV (Int.tmod x6 (4 : Int)) fun z2 => oZ ((3 : Int) - z2) fun z3 => oZ ((8 : Int) * z3) fun z5 => oV (zShr y0 z5) fun z7 => oV (zAnd z7 (255 : Int)) fun z8 => oX z1 1600 (oV (sI s 210 z1 z8) fun s9 => oV (s9.1 209 1) fun z11 => oZ (z11 + (1 : Int)) fun z12 => oV (sI s9 209 1 z12) fun s14 => oZ (x6 + (1 : Int)) fun z15 => k28_ x1 x2 x3 x4 x5 z15 s14))) = some (r_, s_) := hm
  refine z_istore (pc' := 83) (l' := [some (zr 12 0 209), some (zi x1), some (zi x2), some (zi x3), some (zi x4), some (zi x5), some (zi x6), some (zi y0)]) hM151 rfl rfl rfl rfl ?_
  refine z_aload_n (pc' := 84) hM151 rfl rfl rfl ?_
  refine z_fldR (pc' := 87) hM151 rfl (zf_12_0 hG) rfl rfl ?_
  refine z_aload_n (pc' := 88) hM151 rfl rfl rfl ?_
  obtain ⟨z1, ez1, hm⟩ := o_v hm
  refine z_fldI (pc' := 91) hM151 rfl rfl rfl ez1 ?_
  refine z_iload (pc' := 93) hM151 rfl rfl rfl ?_
  refine z_bipush (pc' := 95) hM151 rfl rfl rfl ?_
  refine z_iconst (pc' := 96) hM151 rfl rfl rfl ?_
  refine z_iload (pc' := 98) hM151 rfl rfl rfl ?_
  refine z_iconst (pc' := 99) hM151 rfl rfl rfl ?_
  obtain ⟨nz2, hm⟩ := o_n hm
  obtain ⟨z2, ez2, hm⟩ := o_v hm
  refine z_irem (pc' := 100) hM151 rfl rfl nz2 ez2 ?_
  obtain ⟨z3, ez3, h4, hm⟩ := o_z hm
  refine z_isub (pc' := 101) hM151 rfl rfl ez3 h4 ?_
  obtain ⟨z5, ez5, h6, hm⟩ := o_z hm
  refine z_imul (pc' := 102) hM151 rfl rfl ez5 h6 ?_
  obtain ⟨z7, ez7, hm⟩ := o_v hm
  refine z_ishr (pc' := 103) hM151 rfl rfl ez7 ?_
  refine z_sipush (pc' := 106) hM151 rfl rfl rfl ?_
  obtain ⟨z8, ez8, hm⟩ := o_v hm
  refine z_iand (pc' := 107) hM151 rfl rfl ez8 ?_
  obtain ⟨h10, hm⟩ := o_x hm
  obtain ⟨s9, es9, hm⟩ := o_v hm
  refine z_iast (pc' := 108) hM151 rfl rfl h10 es9 ?_
  refine z_aload_n (pc' := 109) hM151 rfl rfl rfl ?_
  refine z_dupA (pc' := 110) hM151 rfl rfl ?_
  obtain ⟨z11, ez11, hm⟩ := o_v hm
  refine z_fldI (pc' := 113) hM151 rfl rfl rfl ez11 ?_
  refine z_iconst (pc' := 114) hM151 rfl rfl rfl ?_
  obtain ⟨z12, ez12, h13, hm⟩ := o_z hm
  refine z_iadd (pc' := 115) hM151 rfl rfl ez12 h13 ?_
  obtain ⟨s14, es14, hm⟩ := o_v hm
  refine z_putI (pc' := 118) hM151 rfl rfl rfl es14 ?_
  obtain ⟨z15, ez15, h16, hm⟩ := o_z hm
  refine z_iinc (pc' := 121) (l' := [some (zr 12 0 209), some (zi x1), some (zi x2), some (zi x3), some (zi x4), some (zi x5), some (zi z15), some (zi y0)]) hM151 rfl rfl rfl ez15 h16 rfl rfl ?_
  refine z_goto (t := 28) hM151 rfl ?_
  exact hk28 hm
def m151_28 : Nat → Int → Int → Int → Int → Int → Int → zS → Option (Int × zS)
  | 0, _, _, _, _, _, _, _ => none
  | n + 1, x1, x2, x3, x4, x5, x6, s => if x6 < (20 : Int) then if x6 < (4 : Int) then m151_81 (m151_28 n) x1 x2 x3 x4 x5 x6 x1 s else if x6 < (8 : Int) then m151_81 (m151_28 n) x1 x2 x3 x4 x5 x6 x2 s else if x6 < (12 : Int) then m151_81 (m151_28 n) x1 x2 x3 x4 x5 x6 x3 s else if x6 < (16 : Int) then m151_81 (m151_28 n) x1 x2 x3 x4 x5 x6 x4 s else m151_81 (m151_28 n) x1 x2 x3 x4 x5 x6 x5 s else oV (s.1 209 1) fun z6 => some (z6, s)
theorem c151_28 {G : aHp} {d : Nat} (hG : zG G) : ∀ {n : Nat} {x1 : Int} {x2 : Int} {x3 : Int} {x4 : Int} {x5 : Int} {x6 : Int} {d7 : Option zV} {s : zS} {r_ : Int} {s_ : zS}, m151_28 n x1 x2 x3 x4 x5 x6 s = some (r_, s_) → Zp G (d + 1) 151 28 [some (zr 12 0 209), some (zi x1), some (zi x2), some (zi x3), some (zi x4), some (zi x5), some (zi x6), d7] [] s (zRet (some (zi r_)) s_) := by
  intro n
  induction n with
  | zero => intro x1 x2 x3 x4 x5 x6 d7 s r_ s_ hm; cases hm
  | succ n ih =>
  intro x1 x2 x3 x4 x5 x6 d7 s r_ s_ hm
  replace hm : (if x6 < (20 : Int) then if x6 < (4 : Int) then m151_81 (m151_28 n) x1 x2 x3 x4 x5 x6 x1 s else if x6 < (8 : Int) then m151_81 (m151_28 n) x1 x2 x3 x4 x5 x6 x2 s else if x6 < (12 : Int) then m151_81 (m151_28 n) x1 x2 x3 x4 x5 x6 x3 s else if x6 < (16 : Int) then m151_81 (m151_28 n) x1 x2 x3 x4 x5 x6 x4 s else m151_81 (m151_28 n) x1 x2 x3 x4 x5 x6 x5 s else oV (s.1 209 1) fun z6 => some (z6, s)) = some (r_, s_) := hm
  refine z_iload (pc' := 30) hM151 rfl rfl rfl ?_
  refine z_bipush (pc' := 32) hM151 rfl rfl rfl ?_
  refine z_cmpge (pc' := 35) (t := 124) hM151 rfl rfl (fun h1 => ?_) (fun h1 => ?_)
  · replace hm := o_t hm h1
    refine z_iload (pc' := 37) hM151 rfl rfl rfl ?_
    refine z_iconst (pc' := 38) hM151 rfl rfl rfl ?_
    refine z_cmpge (pc' := 41) (t := 45) hM151 rfl rfl (fun h2 => ?_) (fun h2 => ?_)
    · replace hm := o_t hm h2
      refine z_iload_n (pc' := 42) hM151 rfl rfl rfl ?_
      refine z_goto (t := 81) hM151 rfl ?_
      exact c151_81 hG ih hm
    · replace hm := o_f hm h2
      refine z_iload (pc' := 47) hM151 rfl rfl rfl ?_
      refine z_bipush (pc' := 49) hM151 rfl rfl rfl ?_
      refine z_cmpge (pc' := 52) (t := 56) hM151 rfl rfl (fun h3 => ?_) (fun h3 => ?_)
      · replace hm := o_t hm h3
        refine z_iload_n (pc' := 53) hM151 rfl rfl rfl ?_
        refine z_goto (t := 81) hM151 rfl ?_
        exact c151_81 hG ih hm
      · replace hm := o_f hm h3
        refine z_iload (pc' := 58) hM151 rfl rfl rfl ?_
        refine z_bipush (pc' := 60) hM151 rfl rfl rfl ?_
        refine z_cmpge (pc' := 63) (t := 67) hM151 rfl rfl (fun h4 => ?_) (fun h4 => ?_)
        · replace hm := o_t hm h4
          refine z_iload_n (pc' := 64) hM151 rfl rfl rfl ?_
          refine z_goto (t := 81) hM151 rfl ?_
          exact c151_81 hG ih hm
        · replace hm := o_f hm h4
          refine z_iload (pc' := 69) hM151 rfl rfl rfl ?_
          refine z_bipush (pc' := 71) hM151 rfl rfl rfl ?_
          refine z_cmpge (pc' := 74) (t := 79) hM151 rfl rfl (fun h5 => ?_) (fun h5 => ?_)
          · replace hm := o_t hm h5
            refine z_iload (pc' := 76) hM151 rfl rfl rfl ?_
            refine z_goto (t := 81) hM151 rfl ?_
            exact c151_81 hG ih hm
          · replace hm := o_f hm h5
            refine z_iload (pc' := 81) hM151 rfl rfl rfl ?_
            exact c151_81 hG ih hm
  · replace hm := o_f hm h1
    refine z_aload_n (pc' := 125) hM151 rfl rfl rfl ?_
    obtain ⟨z6, ez6, hm⟩ := o_v hm
    refine z_fldI (pc' := 128) hM151 rfl rfl rfl ez6 ?_
    cases hm
    exact z_retI hM151 rfl rfl ⟨rfl, rfl⟩
def m151 (x1 : Int) (x2 : Int) (x3 : Int) (x4 : Int) (x5 : Int) (s : zS) : Option (Int × zS) := oV (s.1 209 1) fun z1 => oZ (z1 + (20 : Int)) fun z2 => if (1600 : Int) < z2 then oX (0 : Int) 6 (oV (s.1 211 (0 : Int)) fun z5 => oZ (z5 + (1 : Int)) fun z7 => oX (0 : Int) 6 (oV (sI s 211 (0 : Int) z7) fun s9 => some ((-1 : Int), s9))) else m151_28 zFu x1 x2 x3 x4 x5 (0 : Int) s
theorem c151 {G : aHp} {d : Nat} (hG : zG G) {x1 : Int} {x2 : Int} {x3 : Int} {x4 : Int} {x5 : Int} {s : zS} {r_ : Int} {s_ : zS} (hm : m151 x1 x2 x3 x4 x5 s = some (r_, s_)) : Zp G (d + 1) 151 0 [some (zr 12 0 209), some (zi x1), some (zi x2), some (zi x3), some (zi x4), some (zi x5), none, none] [] s (zRet (some (zi r_)) s_) := by
  replace hm : (oV (s.1 209 1) fun z1 => oZ (z1 + (20 : Int)) fun z2 => if (1600 : Int) < z2 then oX (0 : Int) 6 (oV (s.1 211 (0 : Int)) fun z5 => oZ (z5 + (1 : Int)) fun z7 => oX (0 : Int) 6 (oV (sI s 211 (0 : Int) z7) fun s9 => some ((-1 : Int), s9))) else m151_28 zFu x1 x2 x3 x4 x5 (0 : Int) s) = some (r_, s_) := hm
  refine z_aload_n (pc' := 1) hM151 rfl rfl rfl ?_
  obtain ⟨z1, ez1, hm⟩ := o_v hm
  refine z_fldI (pc' := 4) hM151 rfl rfl rfl ez1 ?_
  refine z_bipush (pc' := 6) hM151 rfl rfl rfl ?_
  obtain ⟨z2, ez2, h3, hm⟩ := o_z hm
  refine z_iadd (pc' := 7) hM151 rfl rfl ez2 h3 ?_
  refine z_sipush (pc' := 10) hM151 rfl rfl rfl ?_
  refine z_cmple (pc' := 13) (t := 25) hM151 rfl rfl (fun h4 => ?_) (fun h4 => ?_)
  · replace hm := o_t hm h4
    refine z_aload_n (pc' := 14) hM151 rfl rfl rfl ?_
    refine z_fldR (pc' := 17) hM151 rfl (zf_12_9 hG) rfl rfl ?_
    refine z_iconst (pc' := 18) hM151 rfl rfl rfl ?_
    refine z_dup2A (pc' := 19) hM151 rfl rfl ?_
    obtain ⟨h6, hm⟩ := o_x hm
    obtain ⟨z5, ez5, hm⟩ := o_v hm
    refine z_iald (pc' := 20) (zGN hG) hM151 rfl rfl h6 ez5 ?_
    refine z_iconst (pc' := 21) hM151 rfl rfl rfl ?_
    obtain ⟨z7, ez7, h8, hm⟩ := o_z hm
    refine z_iadd (pc' := 22) hM151 rfl rfl ez7 h8 ?_
    obtain ⟨h10, hm⟩ := o_x hm
    obtain ⟨s9, es9, hm⟩ := o_v hm
    refine z_iast (pc' := 23) hM151 rfl rfl h10 es9 ?_
    refine z_iconst (pc' := 24) hM151 rfl rfl rfl ?_
    cases hm
    exact z_retI hM151 rfl rfl ⟨rfl, rfl⟩
  · replace hm := o_f hm h4
    refine z_iconst (pc' := 26) hM151 rfl rfl rfl ?_
    refine z_istore (pc' := 28) (l' := [some (zr 12 0 209), some (zi x1), some (zi x2), some (zi x3), some (zi x4), some (zi x5), some (zi (0 : Int)), none]) hM151 rfl rfl rfl rfl ?_
    exact c151_28 hG hm
def m152_12  (s : zS) : Option (Int × zS) := oX (0 : Int) 6 (oV (s.1 211 (0 : Int)) fun z1 => oZ (z1 + (1 : Int)) fun z3 => oX (0 : Int) 6 (oV (sI s 211 (0 : Int) z3) fun s5 => some ((0 : Int), s5)))
theorem c152_12 {G : aHp} {d : Nat} (hG : zG G) {d1 : Option zV} {s : zS} {r_ : Int} {s_ : zS} (hm : m152_12  s = some (r_, s_)) : Zp G (d + 1) 152 12 [some (zr 12 0 209), d1] [] s (zRet (some (zi r_)) s_) := by
  replace hm : (oX (0 : Int) 6 (oV (s.1 211 (0 : Int)) fun z1 => oZ (z1 + (1 : Int)) fun z3 => oX (0 : Int) 6 (oV (sI s 211 (0 : Int) z3) fun s5 => some ((0 : Int), s5)))) = some (r_, s_) := hm
  refine z_aload_n (pc' := 13) hM152 rfl rfl rfl ?_
  refine z_fldR (pc' := 16) hM152 rfl (zf_12_9 hG) rfl rfl ?_
  refine z_iconst (pc' := 17) hM152 rfl rfl rfl ?_
  refine z_dup2A (pc' := 18) hM152 rfl rfl ?_
  obtain ⟨h2, hm⟩ := o_x hm
  obtain ⟨z1, ez1, hm⟩ := o_v hm
  refine z_iald (pc' := 19) (zGN hG) hM152 rfl rfl h2 ez1 ?_
  refine z_iconst (pc' := 20) hM152 rfl rfl rfl ?_
  obtain ⟨z3, ez3, h4, hm⟩ := o_z hm
  refine z_iadd (pc' := 21) hM152 rfl rfl ez3 h4 ?_
  obtain ⟨h6, hm⟩ := o_x hm
  obtain ⟨s5, es5, hm⟩ := o_v hm
  refine z_iast (pc' := 22) hM152 rfl rfl h6 es5 ?_
  refine z_iconst (pc' := 23) hM152 rfl rfl rfl ?_
  cases hm
  exact z_retZ hM152 rfl rfl (Or.inl rfl) ⟨rfl, rfl⟩
def m152 (x1 : Int) (s : zS) : Option (Int × zS) := if x1 < (0 : Int) then m152_12 s else oV (s.1 209 1) fun z2 => if z2 < x1 then m152_12 s else oV (sI s 209 1 x1) fun s4 => some ((1 : Int), s4)
theorem c152 {G : aHp} {d : Nat} (hG : zG G) {x1 : Int} {s : zS} {r_ : Int} {s_ : zS} (hm : m152 x1 s = some (r_, s_)) : Zp G (d + 1) 152 0 [some (zr 12 0 209), some (zi x1)] [] s (zRet (some (zi r_)) s_) := by
  replace hm : (if x1 < (0 : Int) then m152_12 s else oV (s.1 209 1) fun z2 => if z2 < x1 then m152_12 s else oV (sI s 209 1 x1) fun s4 => some ((1 : Int), s4)) = some (r_, s_) := hm
  refine z_iload_n (pc' := 1) hM152 rfl rfl rfl ?_
  refine z_iflt (pc' := 4) (t := 12) hM152 rfl rfl (fun h1 => ?_) (fun h1 => ?_)
  · replace hm := o_t hm h1
    exact c152_12 hG hm
  · replace hm := o_f hm h1
    refine z_iload_n (pc' := 5) hM152 rfl rfl rfl ?_
    refine z_aload_n (pc' := 6) hM152 rfl rfl rfl ?_
    obtain ⟨z2, ez2, hm⟩ := o_v hm
    refine z_fldI (pc' := 9) hM152 rfl rfl rfl ez2 ?_
    refine z_cmple (pc' := 12) (t := 24) hM152 rfl rfl (fun h3 => ?_) (fun h3 => ?_)
    · replace hm := o_t hm h3
      exact c152_12 hG hm
    · replace hm := o_f hm h3
      refine z_aload_n (pc' := 25) hM152 rfl rfl rfl ?_
      refine z_iload_n (pc' := 26) hM152 rfl rfl rfl ?_
      obtain ⟨s4, es4, hm⟩ := o_v hm
      refine z_putI (pc' := 29) hM152 rfl rfl rfl es4 ?_
      refine z_iconst (pc' := 30) hM152 rfl rfl rfl ?_
      cases hm
      exact z_retZ hM152 rfl rfl (Or.inr rfl) ⟨rfl, rfl⟩
def m153 (x1 : Int) (x2 : Int) (s : zS) : Option (Int × zS) := oV (s.1 209 5) fun z1 => if z1 = (0 : Int) then oV (sI s 209 5 x1) fun s3 => oV (sI s3 209 6 x2) fun s4 => some (0, s4) else some (0, s)
theorem c153 {G : aHp} {d : Nat} (hG : zG G) {x1 : Int} {x2 : Int} {s : zS} {r_ : Int} {s_ : zS} (hm : m153 x1 x2 s = some (r_, s_)) : Zp G (d + 1) 153 0 [some (zr 12 0 209), some (zi x1), some (zi x2)] [] s (zRet none s_) := by
  replace hm : (oV (s.1 209 5) fun z1 => if z1 = (0 : Int) then oV (sI s 209 5 x1) fun s3 => oV (sI s3 209 6 x2) fun s4 => some (0, s4) else some (0, s)) = some (r_, s_) := hm
  refine z_aload_n (pc' := 1) hM153 rfl rfl rfl ?_
  obtain ⟨z1, ez1, hm⟩ := o_v hm
  refine z_fldI (pc' := 4) hM153 rfl rfl rfl ez1 ?_
  refine z_ifeq (pc' := 7) (t := 8) hM153 rfl rfl (fun h2 => ?_) (fun h2 => ?_)
  · replace hm := o_t hm h2
    refine z_aload_n (pc' := 9) hM153 rfl rfl rfl ?_
    refine z_iload_n (pc' := 10) hM153 rfl rfl rfl ?_
    obtain ⟨s3, es3, hm⟩ := o_v hm
    refine z_putI (pc' := 13) hM153 rfl rfl rfl es3 ?_
    refine z_aload_n (pc' := 14) hM153 rfl rfl rfl ?_
    refine z_iload_n (pc' := 15) hM153 rfl rfl rfl ?_
    obtain ⟨s4, es4, hm⟩ := o_v hm
    refine z_putI (pc' := 18) hM153 rfl rfl rfl es4 ?_
    cases hm
    exact z_retV hM153 rfl rfl ⟨rfl, rfl⟩
  · replace hm := o_f hm h2
    cases hm
    exact z_retV hM153 rfl rfl ⟨rfl, rfl⟩
def m154 (x0 : Int) (s : zS) : Option (Int × zS) := if x0 < (97 : Int) then some ((0 : Int), s) else if (122 : Int) < x0 then some ((0 : Int), s) else some ((1 : Int), s)
theorem c154 {G : aHp} {d : Nat} (hG : zG G) {x0 : Int} {s : zS} {r_ : Int} {s_ : zS} (hm : m154 x0 s = some (r_, s_)) : Zp G (d + 1) 154 0 [some (zi x0)] [] s (zRet (some (zi r_)) s_) := by
  replace hm : (if x0 < (97 : Int) then some ((0 : Int), s) else if (122 : Int) < x0 then some ((0 : Int), s) else some ((1 : Int), s)) = some (r_, s_) := hm
  refine z_iload_n (pc' := 1) hM154 rfl rfl rfl ?_
  refine z_bipush (pc' := 3) hM154 rfl rfl rfl ?_
  refine z_cmplt (pc' := 6) (t := 16) hM154 rfl rfl (fun h1 => ?_) (fun h1 => ?_)
  · replace hm := o_t hm h1
    refine z_iconst (pc' := 17) hM154 rfl rfl rfl ?_
    cases hm
    exact z_retZ hM154 rfl rfl (Or.inl rfl) ⟨rfl, rfl⟩
  · replace hm := o_f hm h1
    refine z_iload_n (pc' := 7) hM154 rfl rfl rfl ?_
    refine z_bipush (pc' := 9) hM154 rfl rfl rfl ?_
    refine z_cmpgt (pc' := 12) (t := 16) hM154 rfl rfl (fun h2 => ?_) (fun h2 => ?_)
    · replace hm := o_t hm h2
      refine z_iconst (pc' := 17) hM154 rfl rfl rfl ?_
      cases hm
      exact z_retZ hM154 rfl rfl (Or.inl rfl) ⟨rfl, rfl⟩
    · replace hm := o_f hm h2
      refine z_iconst (pc' := 13) hM154 rfl rfl rfl ?_
      refine z_goto (t := 17) hM154 rfl ?_
      cases hm
      exact z_retZ hM154 rfl rfl (Or.inr rfl) ⟨rfl, rfl⟩
def m155 (x0 : Int) (s : zS) : Option (Int × zS) := if x0 < (48 : Int) then some ((0 : Int), s) else if (57 : Int) < x0 then some ((0 : Int), s) else some ((1 : Int), s)
theorem c155 {G : aHp} {d : Nat} (hG : zG G) {x0 : Int} {s : zS} {r_ : Int} {s_ : zS} (hm : m155 x0 s = some (r_, s_)) : Zp G (d + 1) 155 0 [some (zi x0)] [] s (zRet (some (zi r_)) s_) := by
  replace hm : (if x0 < (48 : Int) then some ((0 : Int), s) else if (57 : Int) < x0 then some ((0 : Int), s) else some ((1 : Int), s)) = some (r_, s_) := hm
  refine z_iload_n (pc' := 1) hM155 rfl rfl rfl ?_
  refine z_bipush (pc' := 3) hM155 rfl rfl rfl ?_
  refine z_cmplt (pc' := 6) (t := 16) hM155 rfl rfl (fun h1 => ?_) (fun h1 => ?_)
  · replace hm := o_t hm h1
    refine z_iconst (pc' := 17) hM155 rfl rfl rfl ?_
    cases hm
    exact z_retZ hM155 rfl rfl (Or.inl rfl) ⟨rfl, rfl⟩
  · replace hm := o_f hm h1
    refine z_iload_n (pc' := 7) hM155 rfl rfl rfl ?_
    refine z_bipush (pc' := 9) hM155 rfl rfl rfl ?_
    refine z_cmpgt (pc' := 12) (t := 16) hM155 rfl rfl (fun h2 => ?_) (fun h2 => ?_)
    · replace hm := o_t hm h2
      refine z_iconst (pc' := 17) hM155 rfl rfl rfl ?_
      cases hm
      exact z_retZ hM155 rfl rfl (Or.inl rfl) ⟨rfl, rfl⟩
    · replace hm := o_f hm h2
      refine z_iconst (pc' := 13) hM155 rfl rfl rfl ?_
      refine z_goto (t := 17) hM155 rfl ?_
      cases hm
      exact z_retZ hM155 rfl rfl (Or.inr rfl) ⟨rfl, rfl⟩
def m156_52  (s : zS) : Option (Int × zS) := oV (s.1 209 2) fun z1 => oV (s.1 209 3) fun z2 => if z1 < z2 then oV (s.1 209 2) fun z4 => oX z4 1600 (oV (s.1 210 z4) fun z5 => some (z5, s)) else some ((-1 : Int), s)
theorem c156_52 {G : aHp} {d : Nat} (hG : zG G) {s : zS} {r_ : Int} {s_ : zS} (hm : m156_52  s = some (r_, s_)) : Zp G (d + 1) 156 52 [some (zr 12 0 209)] [] s (zRet (some (zi r_)) s_) := by
  replace hm : (oV (s.1 209 2) fun z1 => oV (s.1 209 3) fun z2 => if z1 < z2 then oV (s.1 209 2) fun z4 => oX z4 1600 (oV (s.1 210 z4) fun z5 => some (z5, s)) else some ((-1 : Int), s)) = some (r_, s_) := hm
  refine z_aload_n (pc' := 53) hM156 rfl rfl rfl ?_
  obtain ⟨z1, ez1, hm⟩ := o_v hm
  refine z_fldI (pc' := 56) hM156 rfl rfl rfl ez1 ?_
  refine z_aload_n (pc' := 57) hM156 rfl rfl rfl ?_
  obtain ⟨z2, ez2, hm⟩ := o_v hm
  refine z_fldI (pc' := 60) hM156 rfl rfl rfl ez2 ?_
  refine z_cmpge (pc' := 63) (t := 75) hM156 rfl rfl (fun h3 => ?_) (fun h3 => ?_)
  · replace hm := o_t hm h3
    refine z_aload_n (pc' := 64) hM156 rfl rfl rfl ?_
    refine z_fldR (pc' := 67) hM156 rfl (zf_12_0 hG) rfl rfl ?_
    refine z_aload_n (pc' := 68) hM156 rfl rfl rfl ?_
    obtain ⟨z4, ez4, hm⟩ := o_v hm
    refine z_fldI (pc' := 71) hM156 rfl rfl rfl ez4 ?_
    obtain ⟨h6, hm⟩ := o_x hm
    obtain ⟨z5, ez5, hm⟩ := o_v hm
    refine z_iald (pc' := 72) (zGN hG) hM156 rfl rfl h6 ez5 ?_
    refine z_goto (t := 76) hM156 rfl ?_
    cases hm
    exact z_retI hM156 rfl rfl ⟨rfl, rfl⟩
  · replace hm := o_f hm h3
    refine z_iconst (pc' := 76) hM156 rfl rfl rfl ?_
    cases hm
    exact z_retI hM156 rfl rfl ⟨rfl, rfl⟩
def m156_39 (k0_ : zS → Option (Int × zS))  (s : zS) : Option (Int × zS) := oV (s.1 209 2) fun z1 => oZ (z1 + (1 : Int)) fun z2 => oV (sI s 209 2 z2) fun s4 => k0_ s4
theorem c156_39 {G : aHp} {d : Nat} {k0_ : zS → Option (Int × zS)} (hG : zG G) (hk0 : ∀ {s : zS} {r_ : Int} {s_ : zS}, k0_  s = some (r_, s_) → Zp G (d + 1) 156 0 [some (zr 12 0 209)] [] s (zRet (some (zi r_)) s_)) {s : zS} {r_ : Int} {s_ : zS} (hm : m156_39 k0_  s = some (r_, s_)) : Zp G (d + 1) 156 39 [some (zr 12 0 209)] [] s (zRet (some (zi r_)) s_) := by
  replace hm : (oV (s.1 209 2) fun z1 => oZ (z1 + (1 : Int)) fun z2 => oV (sI s 209 2 z2) fun s4 => k0_ s4) = some (r_, s_) := hm
  refine z_aload_n (pc' := 40) hM156 rfl rfl rfl ?_
  refine z_dupA (pc' := 41) hM156 rfl rfl ?_
  obtain ⟨z1, ez1, hm⟩ := o_v hm
  refine z_fldI (pc' := 44) hM156 rfl rfl rfl ez1 ?_
  refine z_iconst (pc' := 45) hM156 rfl rfl rfl ?_
  obtain ⟨z2, ez2, h3, hm⟩ := o_z hm
  refine z_iadd (pc' := 46) hM156 rfl rfl ez2 h3 ?_
  obtain ⟨s4, es4, hm⟩ := o_v hm
  refine z_putI (pc' := 49) hM156 rfl rfl rfl es4 ?_
  refine z_goto (t := 0) hM156 rfl ?_
  exact hk0 hm
def m156_0 : Nat → zS → Option (Int × zS)
  | 0, _ => none
  | n + 1, s => oV (s.1 209 2) fun z1 => oV (s.1 209 3) fun z2 => if z1 < z2 then oV (s.1 209 2) fun z4 => oX z4 1600 (oV (s.1 210 z4) fun z5 => if z5 = (10 : Int) then m156_39 (m156_0 n) s else oV (s.1 209 2) fun z8 => oX z8 1600 (oV (s.1 210 z8) fun z9 => if z9 = (32 : Int) then m156_39 (m156_0 n) s else m156_52 s)) else m156_52 s
theorem c156_0 {G : aHp} {d : Nat} (hG : zG G) : ∀ {n : Nat} {s : zS} {r_ : Int} {s_ : zS}, m156_0 n  s = some (r_, s_) → Zp G (d + 1) 156 0 [some (zr 12 0 209)] [] s (zRet (some (zi r_)) s_) := by
  intro n
  induction n with
  | zero => intro  s r_ s_ hm; cases hm
  | succ n ih =>
  intro  s r_ s_ hm
  replace hm : (oV (s.1 209 2) fun z1 => oV (s.1 209 3) fun z2 => if z1 < z2 then oV (s.1 209 2) fun z4 => oX z4 1600 (oV (s.1 210 z4) fun z5 => if z5 = (10 : Int) then m156_39 (m156_0 n) s else oV (s.1 209 2) fun z8 => oX z8 1600 (oV (s.1 210 z8) fun z9 => if z9 = (32 : Int) then m156_39 (m156_0 n) s else m156_52 s)) else m156_52 s) = some (r_, s_) := hm
  refine z_aload_n (pc' := 1) hM156 rfl rfl rfl ?_
  obtain ⟨z1, ez1, hm⟩ := o_v hm
  refine z_fldI (pc' := 4) hM156 rfl rfl rfl ez1 ?_
  refine z_aload_n (pc' := 5) hM156 rfl rfl rfl ?_
  obtain ⟨z2, ez2, hm⟩ := o_v hm
  refine z_fldI (pc' := 8) hM156 rfl rfl rfl ez2 ?_
  refine z_cmpge (pc' := 11) (t := 52) hM156 rfl rfl (fun h3 => ?_) (fun h3 => ?_)
  · replace hm := o_t hm h3
    refine z_aload_n (pc' := 12) hM156 rfl rfl rfl ?_
    refine z_fldR (pc' := 15) hM156 rfl (zf_12_0 hG) rfl rfl ?_
    refine z_aload_n (pc' := 16) hM156 rfl rfl rfl ?_
    obtain ⟨z4, ez4, hm⟩ := o_v hm
    refine z_fldI (pc' := 19) hM156 rfl rfl rfl ez4 ?_
    obtain ⟨h6, hm⟩ := o_x hm
    obtain ⟨z5, ez5, hm⟩ := o_v hm
    refine z_iald (pc' := 20) (zGN hG) hM156 rfl rfl h6 ez5 ?_
    refine z_bipush (pc' := 22) hM156 rfl rfl rfl ?_
    refine z_cmpeq (pc' := 25) (t := 39) hM156 rfl rfl (fun h7 => ?_) (fun h7 => ?_)
    · replace hm := o_t hm h7
      exact c156_39 hG ih hm
    · replace hm := o_f hm h7
      refine z_aload_n (pc' := 26) hM156 rfl rfl rfl ?_
      refine z_fldR (pc' := 29) hM156 rfl (zf_12_0 hG) rfl rfl ?_
      refine z_aload_n (pc' := 30) hM156 rfl rfl rfl ?_
      obtain ⟨z8, ez8, hm⟩ := o_v hm
      refine z_fldI (pc' := 33) hM156 rfl rfl rfl ez8 ?_
      obtain ⟨h10, hm⟩ := o_x hm
      obtain ⟨z9, ez9, hm⟩ := o_v hm
      refine z_iald (pc' := 34) (zGN hG) hM156 rfl rfl h10 ez9 ?_
      refine z_bipush (pc' := 36) hM156 rfl rfl rfl ?_
      refine z_cmpne (pc' := 39) (t := 52) hM156 rfl rfl (fun h11 => ?_) (fun h11 => ?_)
      · replace hm := o_t hm h11
        exact c156_39 hG ih hm
      · replace hm := o_f hm h11
        exact c156_52 hG hm
  · replace hm := o_f hm h3
    exact c156_52 hG hm
def m156  (s : zS) : Option (Int × zS) := m156_0 zFu s
theorem c156 {G : aHp} {d : Nat} (hG : zG G) {s : zS} {r_ : Int} {s_ : zS} (hm : m156  s = some (r_, s_)) : Zp G (d + 1) 156 0 [some (zr 12 0 209)] [] s (zRet (some (zi r_)) s_) :=
  c156_0 hG hm
