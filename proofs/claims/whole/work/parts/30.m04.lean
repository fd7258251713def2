/-! ===== methods (by gen_mir.py) ===== -/
def m62 (a0 : Nat) (a1 : Nat) (x2 : Int) (x3 : Int) (s : zS) : Option (Int × zS) := oC (m61 a0 a1 x2 x3 s) fun z1 s2 => if z1 = (-1 : Int) then some ((-1 : Int), s2) else oC (m60 a0 z1 s2) fun z5 s6 => oX x2 6 (oV (s6.1 (a0 + 2) x2) fun z8 => oC (m59 a0 z8 s6) fun z10 s11 => oX x2 6 (oV (sI s11 (a0 + 2) x2 z5) fun s13 => oX x2 6 (oV (sI s13 (a0 + 3) x2 (0 : Int)) fun s15 => oX x2 6 (oV (sI s15 (a0 + 4) x2 (0 : Int)) fun s17 => some (z5, s17)))))
theorem c62 {G : aHp} {d : Nat} (hG : zG G) {a0 : Nat} {a1 : Nat} {x2 : Int} {x3 : Int} {s : zS} {r_ : Int} {s_ : zS} (hm : m62 a0 a1 x2 x3 s = some (r_, s_)) : Zp G (d + 4) 62 0 [some (zr 7 0 a0), some (zr 5 0 a1), some (zi x2), some (zi x3), none, none] [] s (zRet (some (zi r_)) s_) := by
  replace hm : (oC (m61 a0 a1 x2 x3 s) fun z1 s2 => if z1 = (-1 : Int) then some ((-1 : Int), s2) else oC (m60 a0 z1 s2) fun z5 s6 => oX x2 6 (oV (s6.1 (a0 + 2) x2) fun z8 => oC (m59 a0 z8 s6) fun z10 s11 => oX x2 6 (oV (sI s11 (a0 + 2) x2 z5) fun s13 => oX x2 6 (oV (sI s13 (a0 + 3) x2 (0 : Int)) fun s15 => oX x2 6 (oV (sI s15 (a0 + 4) x2 (0 : Int)) fun s17 => some (z5, s17)))))) = some (r_, s_) := hm
  refine z_aload_n (pc' := 1) hM62 rfl rfl rfl ?_
  refine z_aload_n (pc' := 2) hM62 rfl rfl rfl ?_
  refine z_iload_n (pc' := 3) hM62 rfl rfl rfl ?_
  refine z_iload_n (pc' := 4) hM62 rfl rfl rfl ?_
  obtain ⟨z1, s2, h3, hm⟩ := o_c hm
  refine z_cv (d := d + 3) (pc' := 7) hM62 rfl hM61 rfl rfl rfl rfl rfl rfl (c61 (d := d) hG h3) rfl ?_
  refine z_istore (pc' := 9) (l' := [some (zr 7 0 a0), some (zr 5 0 a1), some (zi x2), some (zi x3), some (zi z1), none]) hM62 rfl rfl rfl rfl ?_
  refine z_iload (pc' := 11) hM62 rfl rfl rfl ?_
  refine z_iconst (pc' := 12) hM62 rfl rfl rfl ?_
  refine z_cmpne (pc' := 15) (t := 17) hM62 rfl rfl (fun h4 => ?_) (fun h4 => ?_)
  · replace hm := o_t hm h4
    refine z_iconst (pc' := 16) hM62 rfl rfl rfl ?_
    cases hm
    exact z_retI hM62 rfl rfl ⟨rfl, rfl⟩
  · replace hm := o_f hm h4
    refine z_aload_n (pc' := 18) hM62 rfl rfl rfl ?_
    refine z_iload (pc' := 20) hM62 rfl rfl rfl ?_
    obtain ⟨z5, s6, h7, hm⟩ := o_c hm
    refine z_cv (d := d + 3) (pc' := 23) hM62 rfl hM60 rfl rfl rfl rfl rfl rfl (c60 (d := d + 2) hG h7) rfl ?_
    refine z_istore (pc' := 25) (l' := [some (zr 7 0 a0), some (zr 5 0 a1), some (zi x2), some (zi x3), some (zi z1), some (zi z5)]) hM62 rfl rfl rfl rfl ?_
    refine z_aload_n (pc' := 26) hM62 rfl rfl rfl ?_
    refine z_aload_n (pc' := 27) hM62 rfl rfl rfl ?_
    refine z_fldR (pc' := 30) hM62 rfl (zf_7_1 hG) rfl rfl ?_
    refine z_iload_n (pc' := 31) hM62 rfl rfl rfl ?_
    obtain ⟨h9, hm⟩ := o_x hm
    obtain ⟨z8, ez8, hm⟩ := o_v hm
    refine z_iald (pc' := 32) (zGN hG) hM62 rfl rfl h9 ez8 ?_
    obtain ⟨z10, s11, h12, hm⟩ := o_c hm
    refine z_cvV (d := d + 3) (pc' := 35) hM62 rfl hM59 rfl rfl rfl rfl rfl rfl (c59 (d := d + 2) hG h12) rfl ?_
    refine z_aload_n (pc' := 36) hM62 rfl rfl rfl ?_
    refine z_fldR (pc' := 39) hM62 rfl (zf_7_1 hG) rfl rfl ?_
    refine z_iload_n (pc' := 40) hM62 rfl rfl rfl ?_
    refine z_iload (pc' := 42) hM62 rfl rfl rfl ?_
    obtain ⟨h14, hm⟩ := o_x hm
    obtain ⟨s13, es13, hm⟩ := o_v hm
    refine z_iast (pc' := 43) hM62 rfl rfl h14 es13 ?_
    refine z_aload_n (pc' := 44) hM62 rfl rfl rfl ?_
    refine z_fldR (pc' := 47) hM62 rfl (zf_7_2 hG) rfl rfl ?_
    refine z_iload_n (pc' := 48) hM62 rfl rfl rfl ?_
    refine z_iconst (pc' := 49) hM62 rfl rfl rfl ?_
    obtain ⟨h16, hm⟩ := o_x hm
    obtain ⟨s15, es15, hm⟩ := o_v hm
    refine z_iast (pc' := 50) hM62 rfl rfl h16 es15 ?_
    refine z_aload_n (pc' := 51) hM62 rfl rfl rfl ?_
    refine z_fldR (pc' := 54) hM62 rfl (zf_7_3 hG) rfl rfl ?_
    refine z_iload_n (pc' := 55) hM62 rfl rfl rfl ?_
    refine z_iconst (pc' := 56) hM62 rfl rfl rfl ?_
    obtain ⟨h18, hm⟩ := o_x hm
    obtain ⟨s17, es17, hm⟩ := o_v hm
    refine z_iast (pc' := 57) hM62 rfl rfl h18 es17 ?_
    refine z_iload (pc' := 59) hM62 rfl rfl rfl ?_
    cases hm
    exact z_retI hM62 rfl rfl ⟨rfl, rfl⟩
def m63_30 (a0 : Nat) (x1 : Int) (s : zS) : Option (Int × zS) := oX x1 6 (oV (sI s (a0 + 3) x1 (-1 : Int)) fun s1 => oX x1 6 (oV (sI s1 (a0 + 4) x1 (0 : Int)) fun s3 => oX x1 6 (oV (s3.1 (a0 + 2) x1) fun z5 => some (z5, s3))))
theorem c63_30 {G : aHp} {d : Nat} (hG : zG G) {a0 : Nat} {x1 : Int} {d2 : Option zV} {s : zS} {r_ : Int} {s_ : zS} (hm : m63_30 a0 x1 s = some (r_, s_)) : Zp G (d + 2) 63 30 [some (zr 7 0 a0), some (zi x1), d2] [] s (zRet (some (zi r_)) s_) := by
  replace hm : (oX x1 6 (oV (sI s (a0 + 3) x1 (-1 : Int)) fun s1 => oX x1 6 (oV (sI s1 (a0 + 4) x1 (0 : Int)) fun s3 => oX x1 6 (oV (s3.1 (a0 + 2) x1) fun z5 => some (z5, s3))))) = some (r_, s_) := hm
  refine z_aload_n (pc' := 31) hM63 rfl rfl rfl ?_
  refine z_fldR (pc' := 34) hM63 rfl (zf_7_2 hG) rfl rfl ?_
  refine z_iload_n (pc' := 35) hM63 rfl rfl rfl ?_
  refine z_iconst (pc' := 36) hM63 rfl rfl rfl ?_
  obtain ⟨h2, hm⟩ := o_x hm
  obtain ⟨s1, es1, hm⟩ := o_v hm
  refine z_iast (pc' := 37) hM63 rfl rfl h2 es1 ?_
  refine z_aload_n (pc' := 38) hM63 rfl rfl rfl ?_
  refine z_fldR (pc' := 41) hM63 rfl (zf_7_3 hG) rfl rfl ?_
  refine z_iload_n (pc' := 42) hM63 rfl rfl rfl ?_
  refine z_iconst (pc' := 43) hM63 rfl rfl rfl ?_
  obtain ⟨h4, hm⟩ := o_x hm
  obtain ⟨s3, es3, hm⟩ := o_v hm
  refine z_iast (pc' := 44) hM63 rfl rfl h4 es3 ?_
  refine z_aload_n (pc' := 45) hM63 rfl rfl rfl ?_
  refine z_fldR (pc' := 48) hM63 rfl (zf_7_1 hG) rfl rfl ?_
  refine z_iload_n (pc' := 49) hM63 rfl rfl rfl ?_
  obtain ⟨h6, hm⟩ := o_x hm
  obtain ⟨z5, ez5, hm⟩ := o_v hm
  refine z_iald (pc' := 50) (zGN hG) hM63 rfl rfl h6 ez5 ?_
  cases hm
  exact z_retI hM63 rfl rfl ⟨rfl, rfl⟩
def m63 (a0 : Nat) (x1 : Int) (s : zS) : Option (Int × zS) := oX x1 6 (oV (s.1 (a0 + 2) x1) fun z1 => oV (s.1 a0 5) fun z3 => if (0 : Int) < z3 then oC (m60 a0 (0 : Int) s) fun z5 s6 => oX x1 6 (oV (sI s6 (a0 + 2) x1 z5) fun s8 => oC (m59 a0 z1 s8) fun z10 s11 => m63_30 a0 x1 s11) else m63_30 a0 x1 s)
theorem c63 {G : aHp} {d : Nat} (hG : zG G) {a0 : Nat} {x1 : Int} {s : zS} {r_ : Int} {s_ : zS} (hm : m63 a0 x1 s = some (r_, s_)) : Zp G (d + 2) 63 0 [some (zr 7 0 a0), some (zi x1), none] [] s (zRet (some (zi r_)) s_) := by
  replace hm : (oX x1 6 (oV (s.1 (a0 + 2) x1) fun z1 => oV (s.1 a0 5) fun z3 => if (0 : Int) < z3 then oC (m60 a0 (0 : Int) s) fun z5 s6 => oX x1 6 (oV (sI s6 (a0 + 2) x1 z5) fun s8 => oC (m59 a0 z1 s8) fun z10 s11 => m63_30 a0 x1 s11) else m63_30 a0 x1 s)) = some (r_, s_) := hm
  refine z_aload_n (pc' := 1) hM63 rfl rfl rfl ?_
  refine z_fldR (pc' := 4) hM63 rfl (zf_7_1 hG) rfl rfl ?_
  refine z_iload_n (pc' := 5) hM63 rfl rfl rfl ?_
  obtain ⟨h2, hm⟩ := o_x hm
  obtain ⟨z1, ez1, hm⟩ := o_v hm
  refine z_iald (pc' := 6) (zGN hG) hM63 rfl rfl h2 ez1 ?_
  refine z_istore_n (pc' := 7) (l' := [some (zr 7 0 a0), some (zi x1), some (zi z1)]) hM63 rfl rfl rfl rfl ?_
  refine z_aload_n (pc' := 8) hM63 rfl rfl rfl ?_
  obtain ⟨z3, ez3, hm⟩ := o_v hm
  refine z_fldI (pc' := 11) hM63 rfl rfl rfl ez3 ?_
  refine z_ifle (pc' := 14) (t := 30) hM63 rfl rfl (fun h4 => ?_) (fun h4 => ?_)
  · replace hm := o_t hm h4
    refine z_aload_n (pc' := 15) hM63 rfl rfl rfl ?_
    refine z_fldR (pc' := 18) hM63 rfl (zf_7_1 hG) rfl rfl ?_
    refine z_iload_n (pc' := 19) hM63 rfl rfl rfl ?_
    refine z_aload_n (pc' := 20) hM63 rfl rfl rfl ?_
    refine z_iconst (pc' := 21) hM63 rfl rfl rfl ?_
    obtain ⟨z5, s6, h7, hm⟩ := o_c hm
    refine z_cv (d := d + 1) (pc' := 24) hM63 rfl hM60 rfl rfl rfl rfl rfl rfl (c60 (d := d) hG h7) rfl ?_
    obtain ⟨h9, hm⟩ := o_x hm
    obtain ⟨s8, es8, hm⟩ := o_v hm
    refine z_iast (pc' := 25) hM63 rfl rfl h9 es8 ?_
    refine z_aload_n (pc' := 26) hM63 rfl rfl rfl ?_
    refine z_iload_n (pc' := 27) hM63 rfl rfl rfl ?_
    obtain ⟨z10, s11, h12, hm⟩ := o_c hm
    refine z_cvV (d := d + 1) (pc' := 30) hM63 rfl hM59 rfl rfl rfl rfl rfl rfl (c59 (d := d) hG h12) rfl ?_
    exact c63_30 hG hm
  · replace hm := o_f hm h4
    exact c63_30 hG hm
def m65 (x1 : Int) (x2 : Int) (s : zS) : Option (Int × zS) := oZ (64 : Nat) fun z1 => if x1 < z1 then oX x1 64 (oV (sI s 42 x1 x2) fun s4 => oZ (x1 + (1 : Int)) fun z6 => some (z6, s4)) else oZ (x1 + (1 : Int)) fun z8 => some (z8, s)
theorem c65 {G : aHp} {d : Nat} (hG : zG G) {x1 : Int} {x2 : Int} {s : zS} {r_ : Int} {s_ : zS} (hm : m65 x1 x2 s = some (r_, s_)) : Zp G (d + 1) 65 0 [some (zr 100 64 42), some (zi x1), some (zi x2)] [] s (zRet (some (zi r_)) s_) := by
  replace hm : (oZ (64 : Nat) fun z1 => if x1 < z1 then oX x1 64 (oV (sI s 42 x1 x2) fun s4 => oZ (x1 + (1 : Int)) fun z6 => some (z6, s4)) else oZ (x1 + (1 : Int)) fun z8 => some (z8, s)) = some (r_, s_) := hm
  refine z_iload_n (pc' := 1) hM65 rfl rfl rfl ?_
  refine z_aload_n (pc' := 2) hM65 rfl rfl rfl ?_
  obtain ⟨z1, ez1, h2, hm⟩ := o_z hm
  refine z_alen (pc' := 3) (zGN hG) hM65 rfl (Or.inl rfl) rfl ez1 h2 ?_
  refine z_cmpge (pc' := 6) (t := 10) hM65 rfl rfl (fun h3 => ?_) (fun h3 => ?_)
  · replace hm := o_t hm h3
    refine z_aload_n (pc' := 7) hM65 rfl rfl rfl ?_
    refine z_iload_n (pc' := 8) hM65 rfl rfl rfl ?_
    refine z_iload_n (pc' := 9) hM65 rfl rfl rfl ?_
    obtain ⟨h5, hm⟩ := o_x hm
    obtain ⟨s4, es4, hm⟩ := o_v hm
    refine z_iast (pc' := 10) hM65 rfl rfl h5 es4 ?_
    refine z_iload_n (pc' := 11) hM65 rfl rfl rfl ?_
    refine z_iconst (pc' := 12) hM65 rfl rfl rfl ?_
    obtain ⟨z6, ez6, h7, hm⟩ := o_z hm
    refine z_iadd (pc' := 13) hM65 rfl rfl ez6 h7 ?_
    cases hm
    exact z_retI hM65 rfl rfl ⟨rfl, rfl⟩
  · replace hm := o_f hm h3
    refine z_iload_n (pc' := 11) hM65 rfl rfl rfl ?_
    refine z_iconst (pc' := 12) hM65 rfl rfl rfl ?_
    obtain ⟨z8, ez8, h9, hm⟩ := o_z hm
    refine z_iadd (pc' := 13) hM65 rfl rfl ez8 h9 ?_
    cases hm
    exact z_retI hM65 rfl rfl ⟨rfl, rfl⟩
def m66 (x1 : Int) (x2 : Int) (s : zS) : Option (Int × zS) := oN (256 : Int) (oZ (Int.tdiv x2 (256 : Int)) fun z1 => oC (m65 x1 z1 s) fun z3 s4 => oN (256 : Int) (oV (Int.tmod x2 (256 : Int)) fun z6 => oC (m65 z3 z6 s4) fun z7 s8 => some (z7, s8)))
theorem c66 {G : aHp} {d : Nat} (hG : zG G) {x1 : Int} {x2 : Int} {s : zS} {r_ : Int} {s_ : zS} (hm : m66 x1 x2 s = some (r_, s_)) : Zp G (d + 2) 66 0 [some (zr 100 64 42), some (zi x1), some (zi x2)] [] s (zRet (some (zi r_)) s_) := by
  replace hm : (oN (256 : Int) (oZ (Int.tdiv x2 (256 : Int)) fun z1 => oC (m65 x1 z1 s) fun z3 s4 => oN (256 : Int) (oV (Int.tmod x2 (256 : Int)) fun z6 => oC (m65 z3 z6 s4) fun z7 s8 => some (z7, s8)))) = some (r_, s_) := hm
  refine z_aload_n (pc' := 1) hM66 rfl rfl rfl ?_
  refine z_aload_n (pc' := 2) hM66 rfl rfl rfl ?_
  refine z_iload_n (pc' := 3) hM66 rfl rfl rfl ?_
  refine z_iload_n (pc' := 4) hM66 rfl rfl rfl ?_
  refine z_sipush (pc' := 7) hM66 rfl rfl rfl ?_
  obtain ⟨nz1, hm⟩ := o_n hm
  obtain ⟨z1, ez1, h2, hm⟩ := o_z hm
  refine z_idiv (pc' := 8) hM66 rfl rfl nz1 ez1 h2 ?_
  obtain ⟨z3, s4, h5, hm⟩ := o_c hm
  refine z_cs (d := d + 1) (pc' := 11) hM66 rfl hM65 rfl rfl rfl rfl (c65 (d := d) hG h5) rfl ?_
  refine z_iload_n (pc' := 12) hM66 rfl rfl rfl ?_
  refine z_sipush (pc' := 15) hM66 rfl rfl rfl ?_
  obtain ⟨nz6, hm⟩ := o_n hm
  obtain ⟨z6, ez6, hm⟩ := o_v hm
  refine z_irem (pc' := 16) hM66 rfl rfl nz6 ez6 ?_
  obtain ⟨z7, s8, h9, hm⟩ := o_c hm
  refine z_cs (d := d + 1) (pc' := 19) hM66 rfl hM65 rfl rfl rfl rfl (c65 (d := d) hG h9) rfl ?_
  cases hm
  exact z_retI hM66 rfl rfl ⟨rfl, rfl⟩
def m64_154 : Nat → Int → Int → Int → zS → Option (Int × zS)
  | 0, _, _, _, _ => none
  | n + 1, x3, x4, x5, s => if x5 < x3 then oZ ((3 : Int) * x4) fun z2 => oX x5 64 (oV (s.1 42 x5) fun z4 => oZ (z2 + z4) fun z6 => oN (251 : Int) (oV (Int.tmod z6 (251 : Int)) fun z8 => oZ (x5 + (1 : Int)) fun z9 => m64_154 n x3 z8 z9 s)) else oC (m65 x3 x4 s) fun z11 s12 => some (z11, s12)
set_option maxRecDepth 20000 in
theorem c64_154 {G : aHp} {d : Nat} (hG : zG G) : ∀ {n : Nat} {x3 : Int} {x4 : Int} {x5 : Int} {d0 d2 : Option zV} {s : zS} {r_ : Int} {s_ : zS}, m64_154 n x3 x4 x5 s = some (r_, s_) → Zp G (d + 3) 64 154 [d0, some (zr 100 64 42), d2, some (zi x3), some (zi x4), some (zi x5)] [] s (zRet (some (zi r_)) s_) := by
  intro n
  induction n with
  | zero => intro x3 x4 x5 d0 d2 s r_ s_ hm; cases hm
  | succ n ih =>
  intro x3 x4 x5 d0 d2 s r_ s_ hm
  replace hm : (if x5 < x3 then oZ ((3 : Int) * x4) fun z2 => oX x5 64 (oV (s.1 42 x5) fun z4 => oZ (z2 + z4) fun z6 => oN (251 : Int) (oV (Int.tmod z6 (251 : Int)) fun z8 => oZ (x5 + (1 : Int)) fun z9 => m64_154 n x3 z8 z9 s)) else oC (m65 x3 x4 s) fun z11 s12 => some (z11, s12)) = some (r_, s_) := hm
  refine z_iload (pc' := 156) hM64 rfl rfl rfl ?_
  refine z_iload_n (pc' := 157) hM64 rfl rfl rfl ?_
  refine z_cmpge (pc' := 160) (t := 181) hM64 rfl rfl (fun h1 => ?_) (fun h1 => ?_)
  · replace hm := o_t hm h1
    refine z_iconst (pc' := 161) hM64 rfl rfl rfl ?_
    refine z_iload (pc' := 163) hM64 rfl rfl rfl ?_
    obtain ⟨z2, ez2, h3, hm⟩ := o_z hm
    refine z_imul (pc' := 164) hM64 rfl rfl ez2 h3 ?_
    refine z_aload_n (pc' := 165) hM64 rfl rfl rfl ?_
    refine z_iload (pc' := 167) hM64 rfl rfl rfl ?_
    obtain ⟨h5, hm⟩ := o_x hm
    obtain ⟨z4, ez4, hm⟩ := o_v hm
    refine z_iald (pc' := 168) (zGN hG) hM64 rfl rfl h5 ez4 ?_
    obtain ⟨z6, ez6, h7, hm⟩ := o_z hm
    refine z_iadd (pc' := 169) hM64 rfl rfl ez6 h7 ?_
    refine z_sipush (pc' := 172) hM64 rfl rfl rfl ?_
    obtain ⟨nz8, hm⟩ := o_n hm
    obtain ⟨z8, ez8, hm⟩ := o_v hm
    refine z_irem (pc' := 173) hM64 rfl rfl nz8 ez8 ?_
    refine z_istore (pc' := 175) (l' := [d0, some (zr 100 64 42), d2, some (zi x3), some (zi z8), some (zi x5)]) hM64 rfl rfl rfl rfl ?_
    obtain ⟨z9, ez9, h10, hm⟩ := o_z hm
    refine z_iinc (pc' := 178) (l' := [d0, some (zr 100 64 42), d2, some (zi x3), some (zi z8), some (zi z9)]) hM64 rfl rfl rfl ez9 h10 rfl rfl ?_
    refine z_goto (t := 154) hM64 rfl ?_
    exact ih hm
  · replace hm := o_f hm h1
    refine z_aload_n (pc' := 182) hM64 rfl rfl rfl ?_
    refine z_iload_n (pc' := 183) hM64 rfl rfl rfl ?_
    refine z_iload (pc' := 185) hM64 rfl rfl rfl ?_
    obtain ⟨z11, s12, h13, hm⟩ := o_c hm
    refine z_cs (d := d + 2) (pc' := 188) hM64 rfl hM65 rfl rfl rfl rfl (c65 (d := d + 1) hG h13) rfl ?_
    cases hm
    exact z_retI hM64 rfl rfl ⟨rfl, rfl⟩
def m64_119 : Nat → Nat → Int → Int → zS → Option (Int × zS)
  | 0, _, _, _, _ => none
  | n + 1, a0, x3, x4, s => oV (s.1 a0 5) fun z1 => if x4 < z1 then oX x4 8 (oV (s.1 (a0 + 5) x4) fun z3 => oC (m65 x3 z3 s) fun z5 s6 => oZ (x4 + (1 : Int)) fun z8 => m64_119 n a0 z5 z8 s6) else m64_154 zFu x3 (103 : Int) (0 : Int) s
set_option maxRecDepth 20000 in
theorem c64_119 {G : aHp} {d : Nat} (hG : zG G) : ∀ {n : Nat} {a0 : Nat} {x3 : Int} {x4 : Int} {d2 d5 : Option zV} {s : zS} {r_ : Int} {s_ : zS}, m64_119 n a0 x3 x4 s = some (r_, s_) → Zp G (d + 3) 64 119 [some (zr 7 0 a0), some (zr 100 64 42), d2, some (zi x3), some (zi x4), d5] [] s (zRet (some (zi r_)) s_) := by
  intro n
  induction n with
  | zero => intro a0 x3 x4 d2 d5 s r_ s_ hm; cases hm
  | succ n ih =>
  intro a0 x3 x4 d2 d5 s r_ s_ hm
  replace hm : (oV (s.1 a0 5) fun z1 => if x4 < z1 then oX x4 8 (oV (s.1 (a0 + 5) x4) fun z3 => oC (m65 x3 z3 s) fun z5 s6 => oZ (x4 + (1 : Int)) fun z8 => m64_119 n a0 z5 z8 s6) else m64_154 zFu x3 (103 : Int) (0 : Int) s) = some (r_, s_) := hm
  refine z_iload (pc' := 121) hM64 rfl rfl rfl ?_
  refine z_aload_n (pc' := 122) hM64 rfl rfl rfl ?_
  obtain ⟨z1, ez1, hm⟩ := o_v hm
  refine z_fldI (pc' := 125) hM64 rfl rfl rfl ez1 ?_
  refine z_cmpge (pc' := 128) (t := 147) hM64 rfl rfl (fun h2 => ?_) (fun h2 => ?_)
  · replace hm := o_t hm h2
    refine z_aload_n (pc' := 129) hM64 rfl rfl rfl ?_
    refine z_iload_n (pc' := 130) hM64 rfl rfl rfl ?_
    refine z_aload_n (pc' := 131) hM64 rfl rfl rfl ?_
    refine z_fldR (pc' := 134) hM64 rfl (zf_7_4 hG) rfl rfl ?_
    refine z_iload (pc' := 136) hM64 rfl rfl rfl ?_
    obtain ⟨h4, hm⟩ := o_x hm
    obtain ⟨z3, ez3, hm⟩ := o_v hm
    refine z_iald (pc' := 137) (zGN hG) hM64 rfl rfl h4 ez3 ?_
    obtain ⟨z5, s6, h7, hm⟩ := o_c hm
    refine z_cs (d := d + 2) (pc' := 140) hM64 rfl hM65 rfl rfl rfl rfl (c65 (d := d + 1) hG h7) rfl ?_
    refine z_istore_n (pc' := 141) (l' := [some (zr 7 0 a0), some (zr 100 64 42), zKd d2, some (zi z5), some (zi x4), d5]) hM64 rfl rfl rfl rfl ?_
    obtain ⟨z8, ez8, h9, hm⟩ := o_z hm
    refine z_iinc (pc' := 144) (l' := [some (zr 7 0 a0), some (zr 100 64 42), zKd d2, some (zi z5), some (zi z8), d5]) hM64 rfl rfl rfl ez8 h9 rfl rfl ?_
    refine z_goto (t := 119) hM64 rfl ?_
    exact ih hm
  · replace hm := o_f hm h2
    refine z_bipush (pc' := 149) hM64 rfl rfl rfl ?_
    refine z_istore (pc' := 151) (l' := [some (zr 7 0 a0), some (zr 100 64 42), d2, some (zi x3), some (zi (103 : Int)), d5]) hM64 rfl rfl rfl rfl ?_
    refine z_iconst (pc' := 152) hM64 rfl rfl rfl ?_
    refine z_istore (pc' := 154) (l' := [some (zr 7 0 a0), some (zr 100 64 42), d2, some (zi x3), some (zi (103 : Int)), some (zi (0 : Int))]) hM64 rfl rfl rfl rfl ?_
    exact c64_154 hG hm
def m64_57 : Nat → Nat → Nat → Int → Int → zS → Option (Int × zS)
  | 0, _, _, _, _, _ => none
  | n + 1, a0, a2, x3, x4, s => oV (s.1 (a2 + 5) 0) fun z1 => if x4 < z1 then oX x4 6 (oV (s.1 (a0 + 2) x4) fun z3 => oC (m65 x3 z3 s) fun z5 s6 => oX x4 6 (oV (s6.1 (a0 + 3) x4) fun z8 => oZ (z8 + (1 : Int)) fun z10 => oC (m65 z5 z10 s6) fun z12 s13 => oX x4 6 (oV (s13.1 (a0 + 4) x4) fun z15 => oC (m66 z12 z15 s13) fun z17 s18 => oZ (x4 + (1 : Int)) fun z20 => m64_57 n a0 a2 z17 z20 s18))) else m64_119 zFu a0 x3 (0 : Int) s
set_option maxRecDepth 20000 in
theorem c64_57 {G : aHp} {d : Nat} (hG : zG G) : ∀ {n : Nat} {a0 : Nat} {a2 : Nat} {x3 : Int} {x4 : Int} {d5 : Option zV} {s : zS} {r_ : Int} {s_ : zS}, m64_57 n a0 a2 x3 x4 s = some (r_, s_) → Zp G (d + 3) 64 57 [some (zr 7 0 a0), some (zr 100 64 42), some (zr 5 0 a2), some (zi x3), some (zi x4), d5] [] s (zRet (some (zi r_)) s_) := by
  intro n
  induction n with
  | zero => intro a0 a2 x3 x4 d5 s r_ s_ hm; cases hm
  | succ n ih =>
  intro a0 a2 x3 x4 d5 s r_ s_ hm
  replace hm : (oV (s.1 (a2 + 5) 0) fun z1 => if x4 < z1 then oX x4 6 (oV (s.1 (a0 + 2) x4) fun z3 => oC (m65 x3 z3 s) fun z5 s6 => oX x4 6 (oV (s6.1 (a0 + 3) x4) fun z8 => oZ (z8 + (1 : Int)) fun z10 => oC (m65 z5 z10 s6) fun z12 s13 => oX x4 6 (oV (s13.1 (a0 + 4) x4) fun z15 => oC (m66 z12 z15 s13) fun z17 s18 => oZ (x4 + (1 : Int)) fun z20 => m64_57 n a0 a2 z17 z20 s18))) else m64_119 zFu a0 x3 (0 : Int) s) = some (r_, s_) := hm
  refine z_iload (pc' := 59) hM64 rfl rfl rfl ?_
  refine z_aload_n (pc' := 60) hM64 rfl rfl rfl ?_
  refine z_fldR (pc' := 63) hM64 rfl (zf_5_2 hG) rfl rfl ?_
  obtain ⟨z1, ez1, hm⟩ := o_v hm
  refine z_fldI (pc' := 66) hM64 rfl rfl rfl ez1 ?_
  refine z_cmpge (pc' := 69) (t := 116) hM64 rfl rfl (fun h2 => ?_) (fun h2 => ?_)
  · replace hm := o_t hm h2
    refine z_aload_n (pc' := 70) hM64 rfl rfl rfl ?_
    refine z_iload_n (pc' := 71) hM64 rfl rfl rfl ?_
    refine z_aload_n (pc' := 72) hM64 rfl rfl rfl ?_
    refine z_fldR (pc' := 75) hM64 rfl (zf_7_1 hG) rfl rfl ?_
    refine z_iload (pc' := 77) hM64 rfl rfl rfl ?_
    obtain ⟨h4, hm⟩ := o_x hm
    obtain ⟨z3, ez3, hm⟩ := o_v hm
    refine z_iald (pc' := 78) (zGN hG) hM64 rfl rfl h4 ez3 ?_
    obtain ⟨z5, s6, h7, hm⟩ := o_c hm
    refine z_cs (d := d + 2) (pc' := 81) hM64 rfl hM65 rfl rfl rfl rfl (c65 (d := d + 1) hG h7) rfl ?_
    refine z_istore_n (pc' := 82) (l' := [some (zr 7 0 a0), some (zr 100 64 42), some (zr 5 0 a2), some (zi z5), some (zi x4), d5]) hM64 rfl rfl rfl rfl ?_
    refine z_aload_n (pc' := 83) hM64 rfl rfl rfl ?_
    refine z_iload_n (pc' := 84) hM64 rfl rfl rfl ?_
    refine z_aload_n (pc' := 85) hM64 rfl rfl rfl ?_
    refine z_fldR (pc' := 88) hM64 rfl (zf_7_2 hG) rfl rfl ?_
    refine z_iload (pc' := 90) hM64 rfl rfl rfl ?_
    obtain ⟨h9, hm⟩ := o_x hm
    obtain ⟨z8, ez8, hm⟩ := o_v hm
    refine z_iald (pc' := 91) (zGN hG) hM64 rfl rfl h9 ez8 ?_
    refine z_iconst (pc' := 92) hM64 rfl rfl rfl ?_
    obtain ⟨z10, ez10, h11, hm⟩ := o_z hm
    refine z_iadd (pc' := 93) hM64 rfl rfl ez10 h11 ?_
    obtain ⟨z12, s13, h14, hm⟩ := o_c hm
    refine z_cs (d := d + 2) (pc' := 96) hM64 rfl hM65 rfl rfl rfl rfl (c65 (d := d + 1) hG h14) rfl ?_
    refine z_istore_n (pc' := 97) (l' := [some (zr 7 0 a0), some (zr 100 64 42), some (zr 5 0 a2), some (zi z12), some (zi x4), d5]) hM64 rfl rfl rfl rfl ?_
    refine z_aload_n (pc' := 98) hM64 rfl rfl rfl ?_
    refine z_iload_n (pc' := 99) hM64 rfl rfl rfl ?_
    refine z_aload_n (pc' := 100) hM64 rfl rfl rfl ?_
    refine z_fldR (pc' := 103) hM64 rfl (zf_7_3 hG) rfl rfl ?_
    refine z_iload (pc' := 105) hM64 rfl rfl rfl ?_
    obtain ⟨h16, hm⟩ := o_x hm
    obtain ⟨z15, ez15, hm⟩ := o_v hm
    refine z_iald (pc' := 106) (zGN hG) hM64 rfl rfl h16 ez15 ?_
    obtain ⟨z17, s18, h19, hm⟩ := o_c hm
    refine z_cs (d := d + 2) (pc' := 109) hM64 rfl hM66 rfl rfl rfl rfl (c66 (d := d) hG h19) rfl ?_
    refine z_istore_n (pc' := 110) (l' := [some (zr 7 0 a0), some (zr 100 64 42), some (zr 5 0 a2), some (zi z17), some (zi x4), d5]) hM64 rfl rfl rfl rfl ?_
    obtain ⟨z20, ez20, h21, hm⟩ := o_z hm
    refine z_iinc (pc' := 113) (l' := [some (zr 7 0 a0), some (zr 100 64 42), some (zr 5 0 a2), some (zi z17), some (zi z20), d5]) hM64 rfl rfl rfl ez20 h21 rfl rfl ?_
    refine z_goto (t := 57) hM64 rfl ?_
    exact ih hm
  · replace hm := o_f hm h2
    refine z_iconst (pc' := 117) hM64 rfl rfl rfl ?_
    refine z_istore (pc' := 119) (l' := [some (zr 7 0 a0), some (zr 100 64 42), some (zr 5 0 a2), some (zi x3), some (zi (0 : Int)), d5]) hM64 rfl rfl rfl rfl ?_
    exact c64_119 hG hm
def m64_23 : Nat → Nat → Nat → Int → Int → zS → Option (Int × zS)
  | 0, _, _, _, _, _ => none
  | n + 1, a0, a2, x3, x4, s => oV (s.1 (a2 + 3) 0) fun z1 => if x4 < z1 then oX x4 8 (oV (s.1 (a0 + 1) x4) fun z3 => oC (m65 x3 z3 s) fun z5 s6 => oZ (x4 + (1 : Int)) fun z8 => m64_23 n a0 a2 z5 z8 s6) else m64_57 zFu a0 a2 x3 (0 : Int) s
set_option maxRecDepth 20000 in
theorem c64_23 {G : aHp} {d : Nat} (hG : zG G) : ∀ {n : Nat} {a0 : Nat} {a2 : Nat} {x3 : Int} {x4 : Int} {d5 : Option zV} {s : zS} {r_ : Int} {s_ : zS}, m64_23 n a0 a2 x3 x4 s = some (r_, s_) → Zp G (d + 3) 64 23 [some (zr 7 0 a0), some (zr 100 64 42), some (zr 5 0 a2), some (zi x3), some (zi x4), d5] [] s (zRet (some (zi r_)) s_) := by
  intro n
  induction n with
  | zero => intro a0 a2 x3 x4 d5 s r_ s_ hm; cases hm
  | succ n ih =>
  intro a0 a2 x3 x4 d5 s r_ s_ hm
  replace hm : (oV (s.1 (a2 + 3) 0) fun z1 => if x4 < z1 then oX x4 8 (oV (s.1 (a0 + 1) x4) fun z3 => oC (m65 x3 z3 s) fun z5 s6 => oZ (x4 + (1 : Int)) fun z8 => m64_23 n a0 a2 z5 z8 s6) else m64_57 zFu a0 a2 x3 (0 : Int) s) = some (r_, s_) := hm
  refine z_iload (pc' := 25) hM64 rfl rfl rfl ?_
  refine z_aload_n (pc' := 26) hM64 rfl rfl rfl ?_
  refine z_fldR (pc' := 29) hM64 rfl (zf_5_1 hG) rfl rfl ?_
  obtain ⟨z1, ez1, hm⟩ := o_v hm
  refine z_fldI (pc' := 32) hM64 rfl rfl rfl ez1 ?_
  refine z_cmpge (pc' := 35) (t := 54) hM64 rfl rfl (fun h2 => ?_) (fun h2 => ?_)
  · replace hm := o_t hm h2
    refine z_aload_n (pc' := 36) hM64 rfl rfl rfl ?_
    refine z_iload_n (pc' := 37) hM64 rfl rfl rfl ?_
    refine z_aload_n (pc' := 38) hM64 rfl rfl rfl ?_
    refine z_fldR (pc' := 41) hM64 rfl (zf_7_0 hG) rfl rfl ?_
    refine z_iload (pc' := 43) hM64 rfl rfl rfl ?_
    obtain ⟨h4, hm⟩ := o_x hm
    obtain ⟨z3, ez3, hm⟩ := o_v hm
    refine z_iald (pc' := 44) (zGN hG) hM64 rfl rfl h4 ez3 ?_
    obtain ⟨z5, s6, h7, hm⟩ := o_c hm
    refine z_cs (d := d + 2) (pc' := 47) hM64 rfl hM65 rfl rfl rfl rfl (c65 (d := d + 1) hG h7) rfl ?_
    refine z_istore_n (pc' := 48) (l' := [some (zr 7 0 a0), some (zr 100 64 42), some (zr 5 0 a2), some (zi z5), some (zi x4), d5]) hM64 rfl rfl rfl rfl ?_
    obtain ⟨z8, ez8, h9, hm⟩ := o_z hm
    refine z_iinc (pc' := 51) (l' := [some (zr 7 0 a0), some (zr 100 64 42), some (zr 5 0 a2), some (zi z5), some (zi z8), d5]) hM64 rfl rfl rfl ez8 h9 rfl rfl ?_
    refine z_goto (t := 23) hM64 rfl ?_
    exact ih hm
  · replace hm := o_f hm h2
    refine z_iconst (pc' := 55) hM64 rfl rfl rfl ?_
    refine z_istore (pc' := 57) (l' := [some (zr 7 0 a0), some (zr 100 64 42), some (zr 5 0 a2), some (zi x3), some (zi (0 : Int)), d5]) hM64 rfl rfl rfl rfl ?_
    exact c64_57 hG hm
def m64 (a0 : Nat) (a2 : Nat) (s : zS) : Option (Int × zS) := oV (s.1 a0 6) fun z1 => oC (m66 (0 : Int) z1 s) fun z2 s3 => oV (s3.1 a0 7) fun z5 => oC (m65 z2 z5 s3) fun z6 s7 => m64_23 zFu a0 a2 z6 (0 : Int) s7
set_option maxRecDepth 20000 in
theorem c64 {G : aHp} {d : Nat} (hG : zG G) {a0 : Nat} {a2 : Nat} {s : zS} {r_ : Int} {s_ : zS} (hm : m64 a0 a2 s = some (r_, s_)) : Zp G (d + 3) 64 0 [some (zr 7 0 a0), some (zr 100 64 42), some (zr 5 0 a2), none, none, none] [] s (zRet (some (zi r_)) s_) := by
  replace hm : (oV (s.1 a0 6) fun z1 => oC (m66 (0 : Int) z1 s) fun z2 s3 => oV (s3.1 a0 7) fun z5 => oC (m65 z2 z5 s3) fun z6 s7 => m64_23 zFu a0 a2 z6 (0 : Int) s7) = some (r_, s_) := hm
  refine z_aload_n (pc' := 1) hM64 rfl rfl rfl ?_
  refine z_iconst (pc' := 2) hM64 rfl rfl rfl ?_
  refine z_aload_n (pc' := 3) hM64 rfl rfl rfl ?_
  obtain ⟨z1, ez1, hm⟩ := o_v hm
  refine z_fldI (pc' := 6) hM64 rfl rfl rfl ez1 ?_
  obtain ⟨z2, s3, h4, hm⟩ := o_c hm
  refine z_cs (d := d + 2) (pc' := 9) hM64 rfl hM66 rfl rfl rfl rfl (c66 (d := d) hG h4) rfl ?_
  refine z_istore_n (pc' := 10) (l' := [some (zr 7 0 a0), some (zr 100 64 42), some (zr 5 0 a2), some (zi z2), none, none]) hM64 rfl rfl rfl rfl ?_
  refine z_aload_n (pc' := 11) hM64 rfl rfl rfl ?_
  refine z_iload_n (pc' := 12) hM64 rfl rfl rfl ?_
  refine z_aload_n (pc' := 13) hM64 rfl rfl rfl ?_
  obtain ⟨z5, ez5, hm⟩ := o_v hm
  refine z_fldI (pc' := 16) hM64 rfl rfl rfl ez5 ?_
  obtain ⟨z6, s7, h8, hm⟩ := o_c hm
  refine z_cs (d := d + 2) (pc' := 19) hM64 rfl hM65 rfl rfl rfl rfl (c65 (d := d + 1) hG h8) rfl ?_
  refine z_istore_n (pc' := 20) (l' := [some (zr 7 0 a0), some (zr 100 64 42), some (zr 5 0 a2), some (zi z6), none, none]) hM64 rfl rfl rfl rfl ?_
  refine z_iconst (pc' := 21) hM64 rfl rfl rfl ?_
  refine z_istore (pc' := 23) (l' := [some (zr 7 0 a0), some (zr 100 64 42), some (zr 5 0 a2), some (zi z6), some (zi (0 : Int)), none]) hM64 rfl rfl rfl rfl ?_
  exact c64_23 hG hm
def m68_5 : Nat → Int → Int → Int → zS → Option (Int × zS)
  | 0, _, _, _, _ => none
  | n + 1, x1, x2, x3, s => if x3 < x1 then oZ ((3 : Int) * x2) fun z2 => oC (m74 x3 s) fun z4 s5 => oZ (z2 + z4) fun z7 => oN (251 : Int) (oV (Int.tmod z7 (251 : Int)) fun z9 => oZ (x3 + (1 : Int)) fun z10 => m68_5 n x1 z9 z10 s5) else oC (m74 x1 s) fun z12 s13 => if z12 = x2 then some ((1 : Int), s13) else some ((0 : Int), s13)
theorem c68_5 {G : aHp} {d : Nat} (hG : zG G) : ∀ {n : Nat} {x1 : Int} {x2 : Int} {x3 : Int} {s : zS} {r_ : Int} {s_ : zS}, m68_5 n x1 x2 x3 s = some (r_, s_) → Zp G (d + 2) 68 5 [some (zr 8 0 1), some (zi x1), some (zi x2), some (zi x3)] [] s (zRet (some (zi r_)) s_) := by
  intro n
  induction n with
  | zero => intro x1 x2 x3 s r_ s_ hm; cases hm
  | succ n ih =>
  intro x1 x2 x3 s r_ s_ hm
  replace hm : (if x3 < x1 then oZ ((3 : Int) * x2) fun z2 => oC (m74 x3 s) fun z4 s5 => oZ (z2 + z4) fun z7 => oN (251 : Int) (oV (Int.tmod z7 (251 : Int)) fun z9 => oZ (x3 + (1 : Int)) fun z10 => m68_5 n x1 z9 z10 s5) else oC (m74 x1 s) fun z12 s13 => if z12 = x2 then some ((1 : Int), s13) else some ((0 : Int), s13)) = some (r_, s_) := hm
  refine z_iload_n (pc' := 6) hM68 rfl rfl rfl ?_
  refine z_iload_n (pc' := 7) hM68 rfl rfl rfl ?_
  refine z_cmpge (pc' := 10) (t := 30) hM68 rfl rfl (fun h1 => ?_) (fun h1 => ?_)
  · replace hm := o_t hm h1
    refine z_iconst (pc' := 11) hM68 rfl rfl rfl ?_
    refine z_iload_n (pc' := 12) hM68 rfl rfl rfl ?_
    obtain ⟨z2, ez2, h3, hm⟩ := o_z hm
    refine z_imul (pc' := 13) hM68 rfl rfl ez2 h3 ?_
    refine z_aload_n (pc' := 14) hM68 rfl rfl rfl ?_
    refine z_iload_n (pc' := 15) hM68 rfl rfl rfl ?_
    obtain ⟨z4, s5, h6, hm⟩ := o_c hm
    refine z_cv (d := d + 1) (pc' := 18) hM68 rfl hM74 rfl rfl rfl rfl rfl rfl (c74 (d := d) hG h6) rfl ?_
    obtain ⟨z7, ez7, h8, hm⟩ := o_z hm
    refine z_iadd (pc' := 19) hM68 rfl rfl ez7 h8 ?_
    refine z_sipush (pc' := 22) hM68 rfl rfl rfl ?_
    obtain ⟨nz9, hm⟩ := o_n hm
    obtain ⟨z9, ez9, hm⟩ := o_v hm
    refine z_irem (pc' := 23) hM68 rfl rfl nz9 ez9 ?_
    refine z_istore_n (pc' := 24) (l' := [some (zr 8 0 1), some (zi x1), some (zi z9), some (zi x3)]) hM68 rfl rfl rfl rfl ?_
    obtain ⟨z10, ez10, h11, hm⟩ := o_z hm
    refine z_iinc (pc' := 27) (l' := [some (zr 8 0 1), some (zi x1), some (zi z9), some (zi z10)]) hM68 rfl rfl rfl ez10 h11 rfl rfl ?_
    refine z_goto (t := 5) hM68 rfl ?_
    exact ih hm
  · replace hm := o_f hm h1
    refine z_aload_n (pc' := 31) hM68 rfl rfl rfl ?_
    refine z_iload_n (pc' := 32) hM68 rfl rfl rfl ?_
    obtain ⟨z12, s13, h14, hm⟩ := o_c hm
    refine z_cv (d := d + 1) (pc' := 35) hM68 rfl hM74 rfl rfl rfl rfl rfl rfl (c74 (d := d) hG h14) rfl ?_
    refine z_iload_n (pc' := 36) hM68 rfl rfl rfl ?_
    refine z_cmpne (pc' := 39) (t := 43) hM68 rfl rfl (fun h15 => ?_) (fun h15 => ?_)
    · replace hm := o_t hm h15
      refine z_iconst (pc' := 40) hM68 rfl rfl rfl ?_
      refine z_goto (t := 44) hM68 rfl ?_
      cases hm
      exact z_retZ hM68 rfl rfl (Or.inr rfl) ⟨rfl, rfl⟩
    · replace hm := o_f hm h15
      refine z_iconst (pc' := 44) hM68 rfl rfl rfl ?_
      cases hm
      exact z_retZ hM68 rfl rfl (Or.inl rfl) ⟨rfl, rfl⟩
def m68 (x1 : Int) (s : zS) : Option (Int × zS) := m68_5 zFu x1 (103 : Int) (0 : Int) s
theorem c68 {G : aHp} {d : Nat} (hG : zG G) {x1 : Int} {s : zS} {r_ : Int} {s_ : zS} (hm : m68 x1 s = some (r_, s_)) : Zp G (d + 2) 68 0 [some (zr 8 0 1), some (zi x1), none, none] [] s (zRet (some (zi r_)) s_) := by
  replace hm : (m68_5 zFu x1 (103 : Int) (0 : Int) s) = some (r_, s_) := hm
  refine z_bipush (pc' := 2) hM68 rfl rfl rfl ?_
  refine z_istore_n (pc' := 3) (l' := [some (zr 8 0 1), some (zi x1), some (zi (103 : Int)), none]) hM68 rfl rfl rfl rfl ?_
  refine z_iconst (pc' := 4) hM68 rfl rfl rfl ?_
  refine z_istore_n (pc' := 5) (l' := [some (zr 8 0 1), some (zi x1), some (zi (103 : Int)), some (zi (0 : Int))]) hM68 rfl rfl rfl rfl ?_
  exact c68_5 hG hm
def m69 (x1 : Int) (s : zS) : Option (Int × zS) := oC (m74 x1 s) fun z1 s2 => oZ (z1 * (256 : Int)) fun z4 => oZ (x1 + (1 : Int)) fun z6 => oC (m74 z6 s2) fun z8 s9 => oZ (z4 + z8) fun z11 => some (z11, s9)
theorem c69 {G : aHp} {d : Nat} (hG : zG G) {x1 : Int} {s : zS} {r_ : Int} {s_ : zS} (hm : m69 x1 s = some (r_, s_)) : Zp G (d + 2) 69 0 [some (zr 8 0 1), some (zi x1)] [] s (zRet (some (zi r_)) s_) := by
  replace hm : (oC (m74 x1 s) fun z1 s2 => oZ (z1 * (256 : Int)) fun z4 => oZ (x1 + (1 : Int)) fun z6 => oC (m74 z6 s2) fun z8 s9 => oZ (z4 + z8) fun z11 => some (z11, s9)) = some (r_, s_) := hm
  refine z_aload_n (pc' := 1) hM69 rfl rfl rfl ?_
  refine z_iload_n (pc' := 2) hM69 rfl rfl rfl ?_
  obtain ⟨z1, s2, h3, hm⟩ := o_c hm
  refine z_cv (d := d + 1) (pc' := 5) hM69 rfl hM74 rfl rfl rfl rfl rfl rfl (c74 (d := d) hG h3) rfl ?_
  refine z_sipush (pc' := 8) hM69 rfl rfl rfl ?_
  obtain ⟨z4, ez4, h5, hm⟩ := o_z hm
  refine z_imul (pc' := 9) hM69 rfl rfl ez4 h5 ?_
  refine z_aload_n (pc' := 10) hM69 rfl rfl rfl ?_
  refine z_iload_n (pc' := 11) hM69 rfl rfl rfl ?_
  refine z_iconst (pc' := 12) hM69 rfl rfl rfl ?_
  obtain ⟨z6, ez6, h7, hm⟩ := o_z hm
  refine z_iadd (pc' := 13) hM69 rfl rfl ez6 h7 ?_
  obtain ⟨z8, s9, h10, hm⟩ := o_c hm
  refine z_cv (d := d + 1) (pc' := 16) hM69 rfl hM74 rfl rfl rfl rfl rfl rfl (c74 (d := d) hG h10) rfl ?_
  obtain ⟨z11, ez11, h12, hm⟩ := o_z hm
  refine z_iadd (pc' := 17) hM69 rfl rfl ez11 h12 ?_
  cases hm
  exact z_retI hM69 rfl rfl ⟨rfl, rfl⟩
def m70 (a0 : Nat) (x2 : Int) (x3 : Int) (x4 : Int) (s : zS) : Option (Int × zS) := oC (m74 x2 s) fun z1 s2 => oX x3 6 (oV (sI s2 (a0 + 2) x3 z1) fun s4 => oZ (x2 + (1 : Int)) fun z6 => oC (m74 z6 s4) fun z8 s9 => oZ (z8 - (1 : Int)) fun z11 => oX x3 6 (oV (sI s9 (a0 + 3) x3 z11) fun s13 => oZ (x2 + (2 : Int)) fun z15 => oC (m69 z15 s13) fun z17 s18 => oX x3 6 (oV (sI s18 (a0 + 4) x3 z17) fun s20 => oX x3 6 (oV (s20.1 (a0 + 3) x3) fun z22 => if z22 < x4 then oX x3 6 (oV (s20.1 (a0 + 4) x3) fun z25 => if (999 : Int) < z25 then some ((0 : Int), s20) else oX x3 6 (oV (s20.1 (a0 + 3) x3) fun z28 => if z28 = (-1 : Int) then oX x3 6 (oV (s20.1 (a0 + 4) x3) fun z31 => if z31 = (0 : Int) then some ((1 : Int), s20) else some ((0 : Int), s20)) else some ((1 : Int), s20))) else some ((0 : Int), s20)))))
theorem c70 {G : aHp} {d : Nat} (hG : zG G) {a0 : Nat} {x2 : Int} {x3 : Int} {x4 : Int} {s : zS} {r_ : Int} {s_ : zS} (hm : m70 a0 x2 x3 x4 s = some (r_, s_)) : Zp G (d + 3) 70 0 [some (zr 7 0 a0), some (zr 8 0 1), some (zi x2), some (zi x3), some (zi x4)] [] s (zRet (some (zi r_)) s_) := by
  replace hm : (oC (m74 x2 s) fun z1 s2 => oX x3 6 (oV (sI s2 (a0 + 2) x3 z1) fun s4 => oZ (x2 + (1 : Int)) fun z6 => oC (m74 z6 s4) fun z8 s9 => oZ (z8 - (1 : Int)) fun z11 => oX x3 6 (oV (sI s9 (a0 + 3) x3 z11) fun s13 => oZ (x2 + (2 : Int)) fun z15 => oC (m69 z15 s13) fun z17 s18 => oX x3 6 (oV (sI s18 (a0 + 4) x3 z17) fun s20 => oX x3 6 (oV (s20.1 (a0 + 3) x3) fun z22 => if z22 < x4 then oX x3 6 (oV (s20.1 (a0 + 4) x3) fun z25 => if (999 : Int) < z25 then some ((0 : Int), s20) else oX x3 6 (oV (s20.1 (a0 + 3) x3) fun z28 => if z28 = (-1 : Int) then oX x3 6 (oV (s20.1 (a0 + 4) x3) fun z31 => if z31 = (0 : Int) then some ((1 : Int), s20) else some ((0 : Int), s20)) else some ((1 : Int), s20))) else some ((0 : Int), s20)))))) = some (r_, s_) := hm
  refine z_aload_n (pc' := 1) hM70 rfl rfl rfl ?_
  refine z_fldR (pc' := 4) hM70 rfl (zf_7_1 hG) rfl rfl ?_
  refine z_iload_n (pc' := 5) hM70 rfl rfl rfl ?_
  refine z_aload_n (pc' := 6) hM70 rfl rfl rfl ?_
  refine z_iload_n (pc' := 7) hM70 rfl rfl rfl ?_
  obtain ⟨z1, s2, h3, hm⟩ := o_c hm
  refine z_cv (d := d + 2) (pc' := 10) hM70 rfl hM74 rfl rfl rfl rfl rfl rfl (c74 (d := d + 1) hG h3) rfl ?_
  obtain ⟨h5, hm⟩ := o_x hm
  obtain ⟨s4, es4, hm⟩ := o_v hm
  refine z_iast (pc' := 11) hM70 rfl rfl h5 es4 ?_
  refine z_aload_n (pc' := 12) hM70 rfl rfl rfl ?_
  refine z_fldR (pc' := 15) hM70 rfl (zf_7_2 hG) rfl rfl ?_
  refine z_iload_n (pc' := 16) hM70 rfl rfl rfl ?_
  refine z_aload_n (pc' := 17) hM70 rfl rfl rfl ?_
  refine z_iload_n (pc' := 18) hM70 rfl rfl rfl ?_
  refine z_iconst (pc' := 19) hM70 rfl rfl rfl ?_
  obtain ⟨z6, ez6, h7, hm⟩ := o_z hm
  refine z_iadd (pc' := 20) hM70 rfl rfl ez6 h7 ?_
  obtain ⟨z8, s9, h10, hm⟩ := o_c hm
  refine z_cv (d := d + 2) (pc' := 23) hM70 rfl hM74 rfl rfl rfl rfl rfl rfl (c74 (d := d + 1) hG h10) rfl ?_
  refine z_iconst (pc' := 24) hM70 rfl rfl rfl ?_
  obtain ⟨z11, ez11, h12, hm⟩ := o_z hm
  refine z_isub (pc' := 25) hM70 rfl rfl ez11 h12 ?_
  obtain ⟨h14, hm⟩ := o_x hm
  obtain ⟨s13, es13, hm⟩ := o_v hm
  refine z_iast (pc' := 26) hM70 rfl rfl h14 es13 ?_
  refine z_aload_n (pc' := 27) hM70 rfl rfl rfl ?_
  refine z_fldR (pc' := 30) hM70 rfl (zf_7_3 hG) rfl rfl ?_
  refine z_iload_n (pc' := 31) hM70 rfl rfl rfl ?_
  refine z_aload_n (pc' := 32) hM70 rfl rfl rfl ?_
  refine z_iload_n (pc' := 33) hM70 rfl rfl rfl ?_
  refine z_iconst (pc' := 34) hM70 rfl rfl rfl ?_
  obtain ⟨z15, ez15, h16, hm⟩ := o_z hm
  refine z_iadd (pc' := 35) hM70 rfl rfl ez15 h16 ?_
  obtain ⟨z17, s18, h19, hm⟩ := o_c hm
  refine z_cs (d := d + 2) (pc' := 38) hM70 rfl hM69 rfl rfl rfl rfl (c69 (d := d) hG h19) rfl ?_
  obtain ⟨h21, hm⟩ := o_x hm
  obtain ⟨s20, es20, hm⟩ := o_v hm
  refine z_iast (pc' := 39) hM70 rfl rfl h21 es20 ?_
  refine z_aload_n (pc' := 40) hM70 rfl rfl rfl ?_
  refine z_fldR (pc' := 43) hM70 rfl (zf_7_2 hG) rfl rfl ?_
  refine z_iload_n (pc' := 44) hM70 rfl rfl rfl ?_
  obtain ⟨h23, hm⟩ := o_x hm
  obtain ⟨z22, ez22, hm⟩ := o_v hm
  refine z_iald (pc' := 45) (zGN hG) hM70 rfl rfl h23 ez22 ?_
  refine z_iload (pc' := 47) hM70 rfl rfl rfl ?_
  refine z_cmpge (pc' := 50) (t := 62) hM70 rfl rfl (fun h24 => ?_) (fun h24 => ?_)
  · replace hm := o_t hm h24
    refine z_aload_n (pc' := 51) hM70 rfl rfl rfl ?_
    refine z_fldR (pc' := 54) hM70 rfl (zf_7_3 hG) rfl rfl ?_
    refine z_iload_n (pc' := 55) hM70 rfl rfl rfl ?_
    obtain ⟨h26, hm⟩ := o_x hm
    obtain ⟨z25, ez25, hm⟩ := o_v hm
    refine z_iald (pc' := 56) (zGN hG) hM70 rfl rfl h26 ez25 ?_
    refine z_sipush (pc' := 59) hM70 rfl rfl rfl ?_
    refine z_cmple (pc' := 62) (t := 64) hM70 rfl rfl (fun h27 => ?_) (fun h27 => ?_)
    · replace hm := o_t hm h27
      refine z_iconst (pc' := 63) hM70 rfl rfl rfl ?_
      cases hm
      exact z_retZ hM70 rfl rfl (Or.inl rfl) ⟨rfl, rfl⟩
    · replace hm := o_f hm h27
      refine z_aload_n (pc' := 65) hM70 rfl rfl rfl ?_
      refine z_fldR (pc' := 68) hM70 rfl (zf_7_2 hG) rfl rfl ?_
      refine z_iload_n (pc' := 69) hM70 rfl rfl rfl ?_
      obtain ⟨h29, hm⟩ := o_x hm
      obtain ⟨z28, ez28, hm⟩ := o_v hm
      refine z_iald (pc' := 70) (zGN hG) hM70 rfl rfl h29 ez28 ?_
      refine z_iconst (pc' := 71) hM70 rfl rfl rfl ?_
      refine z_cmpne (pc' := 74) (t := 83) hM70 rfl rfl (fun h30 => ?_) (fun h30 => ?_)
      · replace hm := o_t hm h30
        refine z_aload_n (pc' := 75) hM70 rfl rfl rfl ?_
        refine z_fldR (pc' := 78) hM70 rfl (zf_7_3 hG) rfl rfl ?_
        refine z_iload_n (pc' := 79) hM70 rfl rfl rfl ?_
        obtain ⟨h32, hm⟩ := o_x hm
        obtain ⟨z31, ez31, hm⟩ := o_v hm
        refine z_iald (pc' := 80) (zGN hG) hM70 rfl rfl h32 ez31 ?_
        refine z_ifne (pc' := 83) (t := 87) hM70 rfl rfl (fun h33 => ?_) (fun h33 => ?_)
        · replace hm := o_t hm h33
          refine z_iconst (pc' := 84) hM70 rfl rfl rfl ?_
          refine z_goto (t := 88) hM70 rfl ?_
          cases hm
          exact z_retZ hM70 rfl rfl (Or.inr rfl) ⟨rfl, rfl⟩
        · replace hm := o_f hm h33
          refine z_iconst (pc' := 88) hM70 rfl rfl rfl ?_
          cases hm
          exact z_retZ hM70 rfl rfl (Or.inl rfl) ⟨rfl, rfl⟩
      · replace hm := o_f hm h30
        refine z_iconst (pc' := 84) hM70 rfl rfl rfl ?_
        refine z_goto (t := 88) hM70 rfl ?_
        cases hm
        exact z_retZ hM70 rfl rfl (Or.inr rfl) ⟨rfl, rfl⟩
  · replace hm := o_f hm h24
    refine z_iconst (pc' := 63) hM70 rfl rfl rfl ?_
    cases hm
    exact z_retZ hM70 rfl rfl (Or.inl rfl) ⟨rfl, rfl⟩
def m71_27 (k2_ : Nat → Int → Int → Int → zS → Option (Int × zS)) : Nat → Nat → Int → Int → Int → Int → Int → zS → Option (Int × zS)
  | 0, _, _, _, _, _, _, _ => none
  | n + 1, a0, x1, x2, x3, x4, x5, s => oV (s.1 a0 5) fun z1 => if x5 < z1 then if x4 = (0 : Int) then oX x5 8 (oV (s.1 (a0 + 5) x5) fun z4 => if z4 = x3 then oZ (x5 + (1 : Int)) fun z7 => m71_27 k2_ n a0 x1 x2 x3 (1 : Int) z7 s else oZ (x5 + (1 : Int)) fun z9 => m71_27 k2_ n a0 x1 x2 x3 (0 : Int) z9 s) else oZ (x5 + (1 : Int)) fun z11 => m71_27 k2_ n a0 x1 x2 x3 (1 : Int) z11 s else if x4 = (0 : Int) then some ((0 : Int), s) else oZ (x3 + (1 : Int)) fun z14 => k2_ a0 x1 x2 z14 s
theorem c71_27 {G : aHp} {d : Nat} {k2_ : Nat → Int → Int → Int → zS → Option (Int × zS)} (hG : zG G) (hk2 : ∀ {a0 : Nat} {x1 : Int} {x2 : Int} {x3 : Int} {d4 d5 : Option zV} {s : zS} {r_ : Int} {s_ : zS}, k2_ a0 x1 x2 x3 s = some (r_, s_) → Zp G (d + 2) 71 2 [some (zr 7 0 a0), some (zi x1), some (zi x2), some (zi x3), d4, d5] [] s (zRet (some (zi r_)) s_)) : ∀ {n : Nat} {a0 : Nat} {x1 : Int} {x2 : Int} {x3 : Int} {x4 : Int} {x5 : Int} {s : zS} {r_ : Int} {s_ : zS}, m71_27 k2_ n a0 x1 x2 x3 x4 x5 s = some (r_, s_) → Zp G (d + 2) 71 27 [some (zr 7 0 a0), some (zi x1), some (zi x2), some (zi x3), some (zi x4), some (zi x5)] [] s (zRet (some (zi r_)) s_) := by
  intro n
  induction n with
  | zero => intro a0 x1 x2 x3 x4 x5 s r_ s_ hm; cases hm
  | succ n ih =>
  intro a0 x1 x2 x3 x4 x5 s r_ s_ hm
  replace hm : (oV (s.1 a0 5) fun z1 => if x5 < z1 then if x4 = (0 : Int) then oX x5 8 (oV (s.1 (a0 + 5) x5) fun z4 => if z4 = x3 then oZ (x5 + (1 : Int)) fun z7 => m71_27 k2_ n a0 x1 x2 x3 (1 : Int) z7 s else oZ (x5 + (1 : Int)) fun z9 => m71_27 k2_ n a0 x1 x2 x3 (0 : Int) z9 s) else oZ (x5 + (1 : Int)) fun z11 => m71_27 k2_ n a0 x1 x2 x3 (1 : Int) z11 s else if x4 = (0 : Int) then some ((0 : Int), s) else oZ (x3 + (1 : Int)) fun z14 => k2_ a0 x1 x2 z14 s) = some (r_, s_) := hm
  refine z_iload (pc' := 29) hM71 rfl rfl rfl ?_
  refine z_aload_n (pc' := 30) hM71 rfl rfl rfl ?_
  obtain ⟨z1, ez1, hm⟩ := o_v hm
  refine z_fldI (pc' := 33) hM71 rfl rfl rfl ez1 ?_
  refine z_cmpge (pc' := 36) (t := 65) hM71 rfl rfl (fun h2 => ?_) (fun h2 => ?_)
  · replace hm := o_t hm h2
    refine z_iload (pc' := 38) hM71 rfl rfl rfl ?_
    refine z_ifne (pc' := 41) (t := 52) hM71 rfl rfl (fun h3 => ?_) (fun h3 => ?_)
    · replace hm := o_t hm h3
      refine z_aload_n (pc' := 42) hM71 rfl rfl rfl ?_
      refine z_fldR (pc' := 45) hM71 rfl (zf_7_4 hG) rfl rfl ?_
      refine z_iload (pc' := 47) hM71 rfl rfl rfl ?_
      obtain ⟨h5, hm⟩ := o_x hm
      obtain ⟨z4, ez4, hm⟩ := o_v hm
      refine z_iald (pc' := 48) (zGN hG) hM71 rfl rfl h5 ez4 ?_
      refine z_iload_n (pc' := 49) hM71 rfl rfl rfl ?_
      refine z_cmpne (pc' := 52) (t := 56) hM71 rfl rfl (fun h6 => ?_) (fun h6 => ?_)
      · replace hm := o_t hm h6
        refine z_iconst (pc' := 53) hM71 rfl rfl rfl ?_
        refine z_goto (t := 57) hM71 rfl ?_
        refine z_istore (pc' := 59) (l' := [some (zr 7 0 a0), some (zi x1), some (zi x2), some (zi x3), some (zi (1 : Int)), some (zi x5)]) hM71 rfl rfl rfl rfl ?_
        obtain ⟨z7, ez7, h8, hm⟩ := o_z hm
        refine z_iinc (pc' := 62) (l' := [some (zr 7 0 a0), some (zi x1), some (zi x2), some (zi x3), some (zi (1 : Int)), some (zi z7)]) hM71 rfl rfl rfl ez7 h8 rfl rfl ?_
        refine z_goto (t := 27) hM71 rfl ?_
        exact ih hm
      · replace hm := o_f hm h6
        refine z_iconst (pc' := 57) hM71 rfl rfl rfl ?_
        refine z_istore (pc' := 59) (l' := [some (zr 7 0 a0), some (zi x1), some (zi x2), some (zi x3), some (zi (0 : Int)), some (zi x5)]) hM71 rfl rfl rfl rfl ?_
        obtain ⟨z9, ez9, h10, hm⟩ := o_z hm
        refine z_iinc (pc' := 62) (l' := [some (zr 7 0 a0), some (zi x1), some (zi x2), some (zi x3), some (zi (0 : Int)), some (zi z9)]) hM71 rfl rfl rfl ez9 h10 rfl rfl ?_
        refine z_goto (t := 27) hM71 rfl ?_
        exact ih hm
    · replace hm := o_f hm h3
      refine z_iconst (pc' := 53) hM71 rfl rfl rfl ?_
      refine z_goto (t := 57) hM71 rfl ?_
      refine z_istore (pc' := 59) (l' := [some (zr 7 0 a0), some (zi x1), some (zi x2), some (zi x3), some (zi (1 : Int)), some (zi x5)]) hM71 rfl rfl rfl rfl ?_
      obtain ⟨z11, ez11, h12, hm⟩ := o_z hm
      refine z_iinc (pc' := 62) (l' := [some (zr 7 0 a0), some (zi x1), some (zi x2), some (zi x3), some (zi (1 : Int)), some (zi z11)]) hM71 rfl rfl rfl ez11 h12 rfl rfl ?_
      refine z_goto (t := 27) hM71 rfl ?_
      exact ih hm
  · replace hm := o_f hm h2
    refine z_iload (pc' := 67) hM71 rfl rfl rfl ?_
    refine z_ifne (pc' := 70) (t := 72) hM71 rfl rfl (fun h13 => ?_) (fun h13 => ?_)
    · replace hm := o_t hm h13
      refine z_iconst (pc' := 71) hM71 rfl rfl rfl ?_
      cases hm
      exact z_retZ hM71 rfl rfl (Or.inl rfl) ⟨rfl, rfl⟩
    · replace hm := o_f hm h13
      obtain ⟨z14, ez14, h15, hm⟩ := o_z hm
      refine z_iinc (pc' := 75) (l' := [some (zr 7 0 a0), some (zi x1), some (zi x2), some (zi z14), some (zi x4), some (zi x5)]) hM71 rfl rfl rfl ez14 h15 rfl rfl ?_
      refine z_goto (t := 2) hM71 rfl ?_
      exact hk2 hm
def m71_2 : Nat → Nat → Int → Int → Int → zS → Option (Int × zS)
  | 0, _, _, _, _, _ => none
  | n + 1, a0, x1, x2, x3, s => if x3 < x1 then oC (m58 a0 x3 x2 s) fun z2 s3 => if z2 = (-1 : Int) then m71_27 (m71_2 n) zFu a0 x1 x2 x3 (0 : Int) (0 : Int) s3 else m71_27 (m71_2 n) zFu a0 x1 x2 x3 (1 : Int) (0 : Int) s3 else some ((1 : Int), s)
theorem c71_2 {G : aHp} {d : Nat} (hG : zG G) : ∀ {n : Nat} {a0 : Nat} {x1 : Int} {x2 : Int} {x3 : Int} {d4 d5 : Option zV} {s : zS} {r_ : Int} {s_ : zS}, m71_2 n a0 x1 x2 x3 s = some (r_, s_) → Zp G (d + 2) 71 2 [some (zr 7 0 a0), some (zi x1), some (zi x2), some (zi x3), d4, d5] [] s (zRet (some (zi r_)) s_) := by
  intro n
  induction n with
  | zero => intro a0 x1 x2 x3 d4 d5 s r_ s_ hm; cases hm
  | succ n ih =>
  intro a0 x1 x2 x3 d4 d5 s r_ s_ hm
  replace hm : (if x3 < x1 then oC (m58 a0 x3 x2 s) fun z2 s3 => if z2 = (-1 : Int) then m71_27 (m71_2 n) zFu a0 x1 x2 x3 (0 : Int) (0 : Int) s3 else m71_27 (m71_2 n) zFu a0 x1 x2 x3 (1 : Int) (0 : Int) s3 else some ((1 : Int), s)) = some (r_, s_) := hm
  refine z_iload_n (pc' := 3) hM71 rfl rfl rfl ?_
  refine z_iload_n (pc' := 4) hM71 rfl rfl rfl ?_
  refine z_cmpge (pc' := 7) (t := 78) hM71 rfl rfl (fun h1 => ?_) (fun h1 => ?_)
  · replace hm := o_t hm h1
    refine z_aload_n (pc' := 8) hM71 rfl rfl rfl ?_
    refine z_iload_n (pc' := 9) hM71 rfl rfl rfl ?_
    refine z_iload_n (pc' := 10) hM71 rfl rfl rfl ?_
    obtain ⟨z2, s3, h4, hm⟩ := o_c hm
    refine z_cv (d := d + 1) (pc' := 13) hM71 rfl hM58 rfl rfl rfl rfl rfl rfl (c58 (d := d) hG h4) rfl ?_
    refine z_iconst (pc' := 14) hM71 rfl rfl rfl ?_
    refine z_cmpeq (pc' := 17) (t := 21) hM71 rfl rfl (fun h5 => ?_) (fun h5 => ?_)
    · replace hm := o_t hm h5
      refine z_iconst (pc' := 22) hM71 rfl rfl rfl ?_
      refine z_istore (pc' := 24) (l' := [some (zr 7 0 a0), some (zi x1), some (zi x2), some (zi x3), some (zi (0 : Int)), d5]) hM71 rfl rfl rfl rfl ?_
      refine z_iconst (pc' := 25) hM71 rfl rfl rfl ?_
      refine z_istore (pc' := 27) (l' := [some (zr 7 0 a0), some (zi x1), some (zi x2), some (zi x3), some (zi (0 : Int)), some (zi (0 : Int))]) hM71 rfl rfl rfl rfl ?_
      exact c71_27 hG ih hm
    · replace hm := o_f hm h5
      refine z_iconst (pc' := 18) hM71 rfl rfl rfl ?_
      refine z_goto (t := 22) hM71 rfl ?_
      refine z_istore (pc' := 24) (l' := [some (zr 7 0 a0), some (zi x1), some (zi x2), some (zi x3), some (zi (1 : Int)), d5]) hM71 rfl rfl rfl rfl ?_
      refine z_iconst (pc' := 25) hM71 rfl rfl rfl ?_
      refine z_istore (pc' := 27) (l' := [some (zr 7 0 a0), some (zi x1), some (zi x2), some (zi x3), some (zi (1 : Int)), some (zi (0 : Int))]) hM71 rfl rfl rfl rfl ?_
      exact c71_27 hG ih hm
  · replace hm := o_f hm h1
    refine z_iconst (pc' := 79) hM71 rfl rfl rfl ?_
    cases hm
    exact z_retZ hM71 rfl rfl (Or.inr rfl) ⟨rfl, rfl⟩
def m71 (a0 : Nat) (x1 : Int) (x2 : Int) (s : zS) : Option (Int × zS) := m71_2 zFu a0 x1 x2 (0 : Int) s
theorem c71 {G : aHp} {d : Nat} (hG : zG G) {a0 : Nat} {x1 : Int} {x2 : Int} {s : zS} {r_ : Int} {s_ : zS} (hm : m71 a0 x1 x2 s = some (r_, s_)) : Zp G (d + 2) 71 0 [some (zr 7 0 a0), some (zi x1), some (zi x2), none, none, none] [] s (zRet (some (zi r_)) s_) := by
  replace hm : (m71_2 zFu a0 x1 x2 (0 : Int) s) = some (r_, s_) := hm
  refine z_iconst (pc' := 1) hM71 rfl rfl rfl ?_
  refine z_istore_n (pc' := 2) (l' := [some (zr 7 0 a0), some (zi x1), some (zi x2), some (zi (0 : Int)), none, none]) hM71 rfl rfl rfl rfl ?_
  exact c71_2 hG hm
def m67_190 : Nat → Nat → Int → Int → Int → zS → Option (Int × zS)
  | 0, _, _, _, _, _ => none
  | n + 1, a0, x3, x4, x6, s => oV (s.1 a0 5) fun z1 => if x6 < z1 then oZ ((3 : Int) + x3) fun z3 => oZ ((4 : Int) * x4) fun z5 => oZ (z3 + z5) fun z7 => oZ (z7 + x6) fun z9 => oC (m74 z9 s) fun z11 s12 => oX x6 8 (oV (sI s12 (a0 + 5) x6 z11) fun s14 => oZ (x6 + (1 : Int)) fun z16 => m67_190 n a0 x3 x4 z16 s14) else oC (m71 a0 x3 x4 s) fun z18 s19 => oD z18 (some (z18, s19))
set_option maxRecDepth 20000 in
theorem c67_190 {G : aHp} {d : Nat} (hG : zG G) : ∀ {n : Nat} {a0 : Nat} {x3 : Int} {x4 : Int} {x6 : Int} {d2 d5 : Option zV} {s : zS} {r_ : Int} {s_ : zS}, m67_190 n a0 x3 x4 x6 s = some (r_, s_) → Zp G (d + 4) 67 190 [some (zr 7 0 a0), some (zr 8 0 1), d2, some (zi x3), some (zi x4), d5, some (zi x6)] [] s (zRet (some (zi r_)) s_) := by
  intro n
  induction n with
  | zero => intro a0 x3 x4 x6 d2 d5 s r_ s_ hm; cases hm
  | succ n ih =>
  intro a0 x3 x4 x6 d2 d5 s r_ s_ hm
  replace hm : (oV (s.1 a0 5) fun z1 => if x6 < z1 then oZ ((3 : Int) + x3) fun z3 => oZ ((4 : Int) * x4) fun z5 => oZ (z3 + z5) fun z7 => oZ (z7 + x6) fun z9 => oC (m74 z9 s) fun z11 s12 => oX x6 8 (oV (sI s12 (a0 + 5) x6 z11) fun s14 => oZ (x6 + (1 : Int)) fun z16 => m67_190 n a0 x3 x4 z16 s14) else oC (m71 a0 x3 x4 s) fun z18 s19 => oD z18 (some (z18, s19))) = some (r_, s_) := hm
  refine z_iload (pc' := 192) hM67 rfl rfl rfl ?_
  refine z_aload_n (pc' := 193) hM67 rfl rfl rfl ?_
  obtain ⟨z1, ez1, hm⟩ := o_v hm
  refine z_fldI (pc' := 196) hM67 rfl rfl rfl ez1 ?_
  refine z_cmpge (pc' := 199) (t := 227) hM67 rfl rfl (fun h2 => ?_) (fun h2 => ?_)
  · replace hm := o_t hm h2
    refine z_aload_n (pc' := 200) hM67 rfl rfl rfl ?_
    refine z_fldR (pc' := 203) hM67 rfl (zf_7_4 hG) rfl rfl ?_
    refine z_iload (pc' := 205) hM67 rfl rfl rfl ?_
    refine z_aload_n (pc' := 206) hM67 rfl rfl rfl ?_
    refine z_iconst (pc' := 207) hM67 rfl rfl rfl ?_
    refine z_iload_n (pc' := 208) hM67 rfl rfl rfl ?_
    obtain ⟨z3, ez3, h4, hm⟩ := o_z hm
    refine z_iadd (pc' := 209) hM67 rfl rfl ez3 h4 ?_
    refine z_iconst (pc' := 210) hM67 rfl rfl rfl ?_
    refine z_iload (pc' := 212) hM67 rfl rfl rfl ?_
    obtain ⟨z5, ez5, h6, hm⟩ := o_z hm
    refine z_imul (pc' := 213) hM67 rfl rfl ez5 h6 ?_
    obtain ⟨z7, ez7, h8, hm⟩ := o_z hm
    refine z_iadd (pc' := 214) hM67 rfl rfl ez7 h8 ?_
    refine z_iload (pc' := 216) hM67 rfl rfl rfl ?_
    obtain ⟨z9, ez9, h10, hm⟩ := o_z hm
    refine z_iadd (pc' := 217) hM67 rfl rfl ez9 h10 ?_
    obtain ⟨z11, s12, h13, hm⟩ := o_c hm
    refine z_cv (d := d + 3) (pc' := 220) hM67 rfl hM74 rfl rfl rfl rfl rfl rfl (c74 (d := d + 2) hG h13) rfl ?_
    obtain ⟨h15, hm⟩ := o_x hm
    obtain ⟨s14, es14, hm⟩ := o_v hm
    refine z_iast (pc' := 221) hM67 rfl rfl h15 es14 ?_
    obtain ⟨z16, ez16, h17, hm⟩ := o_z hm
    refine z_iinc (pc' := 224) (l' := [some (zr 7 0 a0), some (zr 8 0 1), d2, some (zi x3), some (zi x4), zKd d5, some (zi z16)]) hM67 rfl rfl rfl ez16 h17 rfl rfl ?_
    refine z_goto (t := 190) hM67 rfl ?_
    exact ih hm
  · replace hm := o_f hm h2
    refine z_aload_n (pc' := 228) hM67 rfl rfl rfl ?_
    refine z_iload_n (pc' := 229) hM67 rfl rfl rfl ?_
    refine z_iload (pc' := 231) hM67 rfl rfl rfl ?_
    obtain ⟨z18, s19, h20, hm⟩ := o_c hm
    refine z_cv (d := d + 3) (pc' := 234) hM67 rfl hM71 rfl rfl rfl rfl rfl rfl (c71 (d := d + 1) hG h20) rfl ?_
    obtain ⟨h21, hm⟩ := o_d hm
    cases hm
    exact z_retZ hM67 rfl rfl h21 ⟨rfl, rfl⟩
def m67_147 : Nat → Nat → Nat → Int → Int → Int → zS → Option (Int × zS)
  | 0, _, _, _, _, _, _ => none
  | n + 1, a0, a2, x3, x4, x6, s => if x6 < x4 then oZ ((3 : Int) + x3) fun z2 => oZ ((4 : Int) * x6) fun z4 => oZ (z2 + z4) fun z6 => oV (s.1 (a2 + 1) 0) fun z8 => oC (m70 a0 z6 x6 z8 s) fun z9 s10 => if z9 = (0 : Int) then some ((0 : Int), s10) else oZ (x6 + (1 : Int)) fun z13 => m67_147 n a0 a2 x3 x4 z13 s10 else m67_190 zFu a0 x3 x4 (0 : Int) s
set_option maxRecDepth 20000 in
theorem c67_147 {G : aHp} {d : Nat} (hG : zG G) : ∀ {n : Nat} {a0 : Nat} {a2 : Nat} {x3 : Int} {x4 : Int} {x6 : Int} {d5 : Option zV} {s : zS} {r_ : Int} {s_ : zS}, m67_147 n a0 a2 x3 x4 x6 s = some (r_, s_) → Zp G (d + 4) 67 147 [some (zr 7 0 a0), some (zr 8 0 1), some (zr 5 0 a2), some (zi x3), some (zi x4), d5, some (zi x6)] [] s (zRet (some (zi r_)) s_) := by
  intro n
  induction n with
  | zero => intro a0 a2 x3 x4 x6 d5 s r_ s_ hm; cases hm
  | succ n ih =>
  intro a0 a2 x3 x4 x6 d5 s r_ s_ hm
  replace hm : (if x6 < x4 then oZ ((3 : Int) + x3) fun z2 => oZ ((4 : Int) * x6) fun z4 => oZ (z2 + z4) fun z6 => oV (s.1 (a2 + 1) 0) fun z8 => oC (m70 a0 z6 x6 z8 s) fun z9 s10 => if z9 = (0 : Int) then some ((0 : Int), s10) else oZ (x6 + (1 : Int)) fun z13 => m67_147 n a0 a2 x3 x4 z13 s10 else m67_190 zFu a0 x3 x4 (0 : Int) s) = some (r_, s_) := hm
  refine z_iload (pc' := 149) hM67 rfl rfl rfl ?_
  refine z_iload (pc' := 151) hM67 rfl rfl rfl ?_
  refine z_cmpge (pc' := 154) (t := 187) hM67 rfl rfl (fun h1 => ?_) (fun h1 => ?_)
  · replace hm := o_t hm h1
    refine z_aload_n (pc' := 155) hM67 rfl rfl rfl ?_
    refine z_aload_n (pc' := 156) hM67 rfl rfl rfl ?_
    refine z_iconst (pc' := 157) hM67 rfl rfl rfl ?_
    refine z_iload_n (pc' := 158) hM67 rfl rfl rfl ?_
    obtain ⟨z2, ez2, h3, hm⟩ := o_z hm
    refine z_iadd (pc' := 159) hM67 rfl rfl ez2 h3 ?_
    refine z_iconst (pc' := 160) hM67 rfl rfl rfl ?_
    refine z_iload (pc' := 162) hM67 rfl rfl rfl ?_
    obtain ⟨z4, ez4, h5, hm⟩ := o_z hm
    refine z_imul (pc' := 163) hM67 rfl rfl ez4 h5 ?_
    obtain ⟨z6, ez6, h7, hm⟩ := o_z hm
    refine z_iadd (pc' := 164) hM67 rfl rfl ez6 h7 ?_
    refine z_iload (pc' := 166) hM67 rfl rfl rfl ?_
    refine z_aload_n (pc' := 167) hM67 rfl rfl rfl ?_
    refine z_fldR (pc' := 170) hM67 rfl (zf_5_0 hG) rfl rfl ?_
    obtain ⟨z8, ez8, hm⟩ := o_v hm
    refine z_fldI (pc' := 173) hM67 rfl rfl rfl ez8 ?_
    obtain ⟨z9, s10, h11, hm⟩ := o_c hm
    refine z_cv (d := d + 3) (pc' := 176) hM67 rfl hM70 rfl rfl rfl rfl rfl rfl (c70 (d := d) hG h11) rfl ?_
    refine z_ifne (pc' := 179) (t := 181) hM67 rfl rfl (fun h12 => ?_) (fun h12 => ?_)
    · replace hm := o_t hm h12
      refine z_iconst (pc' := 180) hM67 rfl rfl rfl ?_
      cases hm
      exact z_retZ hM67 rfl rfl (Or.inl rfl) ⟨rfl, rfl⟩
    · replace hm := o_f hm h12
      obtain ⟨z13, ez13, h14, hm⟩ := o_z hm
      refine z_iinc (pc' := 184) (l' := [some (zr 7 0 a0), some (zr 8 0 1), some (zr 5 0 a2), some (zi x3), some (zi x4), zKd d5, some (zi z13)]) hM67 rfl rfl rfl ez13 h14 rfl rfl ?_
      refine z_goto (t := 147) hM67 rfl ?_
      exact ih hm
  · replace hm := o_f hm h1
    refine z_iconst (pc' := 188) hM67 rfl rfl rfl ?_
    refine z_istore (pc' := 190) (l' := [some (zr 7 0 a0), some (zr 8 0 1), some (zr 5 0 a2), some (zi x3), some (zi x4), zKd d5, some (zi (0 : Int))]) hM67 rfl rfl rfl rfl ?_
    exact c67_190 hG hm
def m67_103 : Nat → Nat → Nat → Int → Int → Int → zS → Option (Int × zS)
  | 0, _, _, _, _, _, _ => none
  | n + 1, a0, a2, x3, x4, x6, s => if x6 < x3 then oZ ((3 : Int) + x6) fun z2 => oC (m74 z2 s) fun z4 s5 => oX x6 8 (oV (sI s5 (a0 + 1) x6 z4) fun s7 => oX x6 8 (oV (s7.1 (a0 + 1) x6) fun z9 => if (9 : Int) < z9 then some ((0 : Int), s7) else oZ (x6 + (1 : Int)) fun z12 => m67_103 n a0 a2 x3 x4 z12 s7)) else m67_147 zFu a0 a2 x3 x4 (0 : Int) s
set_option maxRecDepth 20000 in
theorem c67_103 {G : aHp} {d : Nat} (hG : zG G) : ∀ {n : Nat} {a0 : Nat} {a2 : Nat} {x3 : Int} {x4 : Int} {x6 : Int} {d5 : Option zV} {s : zS} {r_ : Int} {s_ : zS}, m67_103 n a0 a2 x3 x4 x6 s = some (r_, s_) → Zp G (d + 4) 67 103 [some (zr 7 0 a0), some (zr 8 0 1), some (zr 5 0 a2), some (zi x3), some (zi x4), d5, some (zi x6)] [] s (zRet (some (zi r_)) s_) := by
  intro n
  induction n with
  | zero => intro a0 a2 x3 x4 x6 d5 s r_ s_ hm; cases hm
  | succ n ih =>
  intro a0 a2 x3 x4 x6 d5 s r_ s_ hm
  replace hm : (if x6 < x3 then oZ ((3 : Int) + x6) fun z2 => oC (m74 z2 s) fun z4 s5 => oX x6 8 (oV (sI s5 (a0 + 1) x6 z4) fun s7 => oX x6 8 (oV (s7.1 (a0 + 1) x6) fun z9 => if (9 : Int) < z9 then some ((0 : Int), s7) else oZ (x6 + (1 : Int)) fun z12 => m67_103 n a0 a2 x3 x4 z12 s7)) else m67_147 zFu a0 a2 x3 x4 (0 : Int) s) = some (r_, s_) := hm
  refine z_iload (pc' := 105) hM67 rfl rfl rfl ?_
  refine z_iload_n (pc' := 106) hM67 rfl rfl rfl ?_
  refine z_cmpge (pc' := 109) (t := 144) hM67 rfl rfl (fun h1 => ?_) (fun h1 => ?_)
  · replace hm := o_t hm h1
    refine z_aload_n (pc' := 110) hM67 rfl rfl rfl ?_
    refine z_fldR (pc' := 113) hM67 rfl (zf_7_0 hG) rfl rfl ?_
    refine z_iload (pc' := 115) hM67 rfl rfl rfl ?_
    refine z_aload_n (pc' := 116) hM67 rfl rfl rfl ?_
    refine z_iconst (pc' := 117) hM67 rfl rfl rfl ?_
    refine z_iload (pc' := 119) hM67 rfl rfl rfl ?_
    obtain ⟨z2, ez2, h3, hm⟩ := o_z hm
    refine z_iadd (pc' := 120) hM67 rfl rfl ez2 h3 ?_
    obtain ⟨z4, s5, h6, hm⟩ := o_c hm
    refine z_cv (d := d + 3) (pc' := 123) hM67 rfl hM74 rfl rfl rfl rfl rfl rfl (c74 (d := d + 2) hG h6) rfl ?_
    obtain ⟨h8, hm⟩ := o_x hm
    obtain ⟨s7, es7, hm⟩ := o_v hm
    refine z_iast (pc' := 124) hM67 rfl rfl h8 es7 ?_
    refine z_aload_n (pc' := 125) hM67 rfl rfl rfl ?_
    refine z_fldR (pc' := 128) hM67 rfl (zf_7_0 hG) rfl rfl ?_
    refine z_iload (pc' := 130) hM67 rfl rfl rfl ?_
    obtain ⟨h10, hm⟩ := o_x hm
    obtain ⟨z9, ez9, hm⟩ := o_v hm
    refine z_iald (pc' := 131) (zGN hG) hM67 rfl rfl h10 ez9 ?_
    refine z_bipush (pc' := 133) hM67 rfl rfl rfl ?_
    refine z_cmple (pc' := 136) (t := 138) hM67 rfl rfl (fun h11 => ?_) (fun h11 => ?_)
    · replace hm := o_t hm h11
      refine z_iconst (pc' := 137) hM67 rfl rfl rfl ?_
      cases hm
      exact z_retZ hM67 rfl rfl (Or.inl rfl) ⟨rfl, rfl⟩
    · replace hm := o_f hm h11
      obtain ⟨z12, ez12, h13, hm⟩ := o_z hm
      refine z_iinc (pc' := 141) (l' := [some (zr 7 0 a0), some (zr 8 0 1), some (zr 5 0 a2), some (zi x3), some (zi x4), zKd d5, some (zi z12)]) hM67 rfl rfl rfl ez12 h13 rfl rfl ?_
      refine z_goto (t := 103) hM67 rfl ?_
      exact ih hm
  · replace hm := o_f hm h1
    refine z_iconst (pc' := 145) hM67 rfl rfl rfl ?_
    refine z_istore (pc' := 147) (l' := [some (zr 7 0 a0), some (zr 8 0 1), some (zr 5 0 a2), some (zi x3), some (zi x4), zKd d5, some (zi (0 : Int))]) hM67 rfl rfl rfl rfl ?_
    exact c67_147 hG hm
def m67 (a0 : Nat) (a2 : Nat) (s : zS) : Option (Int × zS) := oV (s.1 (a2 + 3) 0) fun z1 => oV (s.1 (a2 + 5) 0) fun z2 => oZ (z1 - z2) fun z3 => oV (sI s a0 5 z3) fun s5 => oZ ((3 : Int) + z1) fun z6 => oZ ((4 : Int) * z2) fun z8 => oZ (z6 + z8) fun z10 => oV (s5.1 a0 5) fun z12 => oZ (z10 + z12) fun z13 => oV (s5.1 1 2) fun z15 => oZ (z13 + (1 : Int)) fun z16 => if z15 = z16 then oC (m68 z13 s5) fun z19 s20 => if z19 = (0 : Int) then some ((0 : Int), s20) else oC (m69 (0 : Int) s20) fun z23 s24 => oV (sI s24 a0 6 z23) fun s26 => oC (m74 (2 : Int) s26) fun z27 s28 => oV (sI s28 a0 7 z27) fun s30 => oV (s30.1 a0 6) fun z31 => if (999 : Int) < z31 then some ((0 : Int), s30) else oV (s30.1 a0 7) fun z33 => if (2 : Int) < z33 then some ((0 : Int), s30) else m67_103 zFu a0 a2 z1 z2 (0 : Int) s30 else some ((0 : Int), s5)
set_option maxRecDepth 20000 in
theorem c67 {G : aHp} {d : Nat} (hG : zG G) {a0 : Nat} {a2 : Nat} {s : zS} {r_ : Int} {s_ : zS} (hm : m67 a0 a2 s = some (r_, s_)) : Zp G (d + 4) 67 0 [some (zr 7 0 a0), some (zr 8 0 1), some (zr 5 0 a2), none, none, none, none] [] s (zRet (some (zi r_)) s_) := by
  replace hm : (oV (s.1 (a2 + 3) 0) fun z1 => oV (s.1 (a2 + 5) 0) fun z2 => oZ (z1 - z2) fun z3 => oV (sI s a0 5 z3) fun s5 => oZ ((3 : Int) + z1) fun z6 => oZ ((4 : Int) * z2) fun z8 => oZ (z6 + z8) fun z10 => oV (s5.1 a0 5) fun z12 => oZ (z10 + z12) fun z13 => oV (s5.1 1 2) fun z15 => oZ (z13 + (1 : Int)) fun z16 => if z15 = z16 then oC (m68 z13 s5) fun z19 s20 => if z19 = (0 : Int) then some ((0 : Int), s20) else oC (m69 (0 : Int) s20) fun z23 s24 => oV (sI s24 a0 6 z23) fun s26 => oC (m74 (2 : Int) s26) fun z27 s28 => oV (sI s28 a0 7 z27) fun s30 => oV (s30.1 a0 6) fun z31 => if (999 : Int) < z31 then some ((0 : Int), s30) else oV (s30.1 a0 7) fun z33 => if (2 : Int) < z33 then some ((0 : Int), s30) else m67_103 zFu a0 a2 z1 z2 (0 : Int) s30 else some ((0 : Int), s5)) = some (r_, s_) := hm
  refine z_aload_n (pc' := 1) hM67 rfl rfl rfl ?_
  refine z_fldR (pc' := 4) hM67 rfl (zf_5_1 hG) rfl rfl ?_
  obtain ⟨z1, ez1, hm⟩ := o_v hm
  refine z_fldI (pc' := 7) hM67 rfl rfl rfl ez1 ?_
  refine z_istore_n (pc' := 8) (l' := [some (zr 7 0 a0), some (zr 8 0 1), some (zr 5 0 a2), some (zi z1), none, none, none]) hM67 rfl rfl rfl rfl ?_
  refine z_aload_n (pc' := 9) hM67 rfl rfl rfl ?_
  refine z_fldR (pc' := 12) hM67 rfl (zf_5_2 hG) rfl rfl ?_
  obtain ⟨z2, ez2, hm⟩ := o_v hm
  refine z_fldI (pc' := 15) hM67 rfl rfl rfl ez2 ?_
  refine z_istore (pc' := 17) (l' := [some (zr 7 0 a0), some (zr 8 0 1), some (zr 5 0 a2), some (zi z1), some (zi z2), none, none]) hM67 rfl rfl rfl rfl ?_
  refine z_aload_n (pc' := 18) hM67 rfl rfl rfl ?_
  refine z_iload_n (pc' := 19) hM67 rfl rfl rfl ?_
  refine z_iload (pc' := 21) hM67 rfl rfl rfl ?_
  obtain ⟨z3, ez3, h4, hm⟩ := o_z hm
  refine z_isub (pc' := 22) hM67 rfl rfl ez3 h4 ?_
  obtain ⟨s5, es5, hm⟩ := o_v hm
  refine z_putI (pc' := 25) hM67 rfl rfl rfl es5 ?_
  refine z_iconst (pc' := 26) hM67 rfl rfl rfl ?_
  refine z_iload_n (pc' := 27) hM67 rfl rfl rfl ?_
  obtain ⟨z6, ez6, h7, hm⟩ := o_z hm
  refine z_iadd (pc' := 28) hM67 rfl rfl ez6 h7 ?_
  refine z_iconst (pc' := 29) hM67 rfl rfl rfl ?_
  refine z_iload (pc' := 31) hM67 rfl rfl rfl ?_
  obtain ⟨z8, ez8, h9, hm⟩ := o_z hm
  refine z_imul (pc' := 32) hM67 rfl rfl ez8 h9 ?_
  obtain ⟨z10, ez10, h11, hm⟩ := o_z hm
  refine z_iadd (pc' := 33) hM67 rfl rfl ez10 h11 ?_
  refine z_aload_n (pc' := 34) hM67 rfl rfl rfl ?_
  obtain ⟨z12, ez12, hm⟩ := o_v hm
  refine z_fldI (pc' := 37) hM67 rfl rfl rfl ez12 ?_
  obtain ⟨z13, ez13, h14, hm⟩ := o_z hm
  refine z_iadd (pc' := 38) hM67 rfl rfl ez13 h14 ?_
  refine z_istore (pc' := 40) (l' := [some (zr 7 0 a0), some (zr 8 0 1), some (zr 5 0 a2), some (zi z1), some (zi z2), some (zi z13), none]) hM67 rfl rfl rfl rfl ?_
  refine z_aload_n (pc' := 41) hM67 rfl rfl rfl ?_
  obtain ⟨z15, ez15, hm⟩ := o_v hm
  refine z_fldI (pc' := 44) hM67 rfl rfl rfl ez15 ?_
  refine z_iload (pc' := 46) hM67 rfl rfl rfl ?_
  refine z_iconst (pc' := 47) hM67 rfl rfl rfl ?_
  obtain ⟨z16, ez16, h17, hm⟩ := o_z hm
  refine z_iadd (pc' := 48) hM67 rfl rfl ez16 h17 ?_
  refine z_cmpne (pc' := 51) (t := 60) hM67 rfl rfl (fun h18 => ?_) (fun h18 => ?_)
  · replace hm := o_t hm h18
    refine z_aload_n (pc' := 52) hM67 rfl rfl rfl ?_
    refine z_iload (pc' := 54) hM67 rfl rfl rfl ?_
    obtain ⟨z19, s20, h21, hm⟩ := o_c hm
    refine z_cs (d := d + 3) (pc' := 57) hM67 rfl hM68 rfl rfl rfl rfl (c68 (d := d + 1) hG h21) rfl ?_
    refine z_ifne (pc' := 60) (t := 62) hM67 rfl rfl (fun h22 => ?_) (fun h22 => ?_)
    · replace hm := o_t hm h22
      refine z_iconst (pc' := 61) hM67 rfl rfl rfl ?_
      cases hm
      exact z_retZ hM67 rfl rfl (Or.inl rfl) ⟨rfl, rfl⟩
    · replace hm := o_f hm h22
      refine z_aload_n (pc' := 63) hM67 rfl rfl rfl ?_
      refine z_aload_n (pc' := 64) hM67 rfl rfl rfl ?_
      refine z_iconst (pc' := 65) hM67 rfl rfl rfl ?_
      obtain ⟨z23, s24, h25, hm⟩ := o_c hm
      refine z_cs (d := d + 3) (pc' := 68) hM67 rfl hM69 rfl rfl rfl rfl (c69 (d := d + 1) hG h25) rfl ?_
      obtain ⟨s26, es26, hm⟩ := o_v hm
      refine z_putI (pc' := 71) hM67 rfl rfl rfl es26 ?_
      refine z_aload_n (pc' := 72) hM67 rfl rfl rfl ?_
      refine z_aload_n (pc' := 73) hM67 rfl rfl rfl ?_
      refine z_iconst (pc' := 74) hM67 rfl rfl rfl ?_
      obtain ⟨z27, s28, h29, hm⟩ := o_c hm
      refine z_cv (d := d + 3) (pc' := 77) hM67 rfl hM74 rfl rfl rfl rfl rfl rfl (c74 (d := d + 2) hG h29) rfl ?_
      obtain ⟨s30, es30, hm⟩ := o_v hm
      refine z_putI (pc' := 80) hM67 rfl rfl rfl es30 ?_
      refine z_aload_n (pc' := 81) hM67 rfl rfl rfl ?_
      obtain ⟨z31, ez31, hm⟩ := o_v hm
      refine z_fldI (pc' := 84) hM67 rfl rfl rfl ez31 ?_
      refine z_sipush (pc' := 87) hM67 rfl rfl rfl ?_
      refine z_cmpgt (pc' := 90) (t := 98) hM67 rfl rfl (fun h32 => ?_) (fun h32 => ?_)
      · replace hm := o_t hm h32
        refine z_iconst (pc' := 99) hM67 rfl rfl rfl ?_
        cases hm
        exact z_retZ hM67 rfl rfl (Or.inl rfl) ⟨rfl, rfl⟩
      · replace hm := o_f hm h32
        refine z_aload_n (pc' := 91) hM67 rfl rfl rfl ?_
        obtain ⟨z33, ez33, hm⟩ := o_v hm
        refine z_fldI (pc' := 94) hM67 rfl rfl rfl ez33 ?_
        refine z_iconst (pc' := 95) hM67 rfl rfl rfl ?_
        refine z_cmple (pc' := 98) (t := 100) hM67 rfl rfl (fun h34 => ?_) (fun h34 => ?_)
        · replace hm := o_t hm h34
          refine z_iconst (pc' := 99) hM67 rfl rfl rfl ?_
          cases hm
          exact z_retZ hM67 rfl rfl (Or.inl rfl) ⟨rfl, rfl⟩
        · replace hm := o_f hm h34
          refine z_iconst (pc' := 101) hM67 rfl rfl rfl ?_
          refine z_istore (pc' := 103) (l' := [some (zr 7 0 a0), some (zr 8 0 1), some (zr 5 0 a2), some (zi z1), some (zi z2), some (zi z13), some (zi (0 : Int))]) hM67 rfl rfl rfl rfl ?_
          exact c67_103 hG hm
  · replace hm := o_f hm h18
    refine z_iconst (pc' := 61) hM67 rfl rfl rfl ?_
    cases hm
    exact z_retZ hM67 rfl rfl (Or.inl rfl) ⟨rfl, rfl⟩
def m73_3 : Nat → Int → Int → zS → Option (Int × zS)
  | 0, _, _, _ => none
  | n + 1, x1, x2, s => if x2 < (0 : Int) then some (0, s) else oV (s.1 1 2) fun z2 => if z2 < (1600 : Int) then oV (s.1 1 2) fun z4 => oV (zUshr x1 x2) fun z5 => oV (zAnd z5 (255 : Int)) fun z6 => oX z4 1600 (oV (sI s 2 z4 z6) fun s7 => oV (s7.1 1 2) fun z9 => oZ (z9 + (1 : Int)) fun z10 => oV (sI s7 1 2 z10) fun s12 => oZ (x2 + (-8 : Int)) fun z13 => m73_3 n x1 z13 s12) else some (0, s)
theorem c73_3 {G : aHp} {d : Nat} (hG : zG G) : ∀ {n : Nat} {x1 : Int} {x2 : Int} {s : zS} {r_ : Int} {s_ : zS}, m73_3 n x1 x2 s = some (r_, s_) → Zp G (d + 1) 73 3 [some (zr 8 0 1), some (zi x1), some (zi x2)] [] s (zRet none s_) := by
  intro n
  induction n with
  | zero => intro x1 x2 s r_ s_ hm; cases hm
  | succ n ih =>
  intro x1 x2 s r_ s_ hm
  replace hm : (if x2 < (0 : Int) then some (0, s) else oV (s.1 1 2) fun z2 => if z2 < (1600 : Int) then oV (s.1 1 2) fun z4 => oV (zUshr x1 x2) fun z5 => oV (zAnd z5 (255 : Int)) fun z6 => oX z4 1600 (oV (sI s 2 z4 z6) fun s7 => oV (s7.1 1 2) fun z9 => oZ (z9 + (1 : Int)) fun z10 => oV (sI s7 1 2 z10) fun s12 => oZ (x2 + (-8 : Int)) fun z13 => m73_3 n x1 z13 s12) else some (0, s)) = some (r_, s_) := hm
  refine z_iload_n (pc' := 4) hM73 rfl rfl rfl ?_
  refine z_iflt (pc' := 7) (t := 49) hM73 rfl rfl (fun h1 => ?_) (fun h1 => ?_)
  · replace hm := o_t hm h1
    cases hm
    exact z_retV hM73 rfl rfl ⟨rfl, rfl⟩
  · replace hm := o_f hm h1
    refine z_aload_n (pc' := 8) hM73 rfl rfl rfl ?_
    obtain ⟨z2, ez2, hm⟩ := o_v hm
    refine z_fldI (pc' := 11) hM73 rfl rfl rfl ez2 ?_
    refine z_sipush (pc' := 14) hM73 rfl rfl rfl ?_
    refine z_cmpge (pc' := 17) (t := 49) hM73 rfl rfl (fun h3 => ?_) (fun h3 => ?_)
    · replace hm := o_t hm h3
      refine z_aload_n (pc' := 18) hM73 rfl rfl rfl ?_
      refine z_fldR (pc' := 21) hM73 rfl (zf_8_0 hG) rfl rfl ?_
      refine z_aload_n (pc' := 22) hM73 rfl rfl rfl ?_
      obtain ⟨z4, ez4, hm⟩ := o_v hm
      refine z_fldI (pc' := 25) hM73 rfl rfl rfl ez4 ?_
      refine z_iload_n (pc' := 26) hM73 rfl rfl rfl ?_
      refine z_iload_n (pc' := 27) hM73 rfl rfl rfl ?_
      obtain ⟨z5, ez5, hm⟩ := o_v hm
      refine z_iushr (pc' := 28) hM73 rfl rfl ez5 ?_
      refine z_sipush (pc' := 31) hM73 rfl rfl rfl ?_
      obtain ⟨z6, ez6, hm⟩ := o_v hm
      refine z_iand (pc' := 32) hM73 rfl rfl ez6 ?_
      obtain ⟨h8, hm⟩ := o_x hm
      obtain ⟨s7, es7, hm⟩ := o_v hm
      refine z_iast (pc' := 33) hM73 rfl rfl h8 es7 ?_
      refine z_aload_n (pc' := 34) hM73 rfl rfl rfl ?_
      refine z_dupA (pc' := 35) hM73 rfl rfl ?_
      obtain ⟨z9, ez9, hm⟩ := o_v hm
      refine z_fldI (pc' := 38) hM73 rfl rfl rfl ez9 ?_
      refine z_iconst (pc' := 39) hM73 rfl rfl rfl ?_
      obtain ⟨z10, ez10, h11, hm⟩ := o_z hm
      refine z_iadd (pc' := 40) hM73 rfl rfl ez10 h11 ?_
      obtain ⟨s12, es12, hm⟩ := o_v hm
      refine z_putI (pc' := 43) hM73 rfl rfl rfl es12 ?_
      obtain ⟨z13, ez13, h14, hm⟩ := o_z hm
      refine z_iinc (pc' := 46) (l' := [some (zr 8 0 1), some (zi x1), some (zi z13)]) hM73 rfl rfl rfl ez13 h14 rfl rfl ?_
      refine z_goto (t := 3) hM73 rfl ?_
      exact ih hm
    · replace hm := o_f hm h3
      cases hm
      exact z_retV hM73 rfl rfl ⟨rfl, rfl⟩
def m73 (x1 : Int) (s : zS) : Option (Int × zS) := m73_3 zFu x1 (24 : Int) s
theorem c73 {G : aHp} {d : Nat} (hG : zG G) {x1 : Int} {s : zS} {r_ : Int} {s_ : zS} (hm : m73 x1 s = some (r_, s_)) : Zp G (d + 1) 73 0 [some (zr 8 0 1), some (zi x1), none] [] s (zRet none s_) := by
  replace hm : (m73_3 zFu x1 (24 : Int) s) = some (r_, s_) := hm
  refine z_bipush (pc' := 2) hM73 rfl rfl rfl ?_
  refine z_istore_n (pc' := 3) (l' := [some (zr 8 0 1), some (zi x1), some (zi (24 : Int))]) hM73 rfl rfl rfl rfl ?_
  exact c73_3 hG hm
def m82 (k1 : Nat) (s : zS) : Option (Int × zS) := oC (m80 k1 s) fun z1 s2 => if z1 = (0 : Int) then oC (m78 s2) fun z5 s6 => oD z5 (some (z5, s6)) else oC (m76 s2) fun z9 s10 => some ((1 : Int), s10)
theorem c82 {G : aHp} {d : Nat} (hG : zG G) {k1 : Nat} {s : zS} {r_ : Int} {s_ : zS} (hm : m82 k1 s = some (r_, s_)) : Zp G (d + 6) 82 0 [some (zr 8 0 1), some (zt (k1 + 1))] [] s (zRet (some (zi r_)) s_) := by
  replace hm : (oC (m80 k1 s) fun z1 s2 => if z1 = (0 : Int) then oC (m78 s2) fun z5 s6 => oD z5 (some (z5, s6)) else oC (m76 s2) fun z9 s10 => some ((1 : Int), s10)) = some (r_, s_) := hm
  refine z_aload_n (pc' := 1) hM82 rfl rfl rfl ?_
  refine z_aload_t (pc' := 2) hM82 rfl rfl rfl ?_
  obtain ⟨z1, s2, h3, hm⟩ := o_c hm
  refine z_cv (d := d + 5) (pc' := 5) hM82 rfl hM80 rfl rfl rfl rfl rfl rfl (c80 (d := d) hG h3) rfl ?_
  refine z_ifne (pc' := 8) (t := 13) hM82 rfl rfl (fun h4 => ?_) (fun h4 => ?_)
  · replace hm := o_t hm h4
    refine z_aload_n (pc' := 9) hM82 rfl rfl rfl ?_
    obtain ⟨z5, s6, h7, hm⟩ := o_c hm
    refine z_cv (d := d + 5) (pc' := 12) hM82 rfl hM78 rfl rfl rfl rfl rfl rfl (c78 (d := d + 4) hG h7) rfl ?_
    obtain ⟨h8, hm⟩ := o_d hm
    cases hm
    exact z_retZ hM82 rfl rfl h8 ⟨rfl, rfl⟩
  · replace hm := o_f hm h4
    refine z_aload_n (pc' := 14) hM82 rfl rfl rfl ?_
    obtain ⟨z9, s10, h11, hm⟩ := o_c hm
    refine z_cvV (d := d + 5) (pc' := 17) hM82 rfl hM76 rfl rfl rfl rfl rfl rfl (c76 (d := d + 4) hG h11) rfl ?_
    refine z_iconst (pc' := 18) hM82 rfl rfl rfl ?_
    cases hm
    exact z_retZ hM82 rfl rfl (Or.inr rfl) ⟨rfl, rfl⟩
def m85_4 : Nat → Nat → Int → Int → zS → Option (Int × zS)
  | 0, _, _, _, _ => none
  | n + 1, k1, x2, x3, s => oV (zSl k1) fun z1 => if x3 < z1 then oW x3 (zSl k1) (oV (zSc k1 x3) fun z3 => if z3 = (32 : Int) then oV (s.1 1 8) fun z6 => oV (s.1 1 4) fun z7 => oZ (z6 - z7) fun z8 => if x2 = z8 then some ((1 : Int), s) else oZ (x3 + (1 : Int)) fun z11 => m85_4 n k1 (0 : Int) z11 s else if x2 = (-1 : Int) then oZ (x3 + (1 : Int)) fun z14 => m85_4 n k1 (-1 : Int) z14 s else oV (s.1 1 4) fun z16 => oZ (z16 + x2) fun z17 => oV (s.1 1 8) fun z19 => if z17 < z19 then oV (s.1 1 4) fun z21 => oZ (z21 + x2) fun z22 => oX z22 1600 (oV (s.1 2 z22) fun z24 => if z24 = z3 then oZ (x2 + (1 : Int)) fun z27 => oZ (x3 + (1 : Int)) fun z29 => m85_4 n k1 z27 z29 s else oZ (x3 + (1 : Int)) fun z31 => m85_4 n k1 (-1 : Int) z31 s) else oZ (x3 + (1 : Int)) fun z33 => m85_4 n k1 (-1 : Int) z33 s) else some ((0 : Int), s)
theorem c85_4 {G : aHp} {d : Nat} (hG : zG G) : ∀ {n : Nat} {k1 : Nat} {x2 : Int} {x3 : Int} {d4 : Option zV} {s : zS} {r_ : Int} {s_ : zS}, m85_4 n k1 x2 x3 s = some (r_, s_) → Zp G (d + 5) 85 4 [some (zr 8 0 1), some (zt (k1 + 1)), some (zi x2), some (zi x3), d4] [] s (zRet (some (zi r_)) s_) := by
  intro n
  induction n with
  | zero => intro k1 x2 x3 d4 s r_ s_ hm; cases hm
  | succ n ih =>
  intro k1 x2 x3 d4 s r_ s_ hm
  replace hm : (oV (zSl k1) fun z1 => if x3 < z1 then oW x3 (zSl k1) (oV (zSc k1 x3) fun z3 => if z3 = (32 : Int) then oV (s.1 1 8) fun z6 => oV (s.1 1 4) fun z7 => oZ (z6 - z7) fun z8 => if x2 = z8 then some ((1 : Int), s) else oZ (x3 + (1 : Int)) fun z11 => m85_4 n k1 (0 : Int) z11 s else if x2 = (-1 : Int) then oZ (x3 + (1 : Int)) fun z14 => m85_4 n k1 (-1 : Int) z14 s else oV (s.1 1 4) fun z16 => oZ (z16 + x2) fun z17 => oV (s.1 1 8) fun z19 => if z17 < z19 then oV (s.1 1 4) fun z21 => oZ (z21 + x2) fun z22 => oX z22 1600 (oV (s.1 2 z22) fun z24 => if z24 = z3 then oZ (x2 + (1 : Int)) fun z27 => oZ (x3 + (1 : Int)) fun z29 => m85_4 n k1 z27 z29 s else oZ (x3 + (1 : Int)) fun z31 => m85_4 n k1 (-1 : Int) z31 s) else oZ (x3 + (1 : Int)) fun z33 => m85_4 n k1 (-1 : Int) z33 s) else some ((0 : Int), s)) = some (r_, s_) := hm
  refine z_iload_n (pc' := 5) hM85 rfl rfl rfl ?_
  refine z_aload_t (pc' := 6) hM85 rfl rfl rfl ?_
  obtain ⟨z1, ez1, hm⟩ := o_v hm
  refine z_slen (pc' := 9) hM85 rfl (by omega) rfl rfl ez1 ?_
  refine z_cmpge (pc' := 12) (t := 94) hM85 rfl rfl (fun h2 => ?_) (fun h2 => ?_)
  · replace hm := o_t hm h2
    refine z_aload_t (pc' := 13) hM85 rfl rfl rfl ?_
    refine z_iload_n (pc' := 14) hM85 rfl rfl rfl ?_
    obtain ⟨h4, hm⟩ := o_w hm
    obtain ⟨z3, ez3, hm⟩ := o_v hm
    refine z_sat (pc' := 17) hM85 rfl (by omega) rfl rfl h4 ez3 ?_
    refine z_istore (pc' := 19) (l' := [some (zr 8 0 1), some (zt (k1 + 1)), some (zi x2), some (zi x3), some (zi z3)]) hM85 rfl rfl rfl rfl ?_
    refine z_iload (pc' := 21) hM85 rfl rfl rfl ?_
    refine z_bipush (pc' := 23) hM85 rfl rfl rfl ?_
    refine z_cmpne (pc' := 26) (t := 46) hM85 rfl rfl (fun h5 => ?_) (fun h5 => ?_)
    · replace hm := o_t hm h5
      refine z_iload_n (pc' := 27) hM85 rfl rfl rfl ?_
      refine z_aload_n (pc' := 28) hM85 rfl rfl rfl ?_
      obtain ⟨z6, ez6, hm⟩ := o_v hm
      refine z_fldI (pc' := 31) hM85 rfl rfl rfl ez6 ?_
      refine z_aload_n (pc' := 32) hM85 rfl rfl rfl ?_
      obtain ⟨z7, ez7, hm⟩ := o_v hm
      refine z_fldI (pc' := 35) hM85 rfl rfl rfl ez7 ?_
      obtain ⟨z8, ez8, h9, hm⟩ := o_z hm
      refine z_isub (pc' := 36) hM85 rfl rfl ez8 h9 ?_
      refine z_cmpne (pc' := 39) (t := 41) hM85 rfl rfl (fun h10 => ?_) (fun h10 => ?_)
      · replace hm := o_t hm h10
        refine z_iconst (pc' := 40) hM85 rfl rfl rfl ?_
        cases hm
        exact z_retZ hM85 rfl rfl (Or.inr rfl) ⟨rfl, rfl⟩
      · replace hm := o_f hm h10
        refine z_iconst (pc' := 42) hM85 rfl rfl rfl ?_
        refine z_istore_n (pc' := 43) (l' := [some (zr 8 0 1), some (zt (k1 + 1)), some (zi (0 : Int)), some (zi x3), some (zi z3)]) hM85 rfl rfl rfl rfl ?_
        refine z_goto (t := 88) hM85 rfl ?_
        obtain ⟨z11, ez11, h12, hm⟩ := o_z hm
        refine z_iinc (pc' := 91) (l' := [some (zr 8 0 1), some (zt (k1 + 1)), some (zi (0 : Int)), some (zi z11), some (zi z3)]) hM85 rfl rfl rfl ez11 h12 rfl rfl ?_
        refine z_goto (t := 4) hM85 rfl ?_
        exact ih hm
    · replace hm := o_f hm h5
      refine z_iload_n (pc' := 47) hM85 rfl rfl rfl ?_
      refine z_iconst (pc' := 48) hM85 rfl rfl rfl ?_
      refine z_cmpeq (pc' := 51) (t := 86) hM85 rfl rfl (fun h13 => ?_) (fun h13 => ?_)
      · replace hm := o_t hm h13
        refine z_iconst (pc' := 87) hM85 rfl rfl rfl ?_
        refine z_istore_n (pc' := 88) (l' := [some (zr 8 0 1), some (zt (k1 + 1)), some (zi (-1 : Int)), some (zi x3), some (zi z3)]) hM85 rfl rfl rfl rfl ?_
        obtain ⟨z14, ez14, h15, hm⟩ := o_z hm
        refine z_iinc (pc' := 91) (l' := [some (zr 8 0 1), some (zt (k1 + 1)), some (zi (-1 : Int)), some (zi z14), some (zi z3)]) hM85 rfl rfl rfl ez14 h15 rfl rfl ?_
        refine z_goto (t := 4) hM85 rfl ?_
        exact ih hm
      · replace hm := o_f hm h13
        refine z_aload_n (pc' := 52) hM85 rfl rfl rfl ?_
        obtain ⟨z16, ez16, hm⟩ := o_v hm
        refine z_fldI (pc' := 55) hM85 rfl rfl rfl ez16 ?_
        refine z_iload_n (pc' := 56) hM85 rfl rfl rfl ?_
        obtain ⟨z17, ez17, h18, hm⟩ := o_z hm
        refine z_iadd (pc' := 57) hM85 rfl rfl ez17 h18 ?_
        refine z_aload_n (pc' := 58) hM85 rfl rfl rfl ?_
        obtain ⟨z19, ez19, hm⟩ := o_v hm
        refine z_fldI (pc' := 61) hM85 rfl rfl rfl ez19 ?_
        refine z_cmpge (pc' := 64) (t := 86) hM85 rfl rfl (fun h20 => ?_) (fun h20 => ?_)
        · replace hm := o_t hm h20
          refine z_aload_n (pc' := 65) hM85 rfl rfl rfl ?_
          refine z_fldR (pc' := 68) hM85 rfl (zf_8_0 hG) rfl rfl ?_
          refine z_aload_n (pc' := 69) hM85 rfl rfl rfl ?_
          obtain ⟨z21, ez21, hm⟩ := o_v hm
          refine z_fldI (pc' := 72) hM85 rfl rfl rfl ez21 ?_
          refine z_iload_n (pc' := 73) hM85 rfl rfl rfl ?_
          obtain ⟨z22, ez22, h23, hm⟩ := o_z hm
          refine z_iadd (pc' := 74) hM85 rfl rfl ez22 h23 ?_
          obtain ⟨h25, hm⟩ := o_x hm
          obtain ⟨z24, ez24, hm⟩ := o_v hm
          refine z_iald (pc' := 75) (zGN hG) hM85 rfl rfl h25 ez24 ?_
          refine z_iload (pc' := 77) hM85 rfl rfl rfl ?_
          refine z_cmpne (pc' := 80) (t := 86) hM85 rfl rfl (fun h26 => ?_) (fun h26 => ?_)
          · replace hm := o_t hm h26
            obtain ⟨z27, ez27, h28, hm⟩ := o_z hm
            refine z_iinc (pc' := 83) (l' := [some (zr 8 0 1), some (zt (k1 + 1)), some (zi z27), some (zi x3), some (zi z3)]) hM85 rfl rfl rfl ez27 h28 rfl rfl ?_
            refine z_goto (t := 88) hM85 rfl ?_
            obtain ⟨z29, ez29, h30, hm⟩ := o_z hm
            refine z_iinc (pc' := 91) (l' := [some (zr 8 0 1), some (zt (k1 + 1)), some (zi z27), some (zi z29), some (zi z3)]) hM85 rfl rfl rfl ez29 h30 rfl rfl ?_
            refine z_goto (t := 4) hM85 rfl ?_
            exact ih hm
          · replace hm := o_f hm h26
            refine z_iconst (pc' := 87) hM85 rfl rfl rfl ?_
            refine z_istore_n (pc' := 88) (l' := [some (zr 8 0 1), some (zt (k1 + 1)), some (zi (-1 : Int)), some (zi x3), some (zi z3)]) hM85 rfl rfl rfl rfl ?_
            obtain ⟨z31, ez31, h32, hm⟩ := o_z hm
            refine z_iinc (pc' := 91) (l' := [some (zr 8 0 1), some (zt (k1 + 1)), some (zi (-1 : Int)), some (zi z31), some (zi z3)]) hM85 rfl rfl rfl ez31 h32 rfl rfl ?_
            refine z_goto (t := 4) hM85 rfl ?_
            exact ih hm
        · replace hm := o_f hm h20
          refine z_iconst (pc' := 87) hM85 rfl rfl rfl ?_
          refine z_istore_n (pc' := 88) (l' := [some (zr 8 0 1), some (zt (k1 + 1)), some (zi (-1 : Int)), some (zi x3), some (zi z3)]) hM85 rfl rfl rfl rfl ?_
          obtain ⟨z33, ez33, h34, hm⟩ := o_z hm
          refine z_iinc (pc' := 91) (l' := [some (zr 8 0 1), some (zt (k1 + 1)), some (zi (-1 : Int)), some (zi z33), some (zi z3)]) hM85 rfl rfl rfl ez33 h34 rfl rfl ?_
          refine z_goto (t := 4) hM85 rfl ?_
          exact ih hm
  · replace hm := o_f hm h2
    refine z_iconst (pc' := 95) hM85 rfl rfl rfl ?_
    cases hm
    exact z_retZ hM85 rfl rfl (Or.inl rfl) ⟨rfl, rfl⟩
def m85 (k1 : Nat) (s : zS) : Option (Int × zS) := m85_4 zFu k1 (0 : Int) (0 : Int) s
theorem c85 {G : aHp} {d : Nat} (hG : zG G) {k1 : Nat} {s : zS} {r_ : Int} {s_ : zS} (hm : m85 k1 s = some (r_, s_)) : Zp G (d + 5) 85 0 [some (zr 8 0 1), some (zt (k1 + 1)), none, none, none] [] s (zRet (some (zi r_)) s_) := by
  replace hm : (m85_4 zFu k1 (0 : Int) (0 : Int) s) = some (r_, s_) := hm
  refine z_iconst (pc' := 1) hM85 rfl rfl rfl ?_
  refine z_istore_n (pc' := 2) (l' := [some (zr 8 0 1), some (zt (k1 + 1)), some (zi (0 : Int)), none, none]) hM85 rfl rfl rfl rfl ?_
  refine z_iconst (pc' := 3) hM85 rfl rfl rfl ?_
  refine z_istore_n (pc' := 4) (l' := [some (zr 8 0 1), some (zt (k1 + 1)), some (zi (0 : Int)), some (zi (0 : Int)), none]) hM85 rfl rfl rfl rfl ?_
  exact c85_4 hG hm
def m84_60 : Nat → Int → zS → Option (Int × zS)
  | 0, _, _ => none
  | n + 1, x1, s => if x1 < (6 : Int) then oV (s.1 1 4) fun z2 => oZ (z2 + x1) fun z3 => oV (s.1 1 8) fun z5 => if z3 < z5 then oV (s.1 1 4) fun z7 => oZ (z7 + x1) fun z8 => oX z8 1600 (oV (s.1 2 z8) fun z10 => oZ (z10 - (97 : Int)) fun z12 => oZ (z12 + (1 : Int)) fun z14 => oX x1 6 (oV (sI s 3 x1 z14) fun s16 => oZ (x1 + (1 : Int)) fun z18 => m84_60 n z18 s16)) else oX x1 6 (oV (sI s 3 x1 (0 : Int)) fun s20 => oZ (x1 + (1 : Int)) fun z22 => m84_60 n z22 s20) else some ((1 : Int), s)
theorem c84_60 {G : aHp} {d : Nat} (hG : zG G) : ∀ {n : Nat} {x1 : Int} {s : zS} {r_ : Int} {s_ : zS}, m84_60 n x1 s = some (r_, s_) → Zp G (d + 6) 84 60 [some (zr 8 0 1), some (zi x1)] [] s (zRet (some (zi r_)) s_) := by
  intro n
  induction n with
  | zero => intro x1 s r_ s_ hm; cases hm
  | succ n ih =>
  intro x1 s r_ s_ hm
  replace hm : (if x1 < (6 : Int) then oV (s.1 1 4) fun z2 => oZ (z2 + x1) fun z3 => oV (s.1 1 8) fun z5 => if z3 < z5 then oV (s.1 1 4) fun z7 => oZ (z7 + x1) fun z8 => oX z8 1600 (oV (s.1 2 z8) fun z10 => oZ (z10 - (97 : Int)) fun z12 => oZ (z12 + (1 : Int)) fun z14 => oX x1 6 (oV (sI s 3 x1 z14) fun s16 => oZ (x1 + (1 : Int)) fun z18 => m84_60 n z18 s16)) else oX x1 6 (oV (sI s 3 x1 (0 : Int)) fun s20 => oZ (x1 + (1 : Int)) fun z22 => m84_60 n z22 s20) else some ((1 : Int), s)) = some (r_, s_) := hm
  refine z_iload_n (pc' := 61) hM84 rfl rfl rfl ?_
  refine z_bipush (pc' := 63) hM84 rfl rfl rfl ?_
  refine z_cmpge (pc' := 66) (t := 111) hM84 rfl rfl (fun h1 => ?_) (fun h1 => ?_)
  · replace hm := o_t hm h1
    refine z_aload_n (pc' := 67) hM84 rfl rfl rfl ?_
    refine z_fldR (pc' := 70) hM84 rfl (zf_8_1 hG) rfl rfl ?_
    refine z_iload_n (pc' := 71) hM84 rfl rfl rfl ?_
    refine z_aload_n (pc' := 72) hM84 rfl rfl rfl ?_
    obtain ⟨z2, ez2, hm⟩ := o_v hm
    refine z_fldI (pc' := 75) hM84 rfl rfl rfl ez2 ?_
    refine z_iload_n (pc' := 76) hM84 rfl rfl rfl ?_
    obtain ⟨z3, ez3, h4, hm⟩ := o_z hm
    refine z_iadd (pc' := 77) hM84 rfl rfl ez3 h4 ?_
    refine z_aload_n (pc' := 78) hM84 rfl rfl rfl ?_
    obtain ⟨z5, ez5, hm⟩ := o_v hm
    refine z_fldI (pc' := 81) hM84 rfl rfl rfl ez5 ?_
    refine z_cmpge (pc' := 84) (t := 103) hM84 rfl rfl (fun h6 => ?_) (fun h6 => ?_)
    · replace hm := o_t hm h6
      refine z_aload_n (pc' := 85) hM84 rfl rfl rfl ?_
      refine z_fldR (pc' := 88) hM84 rfl (zf_8_0 hG) rfl rfl ?_
      refine z_aload_n (pc' := 89) hM84 rfl rfl rfl ?_
      obtain ⟨z7, ez7, hm⟩ := o_v hm
      refine z_fldI (pc' := 92) hM84 rfl rfl rfl ez7 ?_
      refine z_iload_n (pc' := 93) hM84 rfl rfl rfl ?_
      obtain ⟨z8, ez8, h9, hm⟩ := o_z hm
      refine z_iadd (pc' := 94) hM84 rfl rfl ez8 h9 ?_
      obtain ⟨h11, hm⟩ := o_x hm
      obtain ⟨z10, ez10, hm⟩ := o_v hm
      refine z_iald (pc' := 95) (zGN hG) hM84 rfl rfl h11 ez10 ?_
      refine z_bipush (pc' := 97) hM84 rfl rfl rfl ?_
      obtain ⟨z12, ez12, h13, hm⟩ := o_z hm
      refine z_isub (pc' := 98) hM84 rfl rfl ez12 h13 ?_
      refine z_iconst (pc' := 99) hM84 rfl rfl rfl ?_
      obtain ⟨z14, ez14, h15, hm⟩ := o_z hm
      refine z_iadd (pc' := 100) hM84 rfl rfl ez14 h15 ?_
      refine z_goto (t := 104) hM84 rfl ?_
      obtain ⟨h17, hm⟩ := o_x hm
      obtain ⟨s16, es16, hm⟩ := o_v hm
      refine z_iast (pc' := 105) hM84 rfl rfl h17 es16 ?_
      obtain ⟨z18, ez18, h19, hm⟩ := o_z hm
      refine z_iinc (pc' := 108) (l' := [some (zr 8 0 1), some (zi z18)]) hM84 rfl rfl rfl ez18 h19 rfl rfl ?_
      refine z_goto (t := 60) hM84 rfl ?_
      exact ih hm
    · replace hm := o_f hm h6
      refine z_iconst (pc' := 104) hM84 rfl rfl rfl ?_
      obtain ⟨h21, hm⟩ := o_x hm
      obtain ⟨s20, es20, hm⟩ := o_v hm
      refine z_iast (pc' := 105) hM84 rfl rfl h21 es20 ?_
      obtain ⟨z22, ez22, h23, hm⟩ := o_z hm
      refine z_iinc (pc' := 108) (l' := [some (zr 8 0 1), some (zi z22)]) hM84 rfl rfl rfl ez22 h23 rfl rfl ?_
      refine z_goto (t := 60) hM84 rfl ?_
      exact ih hm
  · replace hm := o_f hm h1
    refine z_iconst (pc' := 112) hM84 rfl rfl rfl ?_
    cases hm
    exact z_retZ hM84 rfl rfl (Or.inr rfl) ⟨rfl, rfl⟩
def m84  (s : zS) : Option (Int × zS) := oV (s.1 1 3) fun z1 => if z1 = (1 : Int) then oC (m85 1 s) fun z3 s4 => if z3 = (0 : Int) then oC (m85 2 s4) fun z7 s8 => if z7 = (0 : Int) then oV (s8.1 1 8) fun z11 => oV (s8.1 1 4) fun z12 => oZ (z11 - z12) fun z13 => if (6 : Int) < z13 then oV (s8.1 1 4) fun z16 => oZ (z16 + (6 : Int)) fun z17 => oC (m77 (1 : Int) z17 s8) fun z19 s20 => oD z19 (some (z19, s20)) else m84_60 zFu (0 : Int) s8 else oC (m78 s8) fun z23 s24 => oD z23 (some (z23, s24)) else oC (m78 s4) fun z27 s28 => oD z27 (some (z27, s28)) else oC (m78 s) fun z31 s32 => oD z31 (some (z31, s32))
theorem c84 {G : aHp} {d : Nat} (hG : zG G) {s : zS} {r_ : Int} {s_ : zS} (hm : m84  s = some (r_, s_)) : Zp G (d + 6) 84 0 [some (zr 8 0 1), none] [] s (zRet (some (zi r_)) s_) := by
  replace hm : (oV (s.1 1 3) fun z1 => if z1 = (1 : Int) then oC (m85 1 s) fun z3 s4 => if z3 = (0 : Int) then oC (m85 2 s4) fun z7 s8 => if z7 = (0 : Int) then oV (s8.1 1 8) fun z11 => oV (s8.1 1 4) fun z12 => oZ (z11 - z12) fun z13 => if (6 : Int) < z13 then oV (s8.1 1 4) fun z16 => oZ (z16 + (6 : Int)) fun z17 => oC (m77 (1 : Int) z17 s8) fun z19 s20 => oD z19 (some (z19, s20)) else m84_60 zFu (0 : Int) s8 else oC (m78 s8) fun z23 s24 => oD z23 (some (z23, s24)) else oC (m78 s4) fun z27 s28 => oD z27 (some (z27, s28)) else oC (m78 s) fun z31 s32 => oD z31 (some (z31, s32))) = some (r_, s_) := hm
  refine z_aload_n (pc' := 1) hM84 rfl rfl rfl ?_
  obtain ⟨z1, ez1, hm⟩ := o_v hm
  refine z_fldI (pc' := 4) hM84 rfl rfl rfl ez1 ?_
  refine z_iconst (pc' := 5) hM84 rfl rfl rfl ?_
  refine z_cmpne (pc' := 8) (t := 26) hM84 rfl rfl (fun h2 => ?_) (fun h2 => ?_)
  · replace hm := o_t hm h2
    refine z_aload_n (pc' := 9) hM84 rfl rfl rfl ?_
    refine z_ldcT (pc' := 11) hM84 rfl rfl rfl ?_
    obtain ⟨z3, s4, h5, hm⟩ := o_c hm
    refine z_cv (d := d + 5) (pc' := 14) hM84 rfl hM85 rfl rfl rfl rfl rfl rfl (c85 (d := d) hG h5) rfl ?_
    refine z_ifne (pc' := 17) (t := 26) hM84 rfl rfl (fun h6 => ?_) (fun h6 => ?_)
    · replace hm := o_t hm h6
      refine z_aload_n (pc' := 18) hM84 rfl rfl rfl ?_
      refine z_ldcT (pc' := 20) hM84 rfl rfl rfl ?_
      obtain ⟨z7, s8, h9, hm⟩ := o_c hm
      refine z_cv (d := d + 5) (pc' := 23) hM84 rfl hM85 rfl rfl rfl rfl rfl rfl (c85 (d := d) hG h9) rfl ?_
      refine z_ifeq (pc' := 26) (t := 31) hM84 rfl rfl (fun h10 => ?_) (fun h10 => ?_)
      · replace hm := o_t hm h10
        refine z_aload_n (pc' := 32) hM84 rfl rfl rfl ?_
        obtain ⟨z11, ez11, hm⟩ := o_v hm
        refine z_fldI (pc' := 35) hM84 rfl rfl rfl ez11 ?_
        refine z_aload_n (pc' := 36) hM84 rfl rfl rfl ?_
        obtain ⟨z12, ez12, hm⟩ := o_v hm
        refine z_fldI (pc' := 39) hM84 rfl rfl rfl ez12 ?_
        obtain ⟨z13, ez13, h14, hm⟩ := o_z hm
        refine z_isub (pc' := 40) hM84 rfl rfl ez13 h14 ?_
        refine z_bipush (pc' := 42) hM84 rfl rfl rfl ?_
        refine z_cmple (pc' := 45) (t := 58) hM84 rfl rfl (fun h15 => ?_) (fun h15 => ?_)
        · replace hm := o_t hm h15
          refine z_aload_n (pc' := 46) hM84 rfl rfl rfl ?_
          refine z_iconst (pc' := 47) hM84 rfl rfl rfl ?_
          refine z_aload_n (pc' := 48) hM84 rfl rfl rfl ?_
          obtain ⟨z16, ez16, hm⟩ := o_v hm
          refine z_fldI (pc' := 51) hM84 rfl rfl rfl ez16 ?_
          refine z_bipush (pc' := 53) hM84 rfl rfl rfl ?_
          obtain ⟨z17, ez17, h18, hm⟩ := o_z hm
          refine z_iadd (pc' := 54) hM84 rfl rfl ez17 h18 ?_
          obtain ⟨z19, s20, h21, hm⟩ := o_c hm
          refine z_cv (d := d + 5) (pc' := 57) hM84 rfl hM77 rfl rfl rfl rfl rfl rfl (c77 (d := d + 4) hG h21) rfl ?_
          obtain ⟨h22, hm⟩ := o_d hm
          cases hm
          exact z_retZ hM84 rfl rfl h22 ⟨rfl, rfl⟩
        · replace hm := o_f hm h15
          refine z_iconst (pc' := 59) hM84 rfl rfl rfl ?_
          refine z_istore_n (pc' := 60) (l' := [some (zr 8 0 1), some (zi (0 : Int))]) hM84 rfl rfl rfl rfl ?_
          exact c84_60 hG hm
      · replace hm := o_f hm h10
        refine z_aload_n (pc' := 27) hM84 rfl rfl rfl ?_
        obtain ⟨z23, s24, h25, hm⟩ := o_c hm
        refine z_cv (d := d + 5) (pc' := 30) hM84 rfl hM78 rfl rfl rfl rfl rfl rfl (c78 (d := d + 4) hG h25) rfl ?_
        obtain ⟨h26, hm⟩ := o_d hm
        cases hm
        exact z_retZ hM84 rfl rfl h26 ⟨rfl, rfl⟩
    · replace hm := o_f hm h6
      refine z_aload_n (pc' := 27) hM84 rfl rfl rfl ?_
      obtain ⟨z27, s28, h29, hm⟩ := o_c hm
      refine z_cv (d := d + 5) (pc' := 30) hM84 rfl hM78 rfl rfl rfl rfl rfl rfl (c78 (d := d + 4) hG h29) rfl ?_
      obtain ⟨h30, hm⟩ := o_d hm
      cases hm
      exact z_retZ hM84 rfl rfl h30 ⟨rfl, rfl⟩
  · replace hm := o_f hm h2
    refine z_aload_n (pc' := 27) hM84 rfl rfl rfl ?_
    obtain ⟨z31, s32, h33, hm⟩ := o_c hm
    refine z_cv (d := d + 5) (pc' := 30) hM84 rfl hM78 rfl rfl rfl rfl rfl rfl (c78 (d := d + 4) hG h33) rfl ?_
    obtain ⟨h34, hm⟩ := o_d hm
    cases hm
    exact z_retZ hM84 rfl rfl h34 ⟨rfl, rfl⟩
