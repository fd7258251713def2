/-! ===== methods (by gen_mir.py) ===== -/
def m225_4 : Nat → Int → Int → zS → Option (Int × zS)
  | 0, _, _, _ => none
  | n + 1, x1, x2, s => oC (m183 s) fun z1 s2 => if x2 < z1 then oX x2 6 (oV (s2.1 257 x2) fun z5 => if (0 : Int) < z5 then oZ ((8 : Int) * x2) fun z8 => oX x2 6 (oV (s2.1 257 x2) fun z10 => oZ (z8 + z10) fun z12 => oZ (z12 - (1 : Int)) fun z14 => oX z14 48 (oV (s2.1 259 z14) fun z16 => if z16 = (-1 : Int) then oZ (x2 + (1 : Int)) fun z19 => m225_4 n x1 z19 s2 else oZ (x1 + (1 : Int)) fun z21 => oZ (x2 + (1 : Int)) fun z23 => m225_4 n z21 z23 s2)) else oZ (x2 + (1 : Int)) fun z25 => m225_4 n x1 z25 s2) else some (x1, s2)
theorem c225_4 {G : aHp} {d : Nat} (hG : zG G) : ∀ {n : Nat} {x1 : Int} {x2 : Int} {s : zS} {r_ : Int} {s_ : zS}, m225_4 n x1 x2 s = some (r_, s_) → Zp G (d + 2) 225 4 [some (zr 12 0 209), some (zi x1), some (zi x2)] [] s (zRet (some (zi r_)) s_) := by
  intro n
  induction n with
  | zero => intro x1 x2 s r_ s_ hm; cases hm
  | succ n ih =>
  intro x1 x2 s r_ s_ hm
  replace hm : (oC (m183 s) fun z1 s2 => if x2 < z1 then oX x2 6 (oV (s2.1 257 x2) fun z5 => if (0 : Int) < z5 then oZ ((8 : Int) * x2) fun z8 => oX x2 6 (oV (s2.1 257 x2) fun z10 => oZ (z8 + z10) fun z12 => oZ (z12 - (1 : Int)) fun z14 => oX z14 48 (oV (s2.1 259 z14) fun z16 => if z16 = (-1 : Int) then oZ (x2 + (1 : Int)) fun z19 => m225_4 n x1 z19 s2 else oZ (x1 + (1 : Int)) fun z21 => oZ (x2 + (1 : Int)) fun z23 => m225_4 n z21 z23 s2)) else oZ (x2 + (1 : Int)) fun z25 => m225_4 n x1 z25 s2) else some (x1, s2)) = some (r_, s_) := hm
  refine z_iload_n (pc' := 5) hM225 rfl rfl rfl ?_
  refine z_aload_n (pc' := 6) hM225 rfl rfl rfl ?_
  obtain ⟨z1, s2, h3, hm⟩ := o_c hm
  refine z_cv (d := d + 1) (pc' := 9) hM225 rfl hM183 rfl rfl rfl rfl rfl rfl (c183 (d := d) hG h3) rfl ?_
  refine z_cmpge (pc' := 12) (t := 52) hM225 rfl rfl (fun h4 => ?_) (fun h4 => ?_)
  · replace hm := o_t hm h4
    refine z_aload_n (pc' := 13) hM225 rfl rfl rfl ?_
    refine z_fldR (pc' := 16) hM225 rfl (zf_12_64 hG) rfl rfl ?_
    refine z_iload_n (pc' := 17) hM225 rfl rfl rfl ?_
    obtain ⟨h6, hm⟩ := o_x hm
    obtain ⟨z5, ez5, hm⟩ := o_v hm
    refine z_iald (pc' := 18) (zGN hG) hM225 rfl rfl h6 ez5 ?_
    refine z_ifle (pc' := 21) (t := 46) hM225 rfl rfl (fun h7 => ?_) (fun h7 => ?_)
    · replace hm := o_t hm h7
      refine z_aload_n (pc' := 22) hM225 rfl rfl rfl ?_
      refine z_fldR (pc' := 25) hM225 rfl (zf_12_66 hG) rfl rfl ?_
      refine z_bipush (pc' := 27) hM225 rfl rfl rfl ?_
      refine z_iload_n (pc' := 28) hM225 rfl rfl rfl ?_
      obtain ⟨z8, ez8, h9, hm⟩ := o_z hm
      refine z_imul (pc' := 29) hM225 rfl rfl ez8 h9 ?_
      refine z_aload_n (pc' := 30) hM225 rfl rfl rfl ?_
      refine z_fldR (pc' := 33) hM225 rfl (zf_12_64 hG) rfl rfl ?_
      refine z_iload_n (pc' := 34) hM225 rfl rfl rfl ?_
      obtain ⟨h11, hm⟩ := o_x hm
      obtain ⟨z10, ez10, hm⟩ := o_v hm
      refine z_iald (pc' := 35) (zGN hG) hM225 rfl rfl h11 ez10 ?_
      obtain ⟨z12, ez12, h13, hm⟩ := o_z hm
      refine z_iadd (pc' := 36) hM225 rfl rfl ez12 h13 ?_
      refine z_iconst (pc' := 37) hM225 rfl rfl rfl ?_
      obtain ⟨z14, ez14, h15, hm⟩ := o_z hm
      refine z_isub (pc' := 38) hM225 rfl rfl ez14 h15 ?_
      obtain ⟨h17, hm⟩ := o_x hm
      obtain ⟨z16, ez16, hm⟩ := o_v hm
      refine z_iald (pc' := 39) (zGN hG) hM225 rfl rfl h17 ez16 ?_
      refine z_iconst (pc' := 40) hM225 rfl rfl rfl ?_
      refine z_cmpeq (pc' := 43) (t := 46) hM225 rfl rfl (fun h18 => ?_) (fun h18 => ?_)
      · replace hm := o_t hm h18
        obtain ⟨z19, ez19, h20, hm⟩ := o_z hm
        refine z_iinc (pc' := 49) (l' := [some (zr 12 0 209), some (zi x1), some (zi z19)]) hM225 rfl rfl rfl ez19 h20 rfl rfl ?_
        refine z_goto (t := 4) hM225 rfl ?_
        exact ih hm
      · replace hm := o_f hm h18
        obtain ⟨z21, ez21, h22, hm⟩ := o_z hm
        refine z_iinc (pc' := 46) (l' := [some (zr 12 0 209), some (zi z21), some (zi x2)]) hM225 rfl rfl rfl ez21 h22 rfl rfl ?_
        obtain ⟨z23, ez23, h24, hm⟩ := o_z hm
        refine z_iinc (pc' := 49) (l' := [some (zr 12 0 209), some (zi z21), some (zi z23)]) hM225 rfl rfl rfl ez23 h24 rfl rfl ?_
        refine z_goto (t := 4) hM225 rfl ?_
        exact ih hm
    · replace hm := o_f hm h7
      obtain ⟨z25, ez25, h26, hm⟩ := o_z hm
      refine z_iinc (pc' := 49) (l' := [some (zr 12 0 209), some (zi x1), some (zi z25)]) hM225 rfl rfl rfl ez25 h26 rfl rfl ?_
      refine z_goto (t := 4) hM225 rfl ?_
      exact ih hm
  · replace hm := o_f hm h4
    refine z_iload_n (pc' := 53) hM225 rfl rfl rfl ?_
    cases hm
    exact z_retI hM225 rfl rfl ⟨rfl, rfl⟩
def m225  (s : zS) : Option (Int × zS) := m225_4 zFu (0 : Int) (0 : Int) s
theorem c225 {G : aHp} {d : Nat} (hG : zG G) {s : zS} {r_ : Int} {s_ : zS} (hm : m225  s = some (r_, s_)) : Zp G (d + 2) 225 0 [some (zr 12 0 209), none, none] [] s (zRet (some (zi r_)) s_) := by
  replace hm : (m225_4 zFu (0 : Int) (0 : Int) s) = some (r_, s_) := hm
  refine z_iconst (pc' := 1) hM225 rfl rfl rfl ?_
  refine z_istore_n (pc' := 2) (l' := [some (zr 12 0 209), some (zi (0 : Int)), none]) hM225 rfl rfl rfl rfl ?_
  refine z_iconst (pc' := 3) hM225 rfl rfl rfl ?_
  refine z_istore_n (pc' := 4) (l' := [some (zr 12 0 209), some (zi (0 : Int)), some (zi (0 : Int))]) hM225 rfl rfl rfl rfl ?_
  exact c225_4 hG hm
def m226_4 : Nat → Int → Int → zS → Option (Int × zS)
  | 0, _, _, _ => none
  | n + 1, x1, x2, s => oC (m183 s) fun z1 s2 => if x2 < z1 then oX x2 6 (oV (s2.1 257 x2) fun z5 => if (0 : Int) < z5 then oZ ((8 : Int) * x2) fun z8 => oX x2 6 (oV (s2.1 257 x2) fun z10 => oZ (z8 + z10) fun z12 => oZ (z12 - (1 : Int)) fun z14 => oX z14 48 (oV (s2.1 259 z14) fun z16 => if z16 = (-1 : Int) then oZ (x2 + (1 : Int)) fun z19 => m226_4 n x1 z19 s2 else oZ ((8 : Int) * x2) fun z21 => oX x2 6 (oV (s2.1 257 x2) fun z23 => oZ (z21 + z23) fun z25 => oZ (z25 - (1 : Int)) fun z27 => oX z27 48 (oV (s2.1 259 z27) fun z29 => oZ (x1 + z29) fun z31 => oZ (x2 + (1 : Int)) fun z33 => m226_4 n z31 z33 s2)))) else oZ (x2 + (1 : Int)) fun z35 => m226_4 n x1 z35 s2) else some (x1, s2)
theorem c226_4 {G : aHp} {d : Nat} (hG : zG G) : ∀ {n : Nat} {x1 : Int} {x2 : Int} {s : zS} {r_ : Int} {s_ : zS}, m226_4 n x1 x2 s = some (r_, s_) → Zp G (d + 2) 226 4 [some (zr 12 0 209), some (zi x1), some (zi x2)] [] s (zRet (some (zi r_)) s_) := by
  intro n
  induction n with
  | zero => intro x1 x2 s r_ s_ hm; cases hm
  | succ n ih =>
  intro x1 x2 s r_ s_ hm
  replace hm : (oC (m183 s) fun z1 s2 => if x2 < z1 then oX x2 6 (oV (s2.1 257 x2) fun z5 => if (0 : Int) < z5 then oZ ((8 : Int) * x2) fun z8 => oX x2 6 (oV (s2.1 257 x2) fun z10 => oZ (z8 + z10) fun z12 => oZ (z12 - (1 : Int)) fun z14 => oX z14 48 (oV (s2.1 259 z14) fun z16 => if z16 = (-1 : Int) then oZ (x2 + (1 : Int)) fun z19 => m226_4 n x1 z19 s2 else oZ ((8 : Int) * x2) fun z21 => oX x2 6 (oV (s2.1 257 x2) fun z23 => oZ (z21 + z23) fun z25 => oZ (z25 - (1 : Int)) fun z27 => oX z27 48 (oV (s2.1 259 z27) fun z29 => oZ (x1 + z29) fun z31 => oZ (x2 + (1 : Int)) fun z33 => m226_4 n z31 z33 s2)))) else oZ (x2 + (1 : Int)) fun z35 => m226_4 n x1 z35 s2) else some (x1, s2)) = some (r_, s_) := hm
  refine z_iload_n (pc' := 5) hM226 rfl rfl rfl ?_
  refine z_aload_n (pc' := 6) hM226 rfl rfl rfl ?_
  obtain ⟨z1, s2, h3, hm⟩ := o_c hm
  refine z_cv (d := d + 1) (pc' := 9) hM226 rfl hM183 rfl rfl rfl rfl rfl rfl (c183 (d := d) hG h3) rfl ?_
  refine z_cmpge (pc' := 12) (t := 70) hM226 rfl rfl (fun h4 => ?_) (fun h4 => ?_)
  · replace hm := o_t hm h4
    refine z_aload_n (pc' := 13) hM226 rfl rfl rfl ?_
    refine z_fldR (pc' := 16) hM226 rfl (zf_12_64 hG) rfl rfl ?_
    refine z_iload_n (pc' := 17) hM226 rfl rfl rfl ?_
    obtain ⟨h6, hm⟩ := o_x hm
    obtain ⟨z5, ez5, hm⟩ := o_v hm
    refine z_iald (pc' := 18) (zGN hG) hM226 rfl rfl h6 ez5 ?_
    refine z_ifle (pc' := 21) (t := 64) hM226 rfl rfl (fun h7 => ?_) (fun h7 => ?_)
    · replace hm := o_t hm h7
      refine z_aload_n (pc' := 22) hM226 rfl rfl rfl ?_
      refine z_fldR (pc' := 25) hM226 rfl (zf_12_66 hG) rfl rfl ?_
      refine z_bipush (pc' := 27) hM226 rfl rfl rfl ?_
      refine z_iload_n (pc' := 28) hM226 rfl rfl rfl ?_
      obtain ⟨z8, ez8, h9, hm⟩ := o_z hm
      refine z_imul (pc' := 29) hM226 rfl rfl ez8 h9 ?_
      refine z_aload_n (pc' := 30) hM226 rfl rfl rfl ?_
      refine z_fldR (pc' := 33) hM226 rfl (zf_12_64 hG) rfl rfl ?_
      refine z_iload_n (pc' := 34) hM226 rfl rfl rfl ?_
      obtain ⟨h11, hm⟩ := o_x hm
      obtain ⟨z10, ez10, hm⟩ := o_v hm
      refine z_iald (pc' := 35) (zGN hG) hM226 rfl rfl h11 ez10 ?_
      obtain ⟨z12, ez12, h13, hm⟩ := o_z hm
      refine z_iadd (pc' := 36) hM226 rfl rfl ez12 h13 ?_
      refine z_iconst (pc' := 37) hM226 rfl rfl rfl ?_
      obtain ⟨z14, ez14, h15, hm⟩ := o_z hm
      refine z_isub (pc' := 38) hM226 rfl rfl ez14 h15 ?_
      obtain ⟨h17, hm⟩ := o_x hm
      obtain ⟨z16, ez16, hm⟩ := o_v hm
      refine z_iald (pc' := 39) (zGN hG) hM226 rfl rfl h17 ez16 ?_
      refine z_iconst (pc' := 40) hM226 rfl rfl rfl ?_
      refine z_cmpeq (pc' := 43) (t := 64) hM226 rfl rfl (fun h18 => ?_) (fun h18 => ?_)
      · replace hm := o_t hm h18
        obtain ⟨z19, ez19, h20, hm⟩ := o_z hm
        refine z_iinc (pc' := 67) (l' := [some (zr 12 0 209), some (zi x1), some (zi z19)]) hM226 rfl rfl rfl ez19 h20 rfl rfl ?_
        refine z_goto (t := 4) hM226 rfl ?_
        exact ih hm
      · replace hm := o_f hm h18
        refine z_iload_n (pc' := 44) hM226 rfl rfl rfl ?_
        refine z_aload_n (pc' := 45) hM226 rfl rfl rfl ?_
        refine z_fldR (pc' := 48) hM226 rfl (zf_12_66 hG) rfl rfl ?_
        refine z_bipush (pc' := 50) hM226 rfl rfl rfl ?_
        refine z_iload_n (pc' := 51) hM226 rfl rfl rfl ?_
        obtain ⟨z21, ez21, h22, hm⟩ := o_z hm
        refine z_imul (pc' := 52) hM226 rfl rfl ez21 h22 ?_
        refine z_aload_n (pc' := 53) hM226 rfl rfl rfl ?_
        refine z_fldR (pc' := 56) hM226 rfl (zf_12_64 hG) rfl rfl ?_
        refine z_iload_n (pc' := 57) hM226 rfl rfl rfl ?_
        obtain ⟨h24, hm⟩ := o_x hm
        obtain ⟨z23, ez23, hm⟩ := o_v hm
        refine z_iald (pc' := 58) (zGN hG) hM226 rfl rfl h24 ez23 ?_
        obtain ⟨z25, ez25, h26, hm⟩ := o_z hm
        refine z_iadd (pc' := 59) hM226 rfl rfl ez25 h26 ?_
        refine z_iconst (pc' := 60) hM226 rfl rfl rfl ?_
        obtain ⟨z27, ez27, h28, hm⟩ := o_z hm
        refine z_isub (pc' := 61) hM226 rfl rfl ez27 h28 ?_
        obtain ⟨h30, hm⟩ := o_x hm
        obtain ⟨z29, ez29, hm⟩ := o_v hm
        refine z_iald (pc' := 62) (zGN hG) hM226 rfl rfl h30 ez29 ?_
        obtain ⟨z31, ez31, h32, hm⟩ := o_z hm
        refine z_iadd (pc' := 63) hM226 rfl rfl ez31 h32 ?_
        refine z_istore_n (pc' := 64) (l' := [some (zr 12 0 209), some (zi z31), some (zi x2)]) hM226 rfl rfl rfl rfl ?_
        obtain ⟨z33, ez33, h34, hm⟩ := o_z hm
        refine z_iinc (pc' := 67) (l' := [some (zr 12 0 209), some (zi z31), some (zi z33)]) hM226 rfl rfl rfl ez33 h34 rfl rfl ?_
        refine z_goto (t := 4) hM226 rfl ?_
        exact ih hm
    · replace hm := o_f hm h7
      obtain ⟨z35, ez35, h36, hm⟩ := o_z hm
      refine z_iinc (pc' := 67) (l' := [some (zr 12 0 209), some (zi x1), some (zi z35)]) hM226 rfl rfl rfl ez35 h36 rfl rfl ?_
      refine z_goto (t := 4) hM226 rfl ?_
      exact ih hm
  · replace hm := o_f hm h4
    refine z_iload_n (pc' := 71) hM226 rfl rfl rfl ?_
    cases hm
    exact z_retI hM226 rfl rfl ⟨rfl, rfl⟩
def m226  (s : zS) : Option (Int × zS) := m226_4 zFu (0 : Int) (0 : Int) s
theorem c226 {G : aHp} {d : Nat} (hG : zG G) {s : zS} {r_ : Int} {s_ : zS} (hm : m226  s = some (r_, s_)) : Zp G (d + 2) 226 0 [some (zr 12 0 209), none, none] [] s (zRet (some (zi r_)) s_) := by
  replace hm : (m226_4 zFu (0 : Int) (0 : Int) s) = some (r_, s_) := hm
  refine z_iconst (pc' := 1) hM226 rfl rfl rfl ?_
  refine z_istore_n (pc' := 2) (l' := [some (zr 12 0 209), some (zi (0 : Int)), none]) hM226 rfl rfl rfl rfl ?_
  refine z_iconst (pc' := 3) hM226 rfl rfl rfl ?_
  refine z_istore_n (pc' := 4) (l' := [some (zr 12 0 209), some (zi (0 : Int)), some (zi (0 : Int))]) hM226 rfl rfl rfl rfl ?_
  exact c226_4 hG hm
def m227_152 (k96_ : Int → Int → Int → zS → Option (Int × zS)) : Nat → Int → Int → Int → Int → zS → Option (Int × zS)
  | 0, _, _, _, _, _ => none
  | n + 1, x1, x2, x3, x6, s => if x6 < (6 : Int) then oX x6 6 (oV (s.1 257 x6) fun z2 => oX x6 6 (oV (sI s 258 x6 z2) fun s4 => oZ (x6 + (1 : Int)) fun z6 => m227_152 k96_ n x1 x2 x3 z6 s4)) else k96_ x1 x2 x3 s
set_option maxRecDepth 20000 in
theorem c227_152 {G : aHp} {d : Nat} {k96_ : Int → Int → Int → zS → Option (Int × zS)} (hG : zG G) (hk96 : ∀ {x1 : Int} {x2 : Int} {x3 : Int} {d4 d5 d6 : Option zV} {s : zS} {r_ : Int} {s_ : zS}, k96_ x1 x2 x3 s = some (r_, s_) → Zp G (d + 8) 227 96 [some (zr 12 0 209), some (zi x1), some (zi x2), some (zi x3), d4, d5, d6] [] s (zRet (some (zi r_)) s_)) : ∀ {n : Nat} {x1 : Int} {x2 : Int} {x3 : Int} {x6 : Int} {d4 d5 : Option zV} {s : zS} {r_ : Int} {s_ : zS}, m227_152 k96_ n x1 x2 x3 x6 s = some (r_, s_) → Zp G (d + 8) 227 152 [some (zr 12 0 209), some (zi x1), some (zi x2), some (zi x3), d4, d5, some (zi x6)] [] s (zRet (some (zi r_)) s_) := by
  intro n
  induction n with
  | zero => intro x1 x2 x3 x6 d4 d5 s r_ s_ hm; cases hm
  | succ n ih =>
  intro x1 x2 x3 x6 d4 d5 s r_ s_ hm
  replace hm : (if x6 < (6 : Int) then oX x6 6 (oV (s.1 257 x6) fun z2 => oX x6 6 (oV (sI s 258 x6 z2) fun s4 => oZ (x6 + (1 : Int)) fun z6 => m227_152 k96_ n x1 x2 x3 z6 s4)) else k96_ x1 x2 x3 s) = some (r_, s_) := hm
  refine z_iload (pc' := 154) hM227 rfl rfl rfl ?_
  refine z_bipush (pc' := 156) hM227 rfl rfl rfl ?_
  refine z_cmpge (pc' := 159) (t := 179) hM227 rfl rfl (fun h1 => ?_) (fun h1 => ?_)
  · replace hm := o_t hm h1
    refine z_aload_n (pc' := 160) hM227 rfl rfl rfl ?_
    refine z_fldR (pc' := 163) hM227 rfl (zf_12_65 hG) rfl rfl ?_
    refine z_iload (pc' := 165) hM227 rfl rfl rfl ?_
    refine z_aload_n (pc' := 166) hM227 rfl rfl rfl ?_
    refine z_fldR (pc' := 169) hM227 rfl (zf_12_64 hG) rfl rfl ?_
    refine z_iload (pc' := 171) hM227 rfl rfl rfl ?_
    obtain ⟨h3, hm⟩ := o_x hm
    obtain ⟨z2, ez2, hm⟩ := o_v hm
    refine z_iald (pc' := 172) (zGN hG) hM227 rfl rfl h3 ez2 ?_
    obtain ⟨h5, hm⟩ := o_x hm
    obtain ⟨s4, es4, hm⟩ := o_v hm
    refine z_iast (pc' := 173) hM227 rfl rfl h5 es4 ?_
    obtain ⟨z6, ez6, h7, hm⟩ := o_z hm
    refine z_iinc (pc' := 176) (l' := [some (zr 12 0 209), some (zi x1), some (zi x2), some (zi x3), d4, zKd d5, some (zi z6)]) hM227 rfl rfl rfl ez6 h7 rfl rfl ?_
    refine z_goto (t := 152) hM227 rfl ?_
    exact ih hm
  · replace hm := o_f hm h1
    refine z_goto (t := 96) hM227 rfl ?_
    exact hk96 hm
def m227_133 (k96_ : Int → Int → Int → zS → Option (Int × zS)) (x1 : Int) (x2 : Int) (x3 : Int) (x4 : Int) (x5 : Int) (s : zS) : Option (Int × zS) := oC (m224 s) fun z1 s2 => if z1 = (0 : Int) then k96_ x1 x2 x3 s2 else m227_152 k96_ zFu x1 x4 x5 (0 : Int) s2
set_option maxRecDepth 20000 in
theorem c227_133 {G : aHp} {d : Nat} {k96_ : Int → Int → Int → zS → Option (Int × zS)} (hG : zG G) (hk96 : ∀ {x1 : Int} {x2 : Int} {x3 : Int} {d4 d5 d6 : Option zV} {s : zS} {r_ : Int} {s_ : zS}, k96_ x1 x2 x3 s = some (r_, s_) → Zp G (d + 8) 227 96 [some (zr 12 0 209), some (zi x1), some (zi x2), some (zi x3), d4, d5, d6] [] s (zRet (some (zi r_)) s_)) {x1 : Int} {x2 : Int} {x3 : Int} {x4 : Int} {x5 : Int} {d6 : Option zV} {s : zS} {r_ : Int} {s_ : zS} (hm : m227_133 k96_ x1 x2 x3 x4 x5 s = some (r_, s_)) : Zp G (d + 8) 227 133 [some (zr 12 0 209), some (zi x1), some (zi x2), some (zi x3), some (zi x4), some (zi x5), d6] [] s (zRet (some (zi r_)) s_) := by
  replace hm : (oC (m224 s) fun z1 s2 => if z1 = (0 : Int) then k96_ x1 x2 x3 s2 else m227_152 k96_ zFu x1 x4 x5 (0 : Int) s2) = some (r_, s_) := hm
  refine z_aload_n (pc' := 134) hM227 rfl rfl rfl ?_
  obtain ⟨z1, s2, h3, hm⟩ := o_c hm
  refine z_cv (d := d + 7) (pc' := 137) hM227 rfl hM224 rfl rfl rfl rfl rfl rfl (c224 (d := d + 4) hG h3) rfl ?_
  refine z_ifne (pc' := 140) (t := 143) hM227 rfl rfl (fun h4 => ?_) (fun h4 => ?_)
  · replace hm := o_t hm h4
    refine z_goto (t := 96) hM227 rfl ?_
    exact hk96 hm
  · replace hm := o_f hm h4
    refine z_iload (pc' := 145) hM227 rfl rfl rfl ?_
    refine z_istore_n (pc' := 146) (l' := [some (zr 12 0 209), some (zi x1), some (zi x4), some (zi x3), some (zi x4), some (zi x5), d6]) hM227 rfl rfl rfl rfl ?_
    refine z_iload (pc' := 148) hM227 rfl rfl rfl ?_
    refine z_istore_n (pc' := 149) (l' := [some (zr 12 0 209), some (zi x1), some (zi x4), some (zi x5), some (zi x4), some (zi x5), d6]) hM227 rfl rfl rfl rfl ?_
    refine z_iconst (pc' := 150) hM227 rfl rfl rfl ?_
    refine z_istore (pc' := 152) (l' := [some (zr 12 0 209), some (zi x1), some (zi x4), some (zi x5), some (zi x4), some (zi x5), some (zi (0 : Int))]) hM227 rfl rfl rfl rfl ?_
    exact c227_152 hG hk96 hm
def m227_96 : Nat → Int → Int → Int → zS → Option (Int × zS)
  | 0, _, _, _, _ => none
  | n + 1, x1, x2, x3, s => oC (m223 s) fun z1 s2 => if z1 = (0 : Int) then if x1 = (-1 : Int) then some (x2, s2) else oX x1 6 (oV (s2.1 258 x1) fun z6 => oZ (z6 - (1 : Int)) fun z8 => some (z8, s2)) else oC (m225 s2) fun z10 s11 => oC (m226 s11) fun z13 s14 => if z10 < x2 then m227_96 n x1 x2 x3 s14 else if z10 = x2 then if z13 < x3 then m227_133 (m227_96 n) x1 x2 x3 z10 z13 s14 else m227_96 n x1 x2 x3 s14 else m227_133 (m227_96 n) x1 x2 x3 z10 z13 s14
set_option maxRecDepth 20000 in
theorem c227_96 {G : aHp} {d : Nat} (hG : zG G) : ∀ {n : Nat} {x1 : Int} {x2 : Int} {x3 : Int} {d4 d5 d6 : Option zV} {s : zS} {r_ : Int} {s_ : zS}, m227_96 n x1 x2 x3 s = some (r_, s_) → Zp G (d + 8) 227 96 [some (zr 12 0 209), some (zi x1), some (zi x2), some (zi x3), d4, d5, d6] [] s (zRet (some (zi r_)) s_) := by
  intro n
  induction n with
  | zero => intro x1 x2 x3 d4 d5 d6 s r_ s_ hm; cases hm
  | succ n ih =>
  intro x1 x2 x3 d4 d5 d6 s r_ s_ hm
  replace hm : (oC (m223 s) fun z1 s2 => if z1 = (0 : Int) then if x1 = (-1 : Int) then some (x2, s2) else oX x1 6 (oV (s2.1 258 x1) fun z6 => oZ (z6 - (1 : Int)) fun z8 => some (z8, s2)) else oC (m225 s2) fun z10 s11 => oC (m226 s11) fun z13 s14 => if z10 < x2 then m227_96 n x1 x2 x3 s14 else if z10 = x2 then if z13 < x3 then m227_133 (m227_96 n) x1 x2 x3 z10 z13 s14 else m227_96 n x1 x2 x3 s14 else m227_133 (m227_96 n) x1 x2 x3 z10 z13 s14) = some (r_, s_) := hm
  refine z_aload_n (pc' := 97) hM227 rfl rfl rfl ?_
  obtain ⟨z1, s2, h3, hm⟩ := o_c hm
  refine z_cv (d := d + 7) (pc' := 100) hM227 rfl hM223 rfl rfl rfl rfl rfl rfl (c223 (d := d + 5) hG h3) rfl ?_
  refine z_ifeq (pc' := 103) (t := 182) hM227 rfl rfl (fun h4 => ?_) (fun h4 => ?_)
  · replace hm := o_t hm h4
    refine z_iload_n (pc' := 183) hM227 rfl rfl rfl ?_
    refine z_iconst (pc' := 184) hM227 rfl rfl rfl ?_
    refine z_cmpne (pc' := 187) (t := 191) hM227 rfl rfl (fun h5 => ?_) (fun h5 => ?_)
    · replace hm := o_t hm h5
      refine z_iload_n (pc' := 188) hM227 rfl rfl rfl ?_
      refine z_goto (t := 199) hM227 rfl ?_
      cases hm
      exact z_retI hM227 rfl rfl ⟨rfl, rfl⟩
    · replace hm := o_f hm h5
      refine z_aload_n (pc' := 192) hM227 rfl rfl rfl ?_
      refine z_fldR (pc' := 195) hM227 rfl (zf_12_65 hG) rfl rfl ?_
      refine z_iload_n (pc' := 196) hM227 rfl rfl rfl ?_
      obtain ⟨h7, hm⟩ := o_x hm
      obtain ⟨z6, ez6, hm⟩ := o_v hm
      refine z_iald (pc' := 197) (zGN hG) hM227 rfl rfl h7 ez6 ?_
      refine z_iconst (pc' := 198) hM227 rfl rfl rfl ?_
      obtain ⟨z8, ez8, h9, hm⟩ := o_z hm
      refine z_isub (pc' := 199) hM227 rfl rfl ez8 h9 ?_
      cases hm
      exact z_retI hM227 rfl rfl ⟨rfl, rfl⟩
  · replace hm := o_f hm h4
    refine z_aload_n (pc' := 104) hM227 rfl rfl rfl ?_
    obtain ⟨z10, s11, h12, hm⟩ := o_c hm
    refine z_cv (d := d + 7) (pc' := 107) hM227 rfl hM225 rfl rfl rfl rfl rfl rfl (c225 (d := d + 5) hG h12) rfl ?_
    refine z_istore (pc' := 109) (l' := [some (zr 12 0 209), some (zi x1), some (zi x2), some (zi x3), some (zi z10), d5, d6]) hM227 rfl rfl rfl rfl ?_
    refine z_aload_n (pc' := 110) hM227 rfl rfl rfl ?_
    obtain ⟨z13, s14, h15, hm⟩ := o_c hm
    refine z_cv (d := d + 7) (pc' := 113) hM227 rfl hM226 rfl rfl rfl rfl rfl rfl (c226 (d := d + 5) hG h15) rfl ?_
    refine z_istore (pc' := 115) (l' := [some (zr 12 0 209), some (zi x1), some (zi x2), some (zi x3), some (zi z10), some (zi z13), d6]) hM227 rfl rfl rfl rfl ?_
    refine z_iload (pc' := 117) hM227 rfl rfl rfl ?_
    refine z_iload_n (pc' := 118) hM227 rfl rfl rfl ?_
    refine z_cmplt (pc' := 121) (t := 96) hM227 rfl rfl (fun h16 => ?_) (fun h16 => ?_)
    · replace hm := o_t hm h16
      exact ih hm
    · replace hm := o_f hm h16
      refine z_iload (pc' := 123) hM227 rfl rfl rfl ?_
      refine z_iload_n (pc' := 124) hM227 rfl rfl rfl ?_
      refine z_cmpne (pc' := 127) (t := 133) hM227 rfl rfl (fun h17 => ?_) (fun h17 => ?_)
      · replace hm := o_t hm h17
        refine z_iload (pc' := 129) hM227 rfl rfl rfl ?_
        refine z_iload_n (pc' := 130) hM227 rfl rfl rfl ?_
        refine z_cmpge (pc' := 133) (t := 96) hM227 rfl rfl (fun h18 => ?_) (fun h18 => ?_)
        · replace hm := o_t hm h18
          exact c227_133 hG ih hm
        · replace hm := o_f hm h18
          exact ih hm
      · replace hm := o_f hm h17
        exact c227_133 hG ih hm
def m227_66 : Nat → Int → Int → zS → Option (Int × zS)
  | 0, _, _, _ => none
  | n + 1, x1, x2, s => if x2 < (6 : Int) then oX x2 6 (oV (sI s 257 x2 (0 : Int)) fun s2 => oX x2 6 (oV (sI s2 258 x2 (0 : Int)) fun s4 => oZ (x2 + (1 : Int)) fun z6 => m227_66 n x1 z6 s4)) else m227_96 zFu x1 (0 : Int) (0 : Int) s
set_option maxRecDepth 20000 in
theorem c227_66 {G : aHp} {d : Nat} (hG : zG G) : ∀ {n : Nat} {x1 : Int} {x2 : Int} {d3 d4 d5 d6 : Option zV} {s : zS} {r_ : Int} {s_ : zS}, m227_66 n x1 x2 s = some (r_, s_) → Zp G (d + 8) 227 66 [some (zr 12 0 209), some (zi x1), some (zi x2), d3, d4, d5, d6] [] s (zRet (some (zi r_)) s_) := by
  intro n
  induction n with
  | zero => intro x1 x2 d3 d4 d5 d6 s r_ s_ hm; cases hm
  | succ n ih =>
  intro x1 x2 d3 d4 d5 d6 s r_ s_ hm
  replace hm : (if x2 < (6 : Int) then oX x2 6 (oV (sI s 257 x2 (0 : Int)) fun s2 => oX x2 6 (oV (sI s2 258 x2 (0 : Int)) fun s4 => oZ (x2 + (1 : Int)) fun z6 => m227_66 n x1 z6 s4)) else m227_96 zFu x1 (0 : Int) (0 : Int) s) = some (r_, s_) := hm
  refine z_iload_n (pc' := 67) hM227 rfl rfl rfl ?_
  refine z_bipush (pc' := 69) hM227 rfl rfl rfl ?_
  refine z_cmpge (pc' := 72) (t := 92) hM227 rfl rfl (fun h1 => ?_) (fun h1 => ?_)
  · replace hm := o_t hm h1
    refine z_aload_n (pc' := 73) hM227 rfl rfl rfl ?_
    refine z_fldR (pc' := 76) hM227 rfl (zf_12_64 hG) rfl rfl ?_
    refine z_iload_n (pc' := 77) hM227 rfl rfl rfl ?_
    refine z_iconst (pc' := 78) hM227 rfl rfl rfl ?_
    obtain ⟨h3, hm⟩ := o_x hm
    obtain ⟨s2, es2, hm⟩ := o_v hm
    refine z_iast (pc' := 79) hM227 rfl rfl h3 es2 ?_
    refine z_aload_n (pc' := 80) hM227 rfl rfl rfl ?_
    refine z_fldR (pc' := 83) hM227 rfl (zf_12_65 hG) rfl rfl ?_
    refine z_iload_n (pc' := 84) hM227 rfl rfl rfl ?_
    refine z_iconst (pc' := 85) hM227 rfl rfl rfl ?_
    obtain ⟨h5, hm⟩ := o_x hm
    obtain ⟨s4, es4, hm⟩ := o_v hm
    refine z_iast (pc' := 86) hM227 rfl rfl h5 es4 ?_
    obtain ⟨z6, ez6, h7, hm⟩ := o_z hm
    refine z_iinc (pc' := 89) (l' := [some (zr 12 0 209), some (zi x1), some (zi z6), d3, d4, d5, d6]) hM227 rfl rfl rfl ez6 h7 rfl rfl ?_
    refine z_goto (t := 66) hM227 rfl ?_
    exact ih hm
  · replace hm := o_f hm h1
    refine z_iconst (pc' := 93) hM227 rfl rfl rfl ?_
    refine z_istore_n (pc' := 94) (l' := [some (zr 12 0 209), some (zi x1), some (zi (0 : Int)), d3, d4, d5, d6]) hM227 rfl rfl rfl rfl ?_
    refine z_iconst (pc' := 95) hM227 rfl rfl rfl ?_
    refine z_istore_n (pc' := 96) (l' := [some (zr 12 0 209), some (zi x1), some (zi (0 : Int)), some (zi (0 : Int)), d4, d5, d6]) hM227 rfl rfl rfl rfl ?_
    exact c227_96 hG hm
def m227_27 (k17_ : Int → Int → zS → Option (Int × zS)) : Nat → Int → Int → Int → zS → Option (Int × zS)
  | 0, _, _, _, _ => none
  | n + 1, x1, x2, x3, s => oC (m182 s) fun z1 s2 => if x3 < z1 then oZ ((8 : Int) * x2) fun z5 => oZ (z5 + x3) fun z7 => oC (m218 x2 x3 s2) fun z9 s10 => oX z7 48 (oV (sI s10 259 z7 z9) fun s12 => oZ (x3 + (1 : Int)) fun z14 => m227_27 k17_ n x1 x2 z14 s12) else oZ (x2 + (1 : Int)) fun z16 => k17_ x1 z16 s2
set_option maxRecDepth 20000 in
theorem c227_27 {G : aHp} {d : Nat} {k17_ : Int → Int → zS → Option (Int × zS)} (hG : zG G) (hk17 : ∀ {x1 : Int} {x2 : Int} {d3 d4 d5 d6 : Option zV} {s : zS} {r_ : Int} {s_ : zS}, k17_ x1 x2 s = some (r_, s_) → Zp G (d + 8) 227 17 [some (zr 12 0 209), some (zi x1), some (zi x2), d3, d4, d5, d6] [] s (zRet (some (zi r_)) s_)) : ∀ {n : Nat} {x1 : Int} {x2 : Int} {x3 : Int} {d4 d5 d6 : Option zV} {s : zS} {r_ : Int} {s_ : zS}, m227_27 k17_ n x1 x2 x3 s = some (r_, s_) → Zp G (d + 8) 227 27 [some (zr 12 0 209), some (zi x1), some (zi x2), some (zi x3), d4, d5, d6] [] s (zRet (some (zi r_)) s_) := by
  intro n
  induction n with
  | zero => intro x1 x2 x3 d4 d5 d6 s r_ s_ hm; cases hm
  | succ n ih =>
  intro x1 x2 x3 d4 d5 d6 s r_ s_ hm
  replace hm : (oC (m182 s) fun z1 s2 => if x3 < z1 then oZ ((8 : Int) * x2) fun z5 => oZ (z5 + x3) fun z7 => oC (m218 x2 x3 s2) fun z9 s10 => oX z7 48 (oV (sI s10 259 z7 z9) fun s12 => oZ (x3 + (1 : Int)) fun z14 => m227_27 k17_ n x1 x2 z14 s12) else oZ (x2 + (1 : Int)) fun z16 => k17_ x1 z16 s2) = some (r_, s_) := hm
  refine z_iload_n (pc' := 28) hM227 rfl rfl rfl ?_
  refine z_aload_n (pc' := 29) hM227 rfl rfl rfl ?_
  obtain ⟨z1, s2, h3, hm⟩ := o_c hm
  refine z_cv (d := d + 7) (pc' := 32) hM227 rfl hM182 rfl rfl rfl rfl rfl rfl (c182 (d := d + 6) hG h3) rfl ?_
  refine z_cmpge (pc' := 35) (t := 58) hM227 rfl rfl (fun h4 => ?_) (fun h4 => ?_)
  · replace hm := o_t hm h4
    refine z_aload_n (pc' := 36) hM227 rfl rfl rfl ?_
    refine z_fldR (pc' := 39) hM227 rfl (zf_12_66 hG) rfl rfl ?_
    refine z_bipush (pc' := 41) hM227 rfl rfl rfl ?_
    refine z_iload_n (pc' := 42) hM227 rfl rfl rfl ?_
    obtain ⟨z5, ez5, h6, hm⟩ := o_z hm
    refine z_imul (pc' := 43) hM227 rfl rfl ez5 h6 ?_
    refine z_iload_n (pc' := 44) hM227 rfl rfl rfl ?_
    obtain ⟨z7, ez7, h8, hm⟩ := o_z hm
    refine z_iadd (pc' := 45) hM227 rfl rfl ez7 h8 ?_
    refine z_aload_n (pc' := 46) hM227 rfl rfl rfl ?_
    refine z_iload_n (pc' := 47) hM227 rfl rfl rfl ?_
    refine z_iload_n (pc' := 48) hM227 rfl rfl rfl ?_
    obtain ⟨z9, s10, h11, hm⟩ := o_c hm
    refine z_cv (d := d + 7) (pc' := 51) hM227 rfl hM218 rfl rfl rfl rfl rfl rfl (c218 (d := d) hG h11) rfl ?_
    obtain ⟨h13, hm⟩ := o_x hm
    obtain ⟨s12, es12, hm⟩ := o_v hm
    refine z_iast (pc' := 52) hM227 rfl rfl h13 es12 ?_
    obtain ⟨z14, ez14, h15, hm⟩ := o_z hm
    refine z_iinc (pc' := 55) (l' := [some (zr 12 0 209), some (zi x1), some (zi x2), some (zi z14), d4, d5, d6]) hM227 rfl rfl rfl ez14 h15 rfl rfl ?_
    refine z_goto (t := 27) hM227 rfl ?_
    exact ih hm
  · replace hm := o_f hm h4
    obtain ⟨z16, ez16, h17, hm⟩ := o_z hm
    refine z_iinc (pc' := 61) (l' := [some (zr 12 0 209), some (zi x1), some (zi z16), some (zi x3), d4, d5, d6]) hM227 rfl rfl rfl ez16 h17 rfl rfl ?_
    refine z_goto (t := 17) hM227 rfl ?_
    exact hk17 hm
def m227_17 : Nat → Int → Int → zS → Option (Int × zS)
  | 0, _, _, _ => none
  | n + 1, x1, x2, s => oC (m183 s) fun z1 s2 => if x2 < z1 then m227_27 (m227_17 n) zFu x1 x2 (0 : Int) s2 else m227_66 zFu x1 (0 : Int) s2
set_option maxRecDepth 20000 in
theorem c227_17 {G : aHp} {d : Nat} (hG : zG G) : ∀ {n : Nat} {x1 : Int} {x2 : Int} {d3 d4 d5 d6 : Option zV} {s : zS} {r_ : Int} {s_ : zS}, m227_17 n x1 x2 s = some (r_, s_) → Zp G (d + 8) 227 17 [some (zr 12 0 209), some (zi x1), some (zi x2), d3, d4, d5, d6] [] s (zRet (some (zi r_)) s_) := by
  intro n
  induction n with
  | zero => intro x1 x2 d3 d4 d5 d6 s r_ s_ hm; cases hm
  | succ n ih =>
  intro x1 x2 d3 d4 d5 d6 s r_ s_ hm
  replace hm : (oC (m183 s) fun z1 s2 => if x2 < z1 then m227_27 (m227_17 n) zFu x1 x2 (0 : Int) s2 else m227_66 zFu x1 (0 : Int) s2) = some (r_, s_) := hm
  refine z_iload_n (pc' := 18) hM227 rfl rfl rfl ?_
  refine z_aload_n (pc' := 19) hM227 rfl rfl rfl ?_
  obtain ⟨z1, s2, h3, hm⟩ := o_c hm
  refine z_cv (d := d + 7) (pc' := 22) hM227 rfl hM183 rfl rfl rfl rfl rfl rfl (c183 (d := d + 6) hG h3) rfl ?_
  refine z_cmpge (pc' := 25) (t := 64) hM227 rfl rfl (fun h4 => ?_) (fun h4 => ?_)
  · replace hm := o_t hm h4
    refine z_iconst (pc' := 26) hM227 rfl rfl rfl ?_
    refine z_istore_n (pc' := 27) (l' := [some (zr 12 0 209), some (zi x1), some (zi x2), some (zi (0 : Int)), d4, d5, d6]) hM227 rfl rfl rfl rfl ?_
    exact c227_27 hG ih hm
  · replace hm := o_f hm h4
    refine z_iconst (pc' := 65) hM227 rfl rfl rfl ?_
    refine z_istore_n (pc' := 66) (l' := [some (zr 12 0 209), some (zi x1), some (zi (0 : Int)), d3, d4, d5, d6]) hM227 rfl rfl rfl rfl ?_
    exact c227_66 hG hm
def m227 (x1 : Int) (s : zS) : Option (Int × zS) := if x1 = (-1 : Int) then m227_17 zFu x1 (0 : Int) s else oC (m186 x1 s) fun z2 s3 => if z2 = (0 : Int) then some ((-1 : Int), s3) else m227_17 zFu x1 (0 : Int) s3
set_option maxRecDepth 20000 in
theorem c227 {G : aHp} {d : Nat} (hG : zG G) {x1 : Int} {s : zS} {r_ : Int} {s_ : zS} (hm : m227 x1 s = some (r_, s_)) : Zp G (d + 8) 227 0 [some (zr 12 0 209), some (zi x1), none, none, none, none, none] [] s (zRet (some (zi r_)) s_) := by
  replace hm : (if x1 = (-1 : Int) then m227_17 zFu x1 (0 : Int) s else oC (m186 x1 s) fun z2 s3 => if z2 = (0 : Int) then some ((-1 : Int), s3) else m227_17 zFu x1 (0 : Int) s3) = some (r_, s_) := hm
  refine z_iload_n (pc' := 1) hM227 rfl rfl rfl ?_
  refine z_iconst (pc' := 2) hM227 rfl rfl rfl ?_
  refine z_cmpeq (pc' := 5) (t := 15) hM227 rfl rfl (fun h1 => ?_) (fun h1 => ?_)
  · replace hm := o_t hm h1
    refine z_iconst (pc' := 16) hM227 rfl rfl rfl ?_
    refine z_istore_n (pc' := 17) (l' := [some (zr 12 0 209), some (zi x1), some (zi (0 : Int)), none, none, none, none]) hM227 rfl rfl rfl rfl ?_
    exact c227_17 hG hm
  · replace hm := o_f hm h1
    refine z_aload_n (pc' := 6) hM227 rfl rfl rfl ?_
    refine z_iload_n (pc' := 7) hM227 rfl rfl rfl ?_
    obtain ⟨z2, s3, h4, hm⟩ := o_c hm
    refine z_cv (d := d + 7) (pc' := 10) hM227 rfl hM186 rfl rfl rfl rfl rfl rfl (c186 (d := d + 5) hG h4) rfl ?_
    refine z_ifne (pc' := 13) (t := 15) hM227 rfl rfl (fun h5 => ?_) (fun h5 => ?_)
    · replace hm := o_t hm h5
      refine z_iconst (pc' := 14) hM227 rfl rfl rfl ?_
      cases hm
      exact z_retI hM227 rfl rfl ⟨rfl, rfl⟩
    · replace hm := o_f hm h5
      refine z_iconst (pc' := 16) hM227 rfl rfl rfl ?_
      refine z_istore_n (pc' := 17) (l' := [some (zr 12 0 209), some (zi x1), some (zi (0 : Int)), none, none, none, none]) hM227 rfl rfl rfl rfl ?_
      exact c227_17 hG hm
def m228 (x1 : Int) (x2 : Int) (s : zS) : Option (Int × zS) := oC (m214 x1 x2 s) fun z1 s2 => oC (m196 z1 s2) fun z4 s5 => oC (m188 x1 s5) fun z7 s8 => oC (m195 z7 s8) fun z10 s11 => oZ ((3 : Int) * x1) fun z13 => oZ ((10 : Int) + z13) fun z15 => oX z15 37 (oV (sI s11 254 z15 z4) fun s17 => oZ ((3 : Int) * x1) fun z19 => oZ ((10 : Int) + z19) fun z21 => oZ (z21 + (1 : Int)) fun z23 => oX z23 37 (oV (sI s17 254 z23 (1 : Int)) fun s25 => oZ ((3 : Int) * x1) fun z27 => oZ ((10 : Int) + z27) fun z29 => oZ (z29 + (2 : Int)) fun z31 => oX z31 37 (oV (sI s25 254 z31 (0 : Int)) fun s33 => some (z4, s33))))
theorem c228 {G : aHp} {d : Nat} (hG : zG G) {x1 : Int} {x2 : Int} {s : zS} {r_ : Int} {s_ : zS} (hm : m228 x1 x2 s = some (r_, s_)) : Zp G (d + 3) 228 0 [some (zr 12 0 209), some (zi x1), some (zi x2), none] [] s (zRet (some (zi r_)) s_) := by
  replace hm : (oC (m214 x1 x2 s) fun z1 s2 => oC (m196 z1 s2) fun z4 s5 => oC (m188 x1 s5) fun z7 s8 => oC (m195 z7 s8) fun z10 s11 => oZ ((3 : Int) * x1) fun z13 => oZ ((10 : Int) + z13) fun z15 => oX z15 37 (oV (sI s11 254 z15 z4) fun s17 => oZ ((3 : Int) * x1) fun z19 => oZ ((10 : Int) + z19) fun z21 => oZ (z21 + (1 : Int)) fun z23 => oX z23 37 (oV (sI s17 254 z23 (1 : Int)) fun s25 => oZ ((3 : Int) * x1) fun z27 => oZ ((10 : Int) + z27) fun z29 => oZ (z29 + (2 : Int)) fun z31 => oX z31 37 (oV (sI s25 254 z31 (0 : Int)) fun s33 => some (z4, s33))))) = some (r_, s_) := hm
  refine z_aload_n (pc' := 1) hM228 rfl rfl rfl ?_
  refine z_aload_n (pc' := 2) hM228 rfl rfl rfl ?_
  refine z_iload_n (pc' := 3) hM228 rfl rfl rfl ?_
  refine z_iload_n (pc' := 4) hM228 rfl rfl rfl ?_
  obtain ⟨z1, s2, h3, hm⟩ := o_c hm
  refine z_cv (d := d + 2) (pc' := 7) hM228 rfl hM214 rfl rfl rfl rfl rfl rfl (c214 (d := d) hG h3) rfl ?_
  obtain ⟨z4, s5, h6, hm⟩ := o_c hm
  refine z_cv (d := d + 2) (pc' := 10) hM228 rfl hM196 rfl rfl rfl rfl rfl rfl (c196 (d := d + 1) hG h6) rfl ?_
  refine z_istore_n (pc' := 11) (l' := [some (zr 12 0 209), some (zi x1), some (zi x2), some (zi z4)]) hM228 rfl rfl rfl rfl ?_
  refine z_aload_n (pc' := 12) hM228 rfl rfl rfl ?_
  refine z_aload_n (pc' := 13) hM228 rfl rfl rfl ?_
  refine z_iload_n (pc' := 14) hM228 rfl rfl rfl ?_
  obtain ⟨z7, s8, h9, hm⟩ := o_c hm
  refine z_cv (d := d + 2) (pc' := 17) hM228 rfl hM188 rfl rfl rfl rfl rfl rfl (c188 (d := d + 1) hG h9) rfl ?_
  obtain ⟨z10, s11, h12, hm⟩ := o_c hm
  refine z_cvV (d := d + 2) (pc' := 20) hM228 rfl hM195 rfl rfl rfl rfl rfl rfl (c195 (d := d + 1) hG h12) rfl ?_
  refine z_aload_n (pc' := 21) hM228 rfl rfl rfl ?_
  refine z_fldR (pc' := 24) hM228 rfl (zf_12_56 hG) rfl rfl ?_
  refine z_bipush (pc' := 26) hM228 rfl rfl rfl ?_
  refine z_iconst (pc' := 27) hM228 rfl rfl rfl ?_
  refine z_iload_n (pc' := 28) hM228 rfl rfl rfl ?_
  obtain ⟨z13, ez13, h14, hm⟩ := o_z hm
  refine z_imul (pc' := 29) hM228 rfl rfl ez13 h14 ?_
  obtain ⟨z15, ez15, h16, hm⟩ := o_z hm
  refine z_iadd (pc' := 30) hM228 rfl rfl ez15 h16 ?_
  refine z_iload_n (pc' := 31) hM228 rfl rfl rfl ?_
  obtain ⟨h18, hm⟩ := o_x hm
  obtain ⟨s17, es17, hm⟩ := o_v hm
  refine z_iast (pc' := 32) hM228 rfl rfl h18 es17 ?_
  refine z_aload_n (pc' := 33) hM228 rfl rfl rfl ?_
  refine z_fldR (pc' := 36) hM228 rfl (zf_12_56 hG) rfl rfl ?_
  refine z_bipush (pc' := 38) hM228 rfl rfl rfl ?_
  refine z_iconst (pc' := 39) hM228 rfl rfl rfl ?_
  refine z_iload_n (pc' := 40) hM228 rfl rfl rfl ?_
  obtain ⟨z19, ez19, h20, hm⟩ := o_z hm
  refine z_imul (pc' := 41) hM228 rfl rfl ez19 h20 ?_
  obtain ⟨z21, ez21, h22, hm⟩ := o_z hm
  refine z_iadd (pc' := 42) hM228 rfl rfl ez21 h22 ?_
  refine z_iconst (pc' := 43) hM228 rfl rfl rfl ?_
  obtain ⟨z23, ez23, h24, hm⟩ := o_z hm
  refine z_iadd (pc' := 44) hM228 rfl rfl ez23 h24 ?_
  refine z_iconst (pc' := 45) hM228 rfl rfl rfl ?_
  obtain ⟨h26, hm⟩ := o_x hm
  obtain ⟨s25, es25, hm⟩ := o_v hm
  refine z_iast (pc' := 46) hM228 rfl rfl h26 es25 ?_
  refine z_aload_n (pc' := 47) hM228 rfl rfl rfl ?_
  refine z_fldR (pc' := 50) hM228 rfl (zf_12_56 hG) rfl rfl ?_
  refine z_bipush (pc' := 52) hM228 rfl rfl rfl ?_
  refine z_iconst (pc' := 53) hM228 rfl rfl rfl ?_
  refine z_iload_n (pc' := 54) hM228 rfl rfl rfl ?_
  obtain ⟨z27, ez27, h28, hm⟩ := o_z hm
  refine z_imul (pc' := 55) hM228 rfl rfl ez27 h28 ?_
  obtain ⟨z29, ez29, h30, hm⟩ := o_z hm
  refine z_iadd (pc' := 56) hM228 rfl rfl ez29 h30 ?_
  refine z_iconst (pc' := 57) hM228 rfl rfl rfl ?_
  obtain ⟨z31, ez31, h32, hm⟩ := o_z hm
  refine z_iadd (pc' := 58) hM228 rfl rfl ez31 h32 ?_
  refine z_iconst (pc' := 59) hM228 rfl rfl rfl ?_
  obtain ⟨h34, hm⟩ := o_x hm
  obtain ⟨s33, es33, hm⟩ := o_v hm
  refine z_iast (pc' := 60) hM228 rfl rfl h34 es33 ?_
  refine z_iload_n (pc' := 61) hM228 rfl rfl rfl ?_
  cases hm
  exact z_retI hM228 rfl rfl ⟨rfl, rfl⟩
def m229_22 : Nat → Int → Int → Int → zS → Option (Int × zS)
  | 0, _, _, _, _ => none
  | n + 1, x1, x2, x3, s => oC (m183 s) fun z1 s2 => if x3 < z1 then oC (m215 x3 s2) fun z5 s6 => if z5 = (0 : Int) then oZ (x3 + (1 : Int)) fun z9 => m229_22 n x1 x2 z9 s6 else oC (m228 x3 x1 s6) fun z11 s12 => oC (m218 x3 z11 s12) fun z14 s15 => if z14 = (-1 : Int) then oZ (x3 + (1 : Int)) fun z18 => m229_22 n x1 x2 z18 s15 else oZ (x2 + (1 : Int)) fun z20 => oZ (x3 + (1 : Int)) fun z22 => m229_22 n x1 z20 z22 s15 else oC (m204 s2) fun z24 s25 => some (x2, s25)
theorem c229_22 {G : aHp} {d : Nat} (hG : zG G) : ∀ {n : Nat} {x1 : Int} {x2 : Int} {x3 : Int} {s : zS} {r_ : Int} {s_ : zS}, m229_22 n x1 x2 x3 s = some (r_, s_) → Zp G (d + 8) 229 22 [some (zr 12 0 209), some (zi x1), some (zi x2), some (zi x3)] [] s (zRet (some (zi r_)) s_) := by
  intro n
  induction n with
  | zero => intro x1 x2 x3 s r_ s_ hm; cases hm
  | succ n ih =>
  intro x1 x2 x3 s r_ s_ hm
  replace hm : (oC (m183 s) fun z1 s2 => if x3 < z1 then oC (m215 x3 s2) fun z5 s6 => if z5 = (0 : Int) then oZ (x3 + (1 : Int)) fun z9 => m229_22 n x1 x2 z9 s6 else oC (m228 x3 x1 s6) fun z11 s12 => oC (m218 x3 z11 s12) fun z14 s15 => if z14 = (-1 : Int) then oZ (x3 + (1 : Int)) fun z18 => m229_22 n x1 x2 z18 s15 else oZ (x2 + (1 : Int)) fun z20 => oZ (x3 + (1 : Int)) fun z22 => m229_22 n x1 z20 z22 s15 else oC (m204 s2) fun z24 s25 => some (x2, s25)) = some (r_, s_) := hm
  refine z_iload_n (pc' := 23) hM229 rfl rfl rfl ?_
  refine z_aload_n (pc' := 24) hM229 rfl rfl rfl ?_
  obtain ⟨z1, s2, h3, hm⟩ := o_c hm
  refine z_cv (d := d + 7) (pc' := 27) hM229 rfl hM183 rfl rfl rfl rfl rfl rfl (c183 (d := d + 6) hG h3) rfl ?_
  refine z_cmpge (pc' := 30) (t := 62) hM229 rfl rfl (fun h4 => ?_) (fun h4 => ?_)
  · replace hm := o_t hm h4
    refine z_aload_n (pc' := 31) hM229 rfl rfl rfl ?_
    refine z_iload_n (pc' := 32) hM229 rfl rfl rfl ?_
    obtain ⟨z5, s6, h7, hm⟩ := o_c hm
    refine z_cv (d := d + 7) (pc' := 35) hM229 rfl hM215 rfl rfl rfl rfl rfl rfl (c215 (d := d + 4) hG h7) rfl ?_
    refine z_ifeq (pc' := 38) (t := 56) hM229 rfl rfl (fun h8 => ?_) (fun h8 => ?_)
    · replace hm := o_t hm h8
      obtain ⟨z9, ez9, h10, hm⟩ := o_z hm
      refine z_iinc (pc' := 59) (l' := [some (zr 12 0 209), some (zi x1), some (zi x2), some (zi z9)]) hM229 rfl rfl rfl ez9 h10 rfl rfl ?_
      refine z_goto (t := 22) hM229 rfl ?_
      exact ih hm
    · replace hm := o_f hm h8
      refine z_aload_n (pc' := 39) hM229 rfl rfl rfl ?_
      refine z_iload_n (pc' := 40) hM229 rfl rfl rfl ?_
      refine z_aload_n (pc' := 41) hM229 rfl rfl rfl ?_
      refine z_iload_n (pc' := 42) hM229 rfl rfl rfl ?_
      refine z_iload_n (pc' := 43) hM229 rfl rfl rfl ?_
      obtain ⟨z11, s12, h13, hm⟩ := o_c hm
      refine z_cv (d := d + 7) (pc' := 46) hM229 rfl hM228 rfl rfl rfl rfl rfl rfl (c228 (d := d + 4) hG h13) rfl ?_
      obtain ⟨z14, s15, h16, hm⟩ := o_c hm
      refine z_cv (d := d + 7) (pc' := 49) hM229 rfl hM218 rfl rfl rfl rfl rfl rfl (c218 (d := d) hG h16) rfl ?_
      refine z_iconst (pc' := 50) hM229 rfl rfl rfl ?_
      refine z_cmpeq (pc' := 53) (t := 56) hM229 rfl rfl (fun h17 => ?_) (fun h17 => ?_)
      · replace hm := o_t hm h17
        obtain ⟨z18, ez18, h19, hm⟩ := o_z hm
        refine z_iinc (pc' := 59) (l' := [some (zr 12 0 209), some (zi x1), some (zi x2), some (zi z18)]) hM229 rfl rfl rfl ez18 h19 rfl rfl ?_
        refine z_goto (t := 22) hM229 rfl ?_
        exact ih hm
      · replace hm := o_f hm h17
        obtain ⟨z20, ez20, h21, hm⟩ := o_z hm
        refine z_iinc (pc' := 56) (l' := [some (zr 12 0 209), some (zi x1), some (zi z20), some (zi x3)]) hM229 rfl rfl rfl ez20 h21 rfl rfl ?_
        obtain ⟨z22, ez22, h23, hm⟩ := o_z hm
        refine z_iinc (pc' := 59) (l' := [some (zr 12 0 209), some (zi x1), some (zi z20), some (zi z22)]) hM229 rfl rfl rfl ez22 h23 rfl rfl ?_
        refine z_goto (t := 22) hM229 rfl ?_
        exact ih hm
  · replace hm := o_f hm h4
    refine z_aload_n (pc' := 63) hM229 rfl rfl rfl ?_
    obtain ⟨z24, s25, h26, hm⟩ := o_c hm
    refine z_cvV (d := d + 7) (pc' := 66) hM229 rfl hM204 rfl rfl rfl rfl rfl rfl (c204 (d := d + 6) hG h26) rfl ?_
    refine z_iload_n (pc' := 67) hM229 rfl rfl rfl ?_
    cases hm
    exact z_retI hM229 rfl rfl ⟨rfl, rfl⟩
def m229 (x1 : Int) (s : zS) : Option (Int × zS) := oC (m150 x1 (0 : Int) (2 : Int) s) fun z1 s2 => if z1 = (0 : Int) then some ((-1 : Int), s2) else oC (m203 s2) fun z5 s6 => m229_22 zFu x1 (0 : Int) (0 : Int) s6
theorem c229 {G : aHp} {d : Nat} (hG : zG G) {x1 : Int} {s : zS} {r_ : Int} {s_ : zS} (hm : m229 x1 s = some (r_, s_)) : Zp G (d + 8) 229 0 [some (zr 12 0 209), some (zi x1), none, none] [] s (zRet (some (zi r_)) s_) := by
  replace hm : (oC (m150 x1 (0 : Int) (2 : Int) s) fun z1 s2 => if z1 = (0 : Int) then some ((-1 : Int), s2) else oC (m203 s2) fun z5 s6 => m229_22 zFu x1 (0 : Int) (0 : Int) s6) = some (r_, s_) := hm
  refine z_iload_n (pc' := 1) hM229 rfl rfl rfl ?_
  refine z_i2l (pc' := 2) hM229 rfl rfl ?_
  refine z_lconst (pc' := 3) (x := (0 : Int)) hM229 rfl rfl rfl rfl ?_
  refine z_ldc2 (pc' := 6) hM229 rfl rfl rfl ?_
  obtain ⟨z1, s2, h3, hm⟩ := o_c hm
  refine z_cs (d := d + 7) (pc' := 9) hM229 rfl hM150 rfl rfl rfl rfl (c150 (d := d + 6) hG h3) rfl ?_
  refine z_ifne (pc' := 12) (t := 14) hM229 rfl rfl (fun h4 => ?_) (fun h4 => ?_)
  · replace hm := o_t hm h4
    refine z_iconst (pc' := 13) hM229 rfl rfl rfl ?_
    cases hm
    exact z_retI hM229 rfl rfl ⟨rfl, rfl⟩
  · replace hm := o_f hm h4
    refine z_iconst (pc' := 15) hM229 rfl rfl rfl ?_
    refine z_istore_n (pc' := 16) (l' := [some (zr 12 0 209), some (zi x1), some (zi (0 : Int)), none]) hM229 rfl rfl rfl rfl ?_
    refine z_aload_n (pc' := 17) hM229 rfl rfl rfl ?_
    obtain ⟨z5, s6, h7, hm⟩ := o_c hm
    refine z_cvV (d := d + 7) (pc' := 20) hM229 rfl hM203 rfl rfl rfl rfl rfl rfl (c203 (d := d + 6) hG h7) rfl ?_
    refine z_iconst (pc' := 21) hM229 rfl rfl rfl ?_
    refine z_istore_n (pc' := 22) (l' := [some (zr 12 0 209), some (zi x1), some (zi (0 : Int)), some (zi (0 : Int))]) hM229 rfl rfl rfl rfl ?_
    exact c229_22 hG hm
def m230 (x1 : Int) (x2 : Int) (x3 : Int) (s : zS) : Option (Int × zS) := oC (m186 x1 s) fun z1 s2 => if z1 = (0 : Int) then some ((-1 : Int), s2) else oC (m205 x2 (0 : Int) (60 : Int) s2) fun z5 s6 => if z5 = (0 : Int) then some ((-1 : Int), s6) else oC (m150 x3 (0 : Int) (2 : Int) s6) fun z9 s10 => if z9 = (0 : Int) then some ((-1 : Int), s10) else oC (m203 s10) fun z13 s14 => oC (m202 x2 s14) fun z16 s17 => if x3 = (0 : Int) then oC (m189 x1 s17) fun z20 s21 => oC (m204 s21) fun z23 s24 => some (z20, s24) else if x3 = (1 : Int) then oC (m190 x1 s17) fun z27 s28 => oC (m204 s28) fun z30 s31 => some (z27, s31) else oC (m188 x1 s17) fun z33 s34 => oC (m187 z33 s34) fun z36 s37 => oC (m204 s37) fun z39 s40 => some (z36, s40)
theorem c230 {G : aHp} {d : Nat} (hG : zG G) {x1 : Int} {x2 : Int} {x3 : Int} {s : zS} {r_ : Int} {s_ : zS} (hm : m230 x1 x2 x3 s = some (r_, s_)) : Zp G (d + 9) 230 0 [some (zr 12 0 209), some (zi x1), some (zi x2), some (zi x3), none] [] s (zRet (some (zi r_)) s_) := by
  replace hm : (oC (m186 x1 s) fun z1 s2 => if z1 = (0 : Int) then some ((-1 : Int), s2) else oC (m205 x2 (0 : Int) (60 : Int) s2) fun z5 s6 => if z5 = (0 : Int) then some ((-1 : Int), s6) else oC (m150 x3 (0 : Int) (2 : Int) s6) fun z9 s10 => if z9 = (0 : Int) then some ((-1 : Int), s10) else oC (m203 s10) fun z13 s14 => oC (m202 x2 s14) fun z16 s17 => if x3 = (0 : Int) then oC (m189 x1 s17) fun z20 s21 => oC (m204 s21) fun z23 s24 => some (z20, s24) else if x3 = (1 : Int) then oC (m190 x1 s17) fun z27 s28 => oC (m204 s28) fun z30 s31 => some (z27, s31) else oC (m188 x1 s17) fun z33 s34 => oC (m187 z33 s34) fun z36 s37 => oC (m204 s37) fun z39 s40 => some (z36, s40)) = some (r_, s_) := hm
  refine z_aload_n (pc' := 1) hM230 rfl rfl rfl ?_
  refine z_iload_n (pc' := 2) hM230 rfl rfl rfl ?_
  obtain ⟨z1, s2, h3, hm⟩ := o_c hm
  refine z_cv (d := d + 8) (pc' := 5) hM230 rfl hM186 rfl rfl rfl rfl rfl rfl (c186 (d := d + 6) hG h3) rfl ?_
  refine z_ifeq (pc' := 8) (t := 31) hM230 rfl rfl (fun h4 => ?_) (fun h4 => ?_)
  · replace hm := o_t hm h4
    refine z_iconst (pc' := 32) hM230 rfl rfl rfl ?_
    cases hm
    exact z_retI hM230 rfl rfl ⟨rfl, rfl⟩
  · replace hm := o_f hm h4
    refine z_aload_n (pc' := 9) hM230 rfl rfl rfl ?_
    refine z_iload_n (pc' := 10) hM230 rfl rfl rfl ?_
    refine z_iconst (pc' := 11) hM230 rfl rfl rfl ?_
    refine z_bipush (pc' := 13) hM230 rfl rfl rfl ?_
    obtain ⟨z5, s6, h7, hm⟩ := o_c hm
    refine z_cv (d := d + 8) (pc' := 16) hM230 rfl hM205 rfl rfl rfl rfl rfl rfl (c205 (d := d + 6) hG h7) rfl ?_
    refine z_ifeq (pc' := 19) (t := 31) hM230 rfl rfl (fun h8 => ?_) (fun h8 => ?_)
    · replace hm := o_t hm h8
      refine z_iconst (pc' := 32) hM230 rfl rfl rfl ?_
      cases hm
      exact z_retI hM230 rfl rfl ⟨rfl, rfl⟩
    · replace hm := o_f hm h8
      refine z_iload_n (pc' := 20) hM230 rfl rfl rfl ?_
      refine z_i2l (pc' := 21) hM230 rfl rfl ?_
      refine z_lconst (pc' := 22) (x := (0 : Int)) hM230 rfl rfl rfl rfl ?_
      refine z_ldc2 (pc' := 25) hM230 rfl rfl rfl ?_
      obtain ⟨z9, s10, h11, hm⟩ := o_c hm
      refine z_cs (d := d + 8) (pc' := 28) hM230 rfl hM150 rfl rfl rfl rfl (c150 (d := d + 7) hG h11) rfl ?_
      refine z_ifne (pc' := 31) (t := 33) hM230 rfl rfl (fun h12 => ?_) (fun h12 => ?_)
      · replace hm := o_t hm h12
        refine z_iconst (pc' := 32) hM230 rfl rfl rfl ?_
        cases hm
        exact z_retI hM230 rfl rfl ⟨rfl, rfl⟩
      · replace hm := o_f hm h12
        refine z_aload_n (pc' := 34) hM230 rfl rfl rfl ?_
        obtain ⟨z13, s14, h15, hm⟩ := o_c hm
        refine z_cvV (d := d + 8) (pc' := 37) hM230 rfl hM203 rfl rfl rfl rfl rfl rfl (c203 (d := d + 7) hG h15) rfl ?_
        refine z_aload_n (pc' := 38) hM230 rfl rfl rfl ?_
        refine z_iload_n (pc' := 39) hM230 rfl rfl rfl ?_
        obtain ⟨z16, s17, h18, hm⟩ := o_c hm
        refine z_cv (d := d + 8) (pc' := 42) hM230 rfl hM202 rfl rfl rfl rfl rfl rfl (c202 (d := d) hG h18) rfl ?_
        refine z_pop (pc' := 43) hM230 rfl rfl ?_
        refine z_iload_n (pc' := 44) hM230 rfl rfl rfl ?_
        refine z_ifne (pc' := 47) (t := 55) hM230 rfl rfl (fun h19 => ?_) (fun h19 => ?_)
        · replace hm := o_t hm h19
          refine z_aload_n (pc' := 48) hM230 rfl rfl rfl ?_
          refine z_iload_n (pc' := 49) hM230 rfl rfl rfl ?_
          obtain ⟨z20, s21, h22, hm⟩ := o_c hm
          refine z_cv (d := d + 8) (pc' := 52) hM230 rfl hM189 rfl rfl rfl rfl rfl rfl (c189 (d := d + 7) hG h22) rfl ?_
          refine z_goto (t := 77) hM230 rfl ?_
          refine z_istore (pc' := 79) (l' := [some (zr 12 0 209), some (zi x1), some (zi x2), some (zi x3), some (zi z20)]) hM230 rfl rfl rfl rfl ?_
          refine z_aload_n (pc' := 80) hM230 rfl rfl rfl ?_
          obtain ⟨z23, s24, h25, hm⟩ := o_c hm
          refine z_cvV (d := d + 8) (pc' := 83) hM230 rfl hM204 rfl rfl rfl rfl rfl rfl (c204 (d := d + 7) hG h25) rfl ?_
          refine z_iload (pc' := 85) hM230 rfl rfl rfl ?_
          cases hm
          exact z_retI hM230 rfl rfl ⟨rfl, rfl⟩
        · replace hm := o_f hm h19
          refine z_iload_n (pc' := 56) hM230 rfl rfl rfl ?_
          refine z_iconst (pc' := 57) hM230 rfl rfl rfl ?_
          refine z_cmpne (pc' := 60) (t := 68) hM230 rfl rfl (fun h26 => ?_) (fun h26 => ?_)
          · replace hm := o_t hm h26
            refine z_aload_n (pc' := 61) hM230 rfl rfl rfl ?_
            refine z_iload_n (pc' := 62) hM230 rfl rfl rfl ?_
            obtain ⟨z27, s28, h29, hm⟩ := o_c hm
            refine z_cv (d := d + 8) (pc' := 65) hM230 rfl hM190 rfl rfl rfl rfl rfl rfl (c190 (d := d + 7) hG h29) rfl ?_
            refine z_goto (t := 77) hM230 rfl ?_
            refine z_istore (pc' := 79) (l' := [some (zr 12 0 209), some (zi x1), some (zi x2), some (zi x3), some (zi z27)]) hM230 rfl rfl rfl rfl ?_
            refine z_aload_n (pc' := 80) hM230 rfl rfl rfl ?_
            obtain ⟨z30, s31, h32, hm⟩ := o_c hm
            refine z_cvV (d := d + 8) (pc' := 83) hM230 rfl hM204 rfl rfl rfl rfl rfl rfl (c204 (d := d + 7) hG h32) rfl ?_
            refine z_iload (pc' := 85) hM230 rfl rfl rfl ?_
            cases hm
            exact z_retI hM230 rfl rfl ⟨rfl, rfl⟩
          · replace hm := o_f hm h26
            refine z_aload_n (pc' := 69) hM230 rfl rfl rfl ?_
            refine z_aload_n (pc' := 70) hM230 rfl rfl rfl ?_
            refine z_iload_n (pc' := 71) hM230 rfl rfl rfl ?_
            obtain ⟨z33, s34, h35, hm⟩ := o_c hm
            refine z_cv (d := d + 8) (pc' := 74) hM230 rfl hM188 rfl rfl rfl rfl rfl rfl (c188 (d := d + 7) hG h35) rfl ?_
            obtain ⟨z36, s37, h38, hm⟩ := o_c hm
            refine z_cv (d := d + 8) (pc' := 77) hM230 rfl hM187 rfl rfl rfl rfl rfl rfl (c187 (d := d + 7) hG h38) rfl ?_
            refine z_istore (pc' := 79) (l' := [some (zr 12 0 209), some (zi x1), some (zi x2), some (zi x3), some (zi z36)]) hM230 rfl rfl rfl rfl ?_
            refine z_aload_n (pc' := 80) hM230 rfl rfl rfl ?_
            obtain ⟨z39, s40, h41, hm⟩ := o_c hm
            refine z_cvV (d := d + 8) (pc' := 83) hM230 rfl hM204 rfl rfl rfl rfl rfl rfl (c204 (d := d + 7) hG h41) rfl ?_
            refine z_iload (pc' := 85) hM230 rfl rfl rfl ?_
            cases hm
            exact z_retI hM230 rfl rfl ⟨rfl, rfl⟩
def m231_53 (x1 : Int) (x2 : Int) (s : zS) : Option (Int × zS) := oC (m193 x1 s) fun z1 s2 => oC (m204 s2) fun z4 s5 => if z1 = (0 : Int) then some ((-1 : Int), s5) else some (x2, s5)
theorem c231_53 {G : aHp} {d : Nat} (hG : zG G) {x1 : Int} {x2 : Int} {d3 : Option zV} {s : zS} {r_ : Int} {s_ : zS} (hm : m231_53 x1 x2 s = some (r_, s_)) : Zp G (d + 8) 231 53 [some (zr 12 0 209), some (zi x1), some (zi x2), d3] [] s (zRet (some (zi r_)) s_) := by
  replace hm : (oC (m193 x1 s) fun z1 s2 => oC (m204 s2) fun z4 s5 => if z1 = (0 : Int) then some ((-1 : Int), s5) else some (x2, s5)) = some (r_, s_) := hm
  refine z_aload_n (pc' := 54) hM231 rfl rfl rfl ?_
  refine z_iload_n (pc' := 55) hM231 rfl rfl rfl ?_
  obtain ⟨z1, s2, h3, hm⟩ := o_c hm
  refine z_cv (d := d + 7) (pc' := 58) hM231 rfl hM193 rfl rfl rfl rfl rfl rfl (c193 (d := d + 5) hG h3) rfl ?_
  refine z_istore_n (pc' := 59) (l' := [some (zr 12 0 209), some (zi x1), some (zi x2), some (zi z1)]) hM231 rfl rfl rfl rfl ?_
  refine z_aload_n (pc' := 60) hM231 rfl rfl rfl ?_
  obtain ⟨z4, s5, h6, hm⟩ := o_c hm
  refine z_cvV (d := d + 7) (pc' := 63) hM231 rfl hM204 rfl rfl rfl rfl rfl rfl (c204 (d := d + 6) hG h6) rfl ?_
  refine z_iload_n (pc' := 64) hM231 rfl rfl rfl ?_
  refine z_ifeq (pc' := 67) (t := 71) hM231 rfl rfl (fun h7 => ?_) (fun h7 => ?_)
  · replace hm := o_t hm h7
    refine z_iconst (pc' := 72) hM231 rfl rfl rfl ?_
    cases hm
    exact z_retI hM231 rfl rfl ⟨rfl, rfl⟩
  · replace hm := o_f hm h7
    refine z_iload_n (pc' := 68) hM231 rfl rfl rfl ?_
    refine z_goto (t := 72) hM231 rfl ?_
    cases hm
    exact z_retI hM231 rfl rfl ⟨rfl, rfl⟩
def m231_16 : Nat → Int → Int → zS → Option (Int × zS)
  | 0, _, _, _ => none
  | n + 1, x1, x2, s => oC (m193 x1 s) fun z1 s2 => if z1 = (0 : Int) then if x2 < (60 : Int) then oX (0 : Int) 37 (oV (s2.1 254 (0 : Int)) fun z6 => if z6 < (999 : Int) then oC (m201 (0 : Int) s2) fun z9 s10 => oZ (x2 + (1 : Int)) fun z12 => m231_16 n x1 z12 s10 else m231_53 x1 x2 s2) else m231_53 x1 x2 s2 else m231_53 x1 x2 s2
theorem c231_16 {G : aHp} {d : Nat} (hG : zG G) : ∀ {n : Nat} {x1 : Int} {x2 : Int} {d3 : Option zV} {s : zS} {r_ : Int} {s_ : zS}, m231_16 n x1 x2 s = some (r_, s_) → Zp G (d + 8) 231 16 [some (zr 12 0 209), some (zi x1), some (zi x2), d3] [] s (zRet (some (zi r_)) s_) := by
  intro n
  induction n with
  | zero => intro x1 x2 d3 s r_ s_ hm; cases hm
  | succ n ih =>
  intro x1 x2 d3 s r_ s_ hm
  replace hm : (oC (m193 x1 s) fun z1 s2 => if z1 = (0 : Int) then if x2 < (60 : Int) then oX (0 : Int) 37 (oV (s2.1 254 (0 : Int)) fun z6 => if z6 < (999 : Int) then oC (m201 (0 : Int) s2) fun z9 s10 => oZ (x2 + (1 : Int)) fun z12 => m231_16 n x1 z12 s10 else m231_53 x1 x2 s2) else m231_53 x1 x2 s2 else m231_53 x1 x2 s2) = some (r_, s_) := hm
  refine z_aload_n (pc' := 17) hM231 rfl rfl rfl ?_
  refine z_iload_n (pc' := 18) hM231 rfl rfl rfl ?_
  obtain ⟨z1, s2, h3, hm⟩ := o_c hm
  refine z_cv (d := d + 7) (pc' := 21) hM231 rfl hM193 rfl rfl rfl rfl rfl rfl (c193 (d := d + 5) hG h3) rfl ?_
  refine z_ifne (pc' := 24) (t := 53) hM231 rfl rfl (fun h4 => ?_) (fun h4 => ?_)
  · replace hm := o_t hm h4
    refine z_iload_n (pc' := 25) hM231 rfl rfl rfl ?_
    refine z_bipush (pc' := 27) hM231 rfl rfl rfl ?_
    refine z_cmpge (pc' := 30) (t := 53) hM231 rfl rfl (fun h5 => ?_) (fun h5 => ?_)
    · replace hm := o_t hm h5
      refine z_aload_n (pc' := 31) hM231 rfl rfl rfl ?_
      refine z_fldR (pc' := 34) hM231 rfl (zf_12_56 hG) rfl rfl ?_
      refine z_iconst (pc' := 35) hM231 rfl rfl rfl ?_
      obtain ⟨h7, hm⟩ := o_x hm
      obtain ⟨z6, ez6, hm⟩ := o_v hm
      refine z_iald (pc' := 36) (zGN hG) hM231 rfl rfl h7 ez6 ?_
      refine z_sipush (pc' := 39) hM231 rfl rfl rfl ?_
      refine z_cmpge (pc' := 42) (t := 53) hM231 rfl rfl (fun h8 => ?_) (fun h8 => ?_)
      · replace hm := o_t hm h8
        refine z_aload_n (pc' := 43) hM231 rfl rfl rfl ?_
        refine z_iconst (pc' := 44) hM231 rfl rfl rfl ?_
        obtain ⟨z9, s10, h11, hm⟩ := o_c hm
        refine z_cvV (d := d + 7) (pc' := 47) hM231 rfl hM201 rfl rfl rfl rfl rfl rfl (c201 (d := d) hG h11) rfl ?_
        obtain ⟨z12, ez12, h13, hm⟩ := o_z hm
        refine z_iinc (pc' := 50) (l' := [some (zr 12 0 209), some (zi x1), some (zi z12), d3]) hM231 rfl rfl rfl ez12 h13 rfl rfl ?_
        refine z_goto (t := 16) hM231 rfl ?_
        exact ih hm
      · replace hm := o_f hm h8
        exact c231_53 hG hm
    · replace hm := o_f hm h5
      exact c231_53 hG hm
  · replace hm := o_f hm h4
    exact c231_53 hG hm
def m231 (x1 : Int) (s : zS) : Option (Int × zS) := oC (m186 x1 s) fun z1 s2 => if z1 = (0 : Int) then some ((-1 : Int), s2) else oC (m203 s2) fun z5 s6 => m231_16 zFu x1 (0 : Int) s6
theorem c231 {G : aHp} {d : Nat} (hG : zG G) {x1 : Int} {s : zS} {r_ : Int} {s_ : zS} (hm : m231 x1 s = some (r_, s_)) : Zp G (d + 8) 231 0 [some (zr 12 0 209), some (zi x1), none, none] [] s (zRet (some (zi r_)) s_) := by
  replace hm : (oC (m186 x1 s) fun z1 s2 => if z1 = (0 : Int) then some ((-1 : Int), s2) else oC (m203 s2) fun z5 s6 => m231_16 zFu x1 (0 : Int) s6) = some (r_, s_) := hm
  refine z_aload_n (pc' := 1) hM231 rfl rfl rfl ?_
  refine z_iload_n (pc' := 2) hM231 rfl rfl rfl ?_
  obtain ⟨z1, s2, h3, hm⟩ := o_c hm
  refine z_cv (d := d + 7) (pc' := 5) hM231 rfl hM186 rfl rfl rfl rfl rfl rfl (c186 (d := d + 5) hG h3) rfl ?_
  refine z_ifne (pc' := 8) (t := 10) hM231 rfl rfl (fun h4 => ?_) (fun h4 => ?_)
  · replace hm := o_t hm h4
    refine z_iconst (pc' := 9) hM231 rfl rfl rfl ?_
    cases hm
    exact z_retI hM231 rfl rfl ⟨rfl, rfl⟩
  · replace hm := o_f hm h4
    refine z_iconst (pc' := 11) hM231 rfl rfl rfl ?_
    refine z_istore_n (pc' := 12) (l' := [some (zr 12 0 209), some (zi x1), some (zi (0 : Int)), none]) hM231 rfl rfl rfl rfl ?_
    refine z_aload_n (pc' := 13) hM231 rfl rfl rfl ?_
    obtain ⟨z5, s6, h7, hm⟩ := o_c hm
    refine z_cvV (d := d + 7) (pc' := 16) hM231 rfl hM203 rfl rfl rfl rfl rfl rfl (c203 (d := d + 6) hG h7) rfl ?_
    exact c231_16 hG hm
def m232 (x1 : Int) (s : zS) : Option (Int × zS) := oX x1 6 (oV (s.1 211 x1) fun z1 => oZ (z1 + (1 : Int)) fun z3 => oX x1 6 (oV (sI s 211 x1 z3) fun s5 => some ((-1 : Int), s5)))
theorem c232 {G : aHp} {d : Nat} (hG : zG G) {x1 : Int} {s : zS} {r_ : Int} {s_ : zS} (hm : m232 x1 s = some (r_, s_)) : Zp G (d + 1) 232 0 [some (zr 12 0 209), some (zi x1)] [] s (zRet (some (zi r_)) s_) := by
  replace hm : (oX x1 6 (oV (s.1 211 x1) fun z1 => oZ (z1 + (1 : Int)) fun z3 => oX x1 6 (oV (sI s 211 x1 z3) fun s5 => some ((-1 : Int), s5)))) = some (r_, s_) := hm
  refine z_aload_n (pc' := 1) hM232 rfl rfl rfl ?_
  refine z_fldR (pc' := 4) hM232 rfl (zf_12_9 hG) rfl rfl ?_
  refine z_iload_n (pc' := 5) hM232 rfl rfl rfl ?_
  refine z_dup2A (pc' := 6) hM232 rfl rfl ?_
  obtain ⟨h2, hm⟩ := o_x hm
  obtain ⟨z1, ez1, hm⟩ := o_v hm
  refine z_iald (pc' := 7) (zGN hG) hM232 rfl rfl h2 ez1 ?_
  refine z_iconst (pc' := 8) hM232 rfl rfl rfl ?_
  obtain ⟨z3, ez3, h4, hm⟩ := o_z hm
  refine z_iadd (pc' := 9) hM232 rfl rfl ez3 h4 ?_
  obtain ⟨h6, hm⟩ := o_x hm
  obtain ⟨s5, es5, hm⟩ := o_v hm
  refine z_iast (pc' := 10) hM232 rfl rfl h6 es5 ?_
  refine z_iconst (pc' := 11) hM232 rfl rfl rfl ?_
  cases hm
  exact z_retI hM232 rfl rfl ⟨rfl, rfl⟩
def m233_96 : Nat → Int → Int → zS → Option (Int × zS)
  | 0, _, _, _ => none
  | n + 1, x1, x3, s => if x3 < x1 then oX x3 1600 (oV (s.1 210 x3) fun z2 => oX x3 32 (oV (sI s 260 x3 z2) fun s4 => oZ (x3 + (1 : Int)) fun z6 => m233_96 n x1 z6 s4)) else oN (2 : Int) (oZ (Int.tdiv x1 (2 : Int)) fun z8 => oV (sI s 209 67 z8) fun s10 => oV (s10.1 209 67) fun z11 => some (z11, s10))
theorem c233_96 {G : aHp} {d : Nat} (hG : zG G) : ∀ {n : Nat} {x1 : Int} {x3 : Int} {d2 : Option zV} {s : zS} {r_ : Int} {s_ : zS}, m233_96 n x1 x3 s = some (r_, s_) → Zp G (d + 3) 233 96 [some (zr 12 0 209), some (zi x1), d2, some (zi x3)] [] s (zRet (some (zi r_)) s_) := by
  intro n
  induction n with
  | zero => intro x1 x3 d2 s r_ s_ hm; cases hm
  | succ n ih =>
  intro x1 x3 d2 s r_ s_ hm
  replace hm : (if x3 < x1 then oX x3 1600 (oV (s.1 210 x3) fun z2 => oX x3 32 (oV (sI s 260 x3 z2) fun s4 => oZ (x3 + (1 : Int)) fun z6 => m233_96 n x1 z6 s4)) else oN (2 : Int) (oZ (Int.tdiv x1 (2 : Int)) fun z8 => oV (sI s 209 67 z8) fun s10 => oV (s10.1 209 67) fun z11 => some (z11, s10))) = some (r_, s_) := hm
  refine z_iload_n (pc' := 97) hM233 rfl rfl rfl ?_
  refine z_iload_n (pc' := 98) hM233 rfl rfl rfl ?_
  refine z_cmpge (pc' := 101) (t := 119) hM233 rfl rfl (fun h1 => ?_) (fun h1 => ?_)
  · replace hm := o_t hm h1
    refine z_aload_n (pc' := 102) hM233 rfl rfl rfl ?_
    refine z_fldR (pc' := 105) hM233 rfl (zf_12_68 hG) rfl rfl ?_
    refine z_iload_n (pc' := 106) hM233 rfl rfl rfl ?_
    refine z_aload_n (pc' := 107) hM233 rfl rfl rfl ?_
    refine z_fldR (pc' := 110) hM233 rfl (zf_12_0 hG) rfl rfl ?_
    refine z_iload_n (pc' := 111) hM233 rfl rfl rfl ?_
    obtain ⟨h3, hm⟩ := o_x hm
    obtain ⟨z2, ez2, hm⟩ := o_v hm
    refine z_iald (pc' := 112) (zGN hG) hM233 rfl rfl h3 ez2 ?_
    obtain ⟨h5, hm⟩ := o_x hm
    obtain ⟨s4, es4, hm⟩ := o_v hm
    refine z_iast (pc' := 113) hM233 rfl rfl h5 es4 ?_
    obtain ⟨z6, ez6, h7, hm⟩ := o_z hm
    refine z_iinc (pc' := 116) (l' := [some (zr 12 0 209), some (zi x1), zKd d2, some (zi z6)]) hM233 rfl rfl rfl ez6 h7 rfl rfl ?_
    refine z_goto (t := 96) hM233 rfl ?_
    exact ih hm
  · replace hm := o_f hm h1
    refine z_aload_n (pc' := 120) hM233 rfl rfl rfl ?_
    refine z_iload_n (pc' := 121) hM233 rfl rfl rfl ?_
    refine z_iconst (pc' := 122) hM233 rfl rfl rfl ?_
    obtain ⟨nz8, hm⟩ := o_n hm
    obtain ⟨z8, ez8, h9, hm⟩ := o_z hm
    refine z_idiv (pc' := 123) hM233 rfl rfl nz8 ez8 h9 ?_
    obtain ⟨s10, es10, hm⟩ := o_v hm
    refine z_putI (pc' := 126) hM233 rfl rfl rfl es10 ?_
    refine z_aload_n (pc' := 127) hM233 rfl rfl rfl ?_
    obtain ⟨z11, ez11, hm⟩ := o_v hm
    refine z_fldI (pc' := 130) hM233 rfl rfl rfl ez11 ?_
    cases hm
    exact z_retI hM233 rfl rfl ⟨rfl, rfl⟩
def m233_84 (x1 : Int) (x2 : Int) (s : zS) : Option (Int × zS) := if x2 = (0 : Int) then oC (m232 (1 : Int) s) fun z2 s3 => some (z2, s3) else m233_96 zFu x1 (0 : Int) s
theorem c233_84 {G : aHp} {d : Nat} (hG : zG G) {x1 : Int} {x2 : Int} {d3 : Option zV} {s : zS} {r_ : Int} {s_ : zS} (hm : m233_84 x1 x2 s = some (r_, s_)) : Zp G (d + 3) 233 84 [some (zr 12 0 209), some (zi x1), some (zi x2), d3] [] s (zRet (some (zi r_)) s_) := by
  replace hm : (if x2 = (0 : Int) then oC (m232 (1 : Int) s) fun z2 s3 => some (z2, s3) else m233_96 zFu x1 (0 : Int) s) = some (r_, s_) := hm
  refine z_iload_n (pc' := 85) hM233 rfl rfl rfl ?_
  refine z_ifne (pc' := 88) (t := 94) hM233 rfl rfl (fun h1 => ?_) (fun h1 => ?_)
  · replace hm := o_t hm h1
    refine z_aload_n (pc' := 89) hM233 rfl rfl rfl ?_
    refine z_iconst (pc' := 90) hM233 rfl rfl rfl ?_
    obtain ⟨z2, s3, h4, hm⟩ := o_c hm
    refine z_cv (d := d + 2) (pc' := 93) hM233 rfl hM232 rfl rfl rfl rfl rfl rfl (c232 (d := d + 1) hG h4) rfl ?_
    cases hm
    exact z_retI hM233 rfl rfl ⟨rfl, rfl⟩
  · replace hm := o_f hm h1
    refine z_iconst (pc' := 95) hM233 rfl rfl rfl ?_
    refine z_istore_n (pc' := 96) (l' := [some (zr 12 0 209), some (zi x1), some (zi x2), some (zi (0 : Int))]) hM233 rfl rfl rfl rfl ?_
    exact c233_96 hG hm
def m233_36 : Nat → Int → Int → Int → zS → Option (Int × zS)
  | 0, _, _, _, _ => none
  | n + 1, x1, x2, x3, s => if x3 < x1 then if x2 = (0 : Int) then m233_84 x1 x2 s else oX x3 1600 (oV (s.1 210 x3) fun z3 => if (30 : Int) < z3 then oZ (x3 + (2 : Int)) fun z6 => m233_36 n x1 (0 : Int) z6 s else oZ (x3 + (1 : Int)) fun z8 => oX z8 1600 (oV (s.1 210 z8) fun z10 => oC (m184 z10 s) fun z12 s13 => if z12 = (0 : Int) then oZ (x3 + (2 : Int)) fun z16 => m233_36 n x1 (0 : Int) z16 s13 else oZ (x3 + (2 : Int)) fun z18 => m233_36 n x1 (1 : Int) z18 s13)) else m233_84 x1 x2 s
theorem c233_36 {G : aHp} {d : Nat} (hG : zG G) : ∀ {n : Nat} {x1 : Int} {x2 : Int} {x3 : Int} {s : zS} {r_ : Int} {s_ : zS}, m233_36 n x1 x2 x3 s = some (r_, s_) → Zp G (d + 3) 233 36 [some (zr 12 0 209), some (zi x1), some (zi x2), some (zi x3)] [] s (zRet (some (zi r_)) s_) := by
  intro n
  induction n with
  | zero => intro x1 x2 x3 s r_ s_ hm; cases hm
  | succ n ih =>
  intro x1 x2 x3 s r_ s_ hm
  replace hm : (if x3 < x1 then if x2 = (0 : Int) then m233_84 x1 x2 s else oX x3 1600 (oV (s.1 210 x3) fun z3 => if (30 : Int) < z3 then oZ (x3 + (2 : Int)) fun z6 => m233_36 n x1 (0 : Int) z6 s else oZ (x3 + (1 : Int)) fun z8 => oX z8 1600 (oV (s.1 210 z8) fun z10 => oC (m184 z10 s) fun z12 s13 => if z12 = (0 : Int) then oZ (x3 + (2 : Int)) fun z16 => m233_36 n x1 (0 : Int) z16 s13 else oZ (x3 + (2 : Int)) fun z18 => m233_36 n x1 (1 : Int) z18 s13)) else m233_84 x1 x2 s) = some (r_, s_) := hm
  refine z_iload_n (pc' := 37) hM233 rfl rfl rfl ?_
  refine z_iload_n (pc' := 38) hM233 rfl rfl rfl ?_
  refine z_cmpge (pc' := 41) (t := 84) hM233 rfl rfl (fun h1 => ?_) (fun h1 => ?_)
  · replace hm := o_t hm h1
    refine z_iload_n (pc' := 42) hM233 rfl rfl rfl ?_
    refine z_ifeq (pc' := 45) (t := 84) hM233 rfl rfl (fun h2 => ?_) (fun h2 => ?_)
    · replace hm := o_t hm h2
      exact c233_84 hG hm
    · replace hm := o_f hm h2
      refine z_aload_n (pc' := 46) hM233 rfl rfl rfl ?_
      refine z_fldR (pc' := 49) hM233 rfl (zf_12_0 hG) rfl rfl ?_
      refine z_iload_n (pc' := 50) hM233 rfl rfl rfl ?_
      obtain ⟨h4, hm⟩ := o_x hm
      obtain ⟨z3, ez3, hm⟩ := o_v hm
      refine z_iald (pc' := 51) (zGN hG) hM233 rfl rfl h4 ez3 ?_
      refine z_bipush (pc' := 53) hM233 rfl rfl rfl ?_
      refine z_cmpgt (pc' := 56) (t := 76) hM233 rfl rfl (fun h5 => ?_) (fun h5 => ?_)
      · replace hm := o_t hm h5
        refine z_iconst (pc' := 77) hM233 rfl rfl rfl ?_
        refine z_istore_n (pc' := 78) (l' := [some (zr 12 0 209), some (zi x1), some (zi (0 : Int)), some (zi x3)]) hM233 rfl rfl rfl rfl ?_
        obtain ⟨z6, ez6, h7, hm⟩ := o_z hm
        refine z_iinc (pc' := 81) (l' := [some (zr 12 0 209), some (zi x1), some (zi (0 : Int)), some (zi z6)]) hM233 rfl rfl rfl ez6 h7 rfl rfl ?_
        refine z_goto (t := 36) hM233 rfl ?_
        exact ih hm
      · replace hm := o_f hm h5
        refine z_aload_n (pc' := 57) hM233 rfl rfl rfl ?_
        refine z_aload_n (pc' := 58) hM233 rfl rfl rfl ?_
        refine z_fldR (pc' := 61) hM233 rfl (zf_12_0 hG) rfl rfl ?_
        refine z_iload_n (pc' := 62) hM233 rfl rfl rfl ?_
        refine z_iconst (pc' := 63) hM233 rfl rfl rfl ?_
        obtain ⟨z8, ez8, h9, hm⟩ := o_z hm
        refine z_iadd (pc' := 64) hM233 rfl rfl ez8 h9 ?_
        obtain ⟨h11, hm⟩ := o_x hm
        obtain ⟨z10, ez10, hm⟩ := o_v hm
        refine z_iald (pc' := 65) (zGN hG) hM233 rfl rfl h11 ez10 ?_
        refine z_i2l (pc' := 66) hM233 rfl rfl ?_
        obtain ⟨z12, s13, h14, hm⟩ := o_c hm
        refine z_cv (d := d + 2) (pc' := 69) hM233 rfl hM184 rfl rfl rfl rfl rfl rfl (c184 (d := d) hG h14) rfl ?_
        refine z_ifeq (pc' := 72) (t := 76) hM233 rfl rfl (fun h15 => ?_) (fun h15 => ?_)
        · replace hm := o_t hm h15
          refine z_iconst (pc' := 77) hM233 rfl rfl rfl ?_
          refine z_istore_n (pc' := 78) (l' := [some (zr 12 0 209), some (zi x1), some (zi (0 : Int)), some (zi x3)]) hM233 rfl rfl rfl rfl ?_
          obtain ⟨z16, ez16, h17, hm⟩ := o_z hm
          refine z_iinc (pc' := 81) (l' := [some (zr 12 0 209), some (zi x1), some (zi (0 : Int)), some (zi z16)]) hM233 rfl rfl rfl ez16 h17 rfl rfl ?_
          refine z_goto (t := 36) hM233 rfl ?_
          exact ih hm
        · replace hm := o_f hm h15
          refine z_iconst (pc' := 73) hM233 rfl rfl rfl ?_
          refine z_goto (t := 77) hM233 rfl ?_
          refine z_istore_n (pc' := 78) (l' := [some (zr 12 0 209), some (zi x1), some (zi (1 : Int)), some (zi x3)]) hM233 rfl rfl rfl rfl ?_
          obtain ⟨z18, ez18, h19, hm⟩ := o_z hm
          refine z_iinc (pc' := 81) (l' := [some (zr 12 0 209), some (zi x1), some (zi (1 : Int)), some (zi z18)]) hM233 rfl rfl rfl ez18 h19 rfl rfl ?_
          refine z_goto (t := 36) hM233 rfl ?_
          exact ih hm
  · replace hm := o_f hm h1
    exact c233_84 hG hm
def m233  (s : zS) : Option (Int × zS) := oV (s.1 209 1) fun z1 => oV (sI s 209 1 (0 : Int)) fun s2 => if (0 : Int) < z1 then oN (2 : Int) (oV (Int.tmod z1 (2 : Int)) fun z4 => if z4 = (0 : Int) then oN (2 : Int) (oZ (Int.tdiv z1 (2 : Int)) fun z6 => if (16 : Int) < z6 then m233_36 zFu z1 (0 : Int) (0 : Int) s2 else m233_36 zFu z1 (1 : Int) (0 : Int) s2) else m233_36 zFu z1 (0 : Int) (0 : Int) s2) else m233_36 zFu z1 (0 : Int) (0 : Int) s2
theorem c233 {G : aHp} {d : Nat} (hG : zG G) {s : zS} {r_ : Int} {s_ : zS} (hm : m233  s = some (r_, s_)) : Zp G (d + 3) 233 0 [some (zr 12 0 209), none, none, none] [] s (zRet (some (zi r_)) s_) := by
  replace hm : (oV (s.1 209 1) fun z1 => oV (sI s 209 1 (0 : Int)) fun s2 => if (0 : Int) < z1 then oN (2 : Int) (oV (Int.tmod z1 (2 : Int)) fun z4 => if z4 = (0 : Int) then oN (2 : Int) (oZ (Int.tdiv z1 (2 : Int)) fun z6 => if (16 : Int) < z6 then m233_36 zFu z1 (0 : Int) (0 : Int) s2 else m233_36 zFu z1 (1 : Int) (0 : Int) s2) else m233_36 zFu z1 (0 : Int) (0 : Int) s2) else m233_36 zFu z1 (0 : Int) (0 : Int) s2) = some (r_, s_) := hm
  refine z_aload_n (pc' := 1) hM233 rfl rfl rfl ?_
  obtain ⟨z1, ez1, hm⟩ := o_v hm
  refine z_fldI (pc' := 4) hM233 rfl rfl rfl ez1 ?_
  refine z_istore_n (pc' := 5) (l' := [some (zr 12 0 209), some (zi z1), none, none]) hM233 rfl rfl rfl rfl ?_
  refine z_aload_n (pc' := 6) hM233 rfl rfl rfl ?_
  refine z_iconst (pc' := 7) hM233 rfl rfl rfl ?_
  obtain ⟨s2, es2, hm⟩ := o_v hm
  refine z_putI (pc' := 10) hM233 rfl rfl rfl es2 ?_
  refine z_iload_n (pc' := 11) hM233 rfl rfl rfl ?_
  refine z_ifle (pc' := 14) (t := 32) hM233 rfl rfl (fun h3 => ?_) (fun h3 => ?_)
  · replace hm := o_t hm h3
    refine z_iload_n (pc' := 15) hM233 rfl rfl rfl ?_
    refine z_iconst (pc' := 16) hM233 rfl rfl rfl ?_
    obtain ⟨nz4, hm⟩ := o_n hm
    obtain ⟨z4, ez4, hm⟩ := o_v hm
    refine z_irem (pc' := 17) hM233 rfl rfl nz4 ez4 ?_
    refine z_ifne (pc' := 20) (t := 32) hM233 rfl rfl (fun h5 => ?_) (fun h5 => ?_)
    · replace hm := o_t hm h5
      refine z_iload_n (pc' := 21) hM233 rfl rfl rfl ?_
      refine z_iconst (pc' := 22) hM233 rfl rfl rfl ?_
      obtain ⟨nz6, hm⟩ := o_n hm
      obtain ⟨z6, ez6, h7, hm⟩ := o_z hm
      refine z_idiv (pc' := 23) hM233 rfl rfl nz6 ez6 h7 ?_
      refine z_bipush (pc' := 25) hM233 rfl rfl rfl ?_
      refine z_cmpgt (pc' := 28) (t := 32) hM233 rfl rfl (fun h8 => ?_) (fun h8 => ?_)
      · replace hm := o_t hm h8
        refine z_iconst (pc' := 33) hM233 rfl rfl rfl ?_
        refine z_istore_n (pc' := 34) (l' := [some (zr 12 0 209), some (zi z1), some (zi (0 : Int)), none]) hM233 rfl rfl rfl rfl ?_
        refine z_iconst (pc' := 35) hM233 rfl rfl rfl ?_
        refine z_istore_n (pc' := 36) (l' := [some (zr 12 0 209), some (zi z1), some (zi (0 : Int)), some (zi (0 : Int))]) hM233 rfl rfl rfl rfl ?_
        exact c233_36 hG hm
      · replace hm := o_f hm h8
        refine z_iconst (pc' := 29) hM233 rfl rfl rfl ?_
        refine z_goto (t := 33) hM233 rfl ?_
        refine z_istore_n (pc' := 34) (l' := [some (zr 12 0 209), some (zi z1), some (zi (1 : Int)), none]) hM233 rfl rfl rfl rfl ?_
        refine z_iconst (pc' := 35) hM233 rfl rfl rfl ?_
        refine z_istore_n (pc' := 36) (l' := [some (zr 12 0 209), some (zi z1), some (zi (1 : Int)), some (zi (0 : Int))]) hM233 rfl rfl rfl rfl ?_
        exact c233_36 hG hm
    · replace hm := o_f hm h5
      refine z_iconst (pc' := 33) hM233 rfl rfl rfl ?_
      refine z_istore_n (pc' := 34) (l' := [some (zr 12 0 209), some (zi z1), some (zi (0 : Int)), none]) hM233 rfl rfl rfl rfl ?_
      refine z_iconst (pc' := 35) hM233 rfl rfl rfl ?_
      refine z_istore_n (pc' := 36) (l' := [some (zr 12 0 209), some (zi z1), some (zi (0 : Int)), some (zi (0 : Int))]) hM233 rfl rfl rfl rfl ?_
      exact c233_36 hG hm
  · replace hm := o_f hm h3
    refine z_iconst (pc' := 33) hM233 rfl rfl rfl ?_
    refine z_istore_n (pc' := 34) (l' := [some (zr 12 0 209), some (zi z1), some (zi (0 : Int)), none]) hM233 rfl rfl rfl rfl ?_
    refine z_iconst (pc' := 35) hM233 rfl rfl rfl ?_
    refine z_istore_n (pc' := 36) (l' := [some (zr 12 0 209), some (zi z1), some (zi (0 : Int)), some (zi (0 : Int))]) hM233 rfl rfl rfl rfl ?_
    exact c233_36 hG hm
def m234_2 : Nat → Int → zS → Option (Int × zS)
  | 0, _, _ => none
  | n + 1, x1, s => oV (s.1 209 67) fun z1 => if x1 < z1 then oZ ((2 : Int) * x1) fun z3 => oX z3 32 (oV (s.1 260 z3) fun z5 => oX z5 31 (oV (s.1 256 z5) fun z7 => oZ ((2 : Int) * x1) fun z9 => oZ (z9 + (1 : Int)) fun z11 => oX z11 32 (oV (s.1 260 z11) fun z13 => if z7 = z13 then oZ (x1 + (1 : Int)) fun z16 => m234_2 n z16 s else some ((0 : Int), s)))) else some ((1 : Int), s)
theorem c234_2 {G : aHp} {d : Nat} (hG : zG G) : ∀ {n : Nat} {x1 : Int} {s : zS} {r_ : Int} {s_ : zS}, m234_2 n x1 s = some (r_, s_) → Zp G (d + 1) 234 2 [some (zr 12 0 209), some (zi x1)] [] s (zRet (some (zi r_)) s_) := by
  intro n
  induction n with
  | zero => intro x1 s r_ s_ hm; cases hm
  | succ n ih =>
  intro x1 s r_ s_ hm
  replace hm : (oV (s.1 209 67) fun z1 => if x1 < z1 then oZ ((2 : Int) * x1) fun z3 => oX z3 32 (oV (s.1 260 z3) fun z5 => oX z5 31 (oV (s.1 256 z5) fun z7 => oZ ((2 : Int) * x1) fun z9 => oZ (z9 + (1 : Int)) fun z11 => oX z11 32 (oV (s.1 260 z11) fun z13 => if z7 = z13 then oZ (x1 + (1 : Int)) fun z16 => m234_2 n z16 s else some ((0 : Int), s)))) else some ((1 : Int), s)) = some (r_, s_) := hm
  refine z_iload_n (pc' := 3) hM234 rfl rfl rfl ?_
  refine z_aload_n (pc' := 4) hM234 rfl rfl rfl ?_
  obtain ⟨z1, ez1, hm⟩ := o_v hm
  refine z_fldI (pc' := 7) hM234 rfl rfl rfl ez1 ?_
  refine z_cmpge (pc' := 10) (t := 44) hM234 rfl rfl (fun h2 => ?_) (fun h2 => ?_)
  · replace hm := o_t hm h2
    refine z_aload_n (pc' := 11) hM234 rfl rfl rfl ?_
    refine z_fldR (pc' := 14) hM234 rfl (zf_12_63 hG) rfl rfl ?_
    refine z_aload_n (pc' := 15) hM234 rfl rfl rfl ?_
    refine z_fldR (pc' := 18) hM234 rfl (zf_12_68 hG) rfl rfl ?_
    refine z_iconst (pc' := 19) hM234 rfl rfl rfl ?_
    refine z_iload_n (pc' := 20) hM234 rfl rfl rfl ?_
    obtain ⟨z3, ez3, h4, hm⟩ := o_z hm
    refine z_imul (pc' := 21) hM234 rfl rfl ez3 h4 ?_
    obtain ⟨h6, hm⟩ := o_x hm
    obtain ⟨z5, ez5, hm⟩ := o_v hm
    refine z_iald (pc' := 22) (zGN hG) hM234 rfl rfl h6 ez5 ?_
    obtain ⟨h8, hm⟩ := o_x hm
    obtain ⟨z7, ez7, hm⟩ := o_v hm
    refine z_iald (pc' := 23) (zGN hG) hM234 rfl rfl h8 ez7 ?_
    refine z_aload_n (pc' := 24) hM234 rfl rfl rfl ?_
    refine z_fldR (pc' := 27) hM234 rfl (zf_12_68 hG) rfl rfl ?_
    refine z_iconst (pc' := 28) hM234 rfl rfl rfl ?_
    refine z_iload_n (pc' := 29) hM234 rfl rfl rfl ?_
    obtain ⟨z9, ez9, h10, hm⟩ := o_z hm
    refine z_imul (pc' := 30) hM234 rfl rfl ez9 h10 ?_
    refine z_iconst (pc' := 31) hM234 rfl rfl rfl ?_
    obtain ⟨z11, ez11, h12, hm⟩ := o_z hm
    refine z_iadd (pc' := 32) hM234 rfl rfl ez11 h12 ?_
    obtain ⟨h14, hm⟩ := o_x hm
    obtain ⟨z13, ez13, hm⟩ := o_v hm
    refine z_iald (pc' := 33) (zGN hG) hM234 rfl rfl h14 ez13 ?_
    refine z_cmpeq (pc' := 36) (t := 38) hM234 rfl rfl (fun h15 => ?_) (fun h15 => ?_)
    · replace hm := o_t hm h15
      obtain ⟨z16, ez16, h17, hm⟩ := o_z hm
      refine z_iinc (pc' := 41) (l' := [some (zr 12 0 209), some (zi z16)]) hM234 rfl rfl rfl ez16 h17 rfl rfl ?_
      refine z_goto (t := 2) hM234 rfl ?_
      exact ih hm
    · replace hm := o_f hm h15
      refine z_iconst (pc' := 37) hM234 rfl rfl rfl ?_
      cases hm
      exact z_retZ hM234 rfl rfl (Or.inl rfl) ⟨rfl, rfl⟩
  · replace hm := o_f hm h2
    refine z_iconst (pc' := 45) hM234 rfl rfl rfl ?_
    cases hm
    exact z_retZ hM234 rfl rfl (Or.inr rfl) ⟨rfl, rfl⟩
def m234  (s : zS) : Option (Int × zS) := m234_2 zFu (0 : Int) s
theorem c234 {G : aHp} {d : Nat} (hG : zG G) {s : zS} {r_ : Int} {s_ : zS} (hm : m234  s = some (r_, s_)) : Zp G (d + 1) 234 0 [some (zr 12 0 209), none] [] s (zRet (some (zi r_)) s_) := by
  replace hm : (m234_2 zFu (0 : Int) s) = some (r_, s_) := hm
  refine z_iconst (pc' := 1) hM234 rfl rfl rfl ?_
  refine z_istore_n (pc' := 2) (l' := [some (zr 12 0 209), some (zi (0 : Int))]) hM234 rfl rfl rfl rfl ?_
  exact c234_2 hG hm
def m235_54 (k27_ : Int → Int → zS → Option (Int × zS)) : Nat → Int → Int → Int → zS → Option (Int × zS)
  | 0, _, _, _, _ => none
  | n + 1, x1, x2, x3, s => if (30 : Int) < x3 then oV (s.1 209 70) fun z2 => oZ (z2 + (1 : Int)) fun z3 => oV (sI s 209 70 z3) fun s5 => oV (s5.1 209 71) fun z6 => oV (zShl (1 : Int) x1) fun z7 => oV (zOr z6 z7) fun z8 => oV (sI s5 209 71 z8) fun s9 => oV (s9.1 209 72) fun z10 => oV (zShl (1 : Int) x2) fun z11 => oV (zOr z10 z11) fun z12 => oV (sI s9 209 72 z12) fun s13 => oZ (x2 + (1 : Int)) fun z14 => k27_ x1 z14 s13 else oV (s.1 209 70) fun z16 => oZ ((31 : Int) * z16) fun z17 => oZ (z17 + x3) fun z19 => oX x3 31 (oV (s.1 256 x3) fun z21 => oX z19 1488 (oV (sI s 261 z19 z21) fun s23 => oZ (x3 + (1 : Int)) fun z25 => m235_54 k27_ n x1 x2 z25 s23))
theorem c235_54 {G : aHp} {d : Nat} {k27_ : Int → Int → zS → Option (Int × zS)} (hG : zG G) (hk27 : ∀ {x1 : Int} {x2 : Int} {d3 : Option zV} {s : zS} {r_ : Int} {s_ : zS}, k27_ x1 x2 s = some (r_, s_) → Zp G (d + 8) 235 27 [some (zr 12 0 209), some (zi x1), some (zi x2), d3] [] s (zRet none s_)) : ∀ {n : Nat} {x1 : Int} {x2 : Int} {x3 : Int} {s : zS} {r_ : Int} {s_ : zS}, m235_54 k27_ n x1 x2 x3 s = some (r_, s_) → Zp G (d + 8) 235 54 [some (zr 12 0 209), some (zi x1), some (zi x2), some (zi x3)] [] s (zRet none s_) := by
  intro n
  induction n with
  | zero => intro x1 x2 x3 s r_ s_ hm; cases hm
  | succ n ih =>
  intro x1 x2 x3 s r_ s_ hm
  replace hm : (if (30 : Int) < x3 then oV (s.1 209 70) fun z2 => oZ (z2 + (1 : Int)) fun z3 => oV (sI s 209 70 z3) fun s5 => oV (s5.1 209 71) fun z6 => oV (zShl (1 : Int) x1) fun z7 => oV (zOr z6 z7) fun z8 => oV (sI s5 209 71 z8) fun s9 => oV (s9.1 209 72) fun z10 => oV (zShl (1 : Int) x2) fun z11 => oV (zOr z10 z11) fun z12 => oV (sI s9 209 72 z12) fun s13 => oZ (x2 + (1 : Int)) fun z14 => k27_ x1 z14 s13 else oV (s.1 209 70) fun z16 => oZ ((31 : Int) * z16) fun z17 => oZ (z17 + x3) fun z19 => oX x3 31 (oV (s.1 256 x3) fun z21 => oX z19 1488 (oV (sI s 261 z19 z21) fun s23 => oZ (x3 + (1 : Int)) fun z25 => m235_54 k27_ n x1 x2 z25 s23))) = some (r_, s_) := hm
  refine z_iload_n (pc' := 55) hM235 rfl rfl rfl ?_
  refine z_bipush (pc' := 57) hM235 rfl rfl rfl ?_
  refine z_cmpgt (pc' := 60) (t := 86) hM235 rfl rfl (fun h1 => ?_) (fun h1 => ?_)
  · replace hm := o_t hm h1
    refine z_aload_n (pc' := 87) hM235 rfl rfl rfl ?_
    refine z_dupA (pc' := 88) hM235 rfl rfl ?_
    obtain ⟨z2, ez2, hm⟩ := o_v hm
    refine z_fldI (pc' := 91) hM235 rfl rfl rfl ez2 ?_
    refine z_iconst (pc' := 92) hM235 rfl rfl rfl ?_
    obtain ⟨z3, ez3, h4, hm⟩ := o_z hm
    refine z_iadd (pc' := 93) hM235 rfl rfl ez3 h4 ?_
    obtain ⟨s5, es5, hm⟩ := o_v hm
    refine z_putI (pc' := 96) hM235 rfl rfl rfl es5 ?_
    refine z_aload_n (pc' := 97) hM235 rfl rfl rfl ?_
    refine z_dupA (pc' := 98) hM235 rfl rfl ?_
    obtain ⟨z6, ez6, hm⟩ := o_v hm
    refine z_fldI (pc' := 101) hM235 rfl rfl rfl ez6 ?_
    refine z_iconst (pc' := 102) hM235 rfl rfl rfl ?_
    refine z_iload_n (pc' := 103) hM235 rfl rfl rfl ?_
    obtain ⟨z7, ez7, hm⟩ := o_v hm
    refine z_ishl (pc' := 104) hM235 rfl rfl ez7 ?_
    obtain ⟨z8, ez8, hm⟩ := o_v hm
    refine z_ior (pc' := 105) hM235 rfl rfl ez8 ?_
    obtain ⟨s9, es9, hm⟩ := o_v hm
    refine z_putI (pc' := 108) hM235 rfl rfl rfl es9 ?_
    refine z_aload_n (pc' := 109) hM235 rfl rfl rfl ?_
    refine z_dupA (pc' := 110) hM235 rfl rfl ?_
    obtain ⟨z10, ez10, hm⟩ := o_v hm
    refine z_fldI (pc' := 113) hM235 rfl rfl rfl ez10 ?_
    refine z_iconst (pc' := 114) hM235 rfl rfl rfl ?_
    refine z_iload_n (pc' := 115) hM235 rfl rfl rfl ?_
    obtain ⟨z11, ez11, hm⟩ := o_v hm
    refine z_ishl (pc' := 116) hM235 rfl rfl ez11 ?_
    obtain ⟨z12, ez12, hm⟩ := o_v hm
    refine z_ior (pc' := 117) hM235 rfl rfl ez12 ?_
    obtain ⟨s13, es13, hm⟩ := o_v hm
    refine z_putI (pc' := 120) hM235 rfl rfl rfl es13 ?_
    obtain ⟨z14, ez14, h15, hm⟩ := o_z hm
    refine z_iinc (pc' := 123) (l' := [some (zr 12 0 209), some (zi x1), some (zi z14), some (zi x3)]) hM235 rfl rfl rfl ez14 h15 rfl rfl ?_
    refine z_goto (t := 27) hM235 rfl ?_
    exact hk27 hm
  · replace hm := o_f hm h1
    refine z_aload_n (pc' := 61) hM235 rfl rfl rfl ?_
    refine z_fldR (pc' := 64) hM235 rfl (zf_12_69 hG) rfl rfl ?_
    refine z_bipush (pc' := 66) hM235 rfl rfl rfl ?_
    refine z_aload_n (pc' := 67) hM235 rfl rfl rfl ?_
    obtain ⟨z16, ez16, hm⟩ := o_v hm
    refine z_fldI (pc' := 70) hM235 rfl rfl rfl ez16 ?_
    obtain ⟨z17, ez17, h18, hm⟩ := o_z hm
    refine z_imul (pc' := 71) hM235 rfl rfl ez17 h18 ?_
    refine z_iload_n (pc' := 72) hM235 rfl rfl rfl ?_
    obtain ⟨z19, ez19, h20, hm⟩ := o_z hm
    refine z_iadd (pc' := 73) hM235 rfl rfl ez19 h20 ?_
    refine z_aload_n (pc' := 74) hM235 rfl rfl rfl ?_
    refine z_fldR (pc' := 77) hM235 rfl (zf_12_63 hG) rfl rfl ?_
    refine z_iload_n (pc' := 78) hM235 rfl rfl rfl ?_
    obtain ⟨h22, hm⟩ := o_x hm
    obtain ⟨z21, ez21, hm⟩ := o_v hm
    refine z_iald (pc' := 79) (zGN hG) hM235 rfl rfl h22 ez21 ?_
    obtain ⟨h24, hm⟩ := o_x hm
    obtain ⟨s23, es23, hm⟩ := o_v hm
    refine z_iast (pc' := 80) hM235 rfl rfl h24 es23 ?_
    obtain ⟨z25, ez25, h26, hm⟩ := o_z hm
    refine z_iinc (pc' := 83) (l' := [some (zr 12 0 209), some (zi x1), some (zi x2), some (zi z25)]) hM235 rfl rfl rfl ez25 h26 rfl rfl ?_
    refine z_goto (t := 54) hM235 rfl ?_
    exact ih hm
def m235_27 (k17_ : Int → zS → Option (Int × zS)) : Nat → Int → Int → zS → Option (Int × zS)
  | 0, _, _, _ => none
  | n + 1, x1, x2, s => oC (m182 s) fun z1 s2 => if x2 < z1 then oC (m218 x1 x2 s2) fun z5 s6 => oC (m234 s6) fun z8 s9 => if z8 = (0 : Int) then oZ (x2 + (1 : Int)) fun z12 => m235_27 k17_ n x1 z12 s9 else m235_54 (m235_27 k17_ n) zFu x1 x2 (0 : Int) s9 else oZ (x1 + (1 : Int)) fun z14 => k17_ z14 s2
theorem c235_27 {G : aHp} {d : Nat} {k17_ : Int → zS → Option (Int × zS)} (hG : zG G) (hk17 : ∀ {x1 : Int} {d2 d3 : Option zV} {s : zS} {r_ : Int} {s_ : zS}, k17_ x1 s = some (r_, s_) → Zp G (d + 8) 235 17 [some (zr 12 0 209), some (zi x1), d2, d3] [] s (zRet none s_)) : ∀ {n : Nat} {x1 : Int} {x2 : Int} {d3 : Option zV} {s : zS} {r_ : Int} {s_ : zS}, m235_27 k17_ n x1 x2 s = some (r_, s_) → Zp G (d + 8) 235 27 [some (zr 12 0 209), some (zi x1), some (zi x2), d3] [] s (zRet none s_) := by
  intro n
  induction n with
  | zero => intro x1 x2 d3 s r_ s_ hm; cases hm
  | succ n ih =>
  intro x1 x2 d3 s r_ s_ hm
  replace hm : (oC (m182 s) fun z1 s2 => if x2 < z1 then oC (m218 x1 x2 s2) fun z5 s6 => oC (m234 s6) fun z8 s9 => if z8 = (0 : Int) then oZ (x2 + (1 : Int)) fun z12 => m235_27 k17_ n x1 z12 s9 else m235_54 (m235_27 k17_ n) zFu x1 x2 (0 : Int) s9 else oZ (x1 + (1 : Int)) fun z14 => k17_ z14 s2) = some (r_, s_) := hm
  refine z_iload_n (pc' := 28) hM235 rfl rfl rfl ?_
  refine z_aload_n (pc' := 29) hM235 rfl rfl rfl ?_
  obtain ⟨z1, s2, h3, hm⟩ := o_c hm
  refine z_cv (d := d + 7) (pc' := 32) hM235 rfl hM182 rfl rfl rfl rfl rfl rfl (c182 (d := d + 6) hG h3) rfl ?_
  refine z_cmpge (pc' := 35) (t := 126) hM235 rfl rfl (fun h4 => ?_) (fun h4 => ?_)
  · replace hm := o_t hm h4
    refine z_aload_n (pc' := 36) hM235 rfl rfl rfl ?_
    refine z_iload_n (pc' := 37) hM235 rfl rfl rfl ?_
    refine z_iload_n (pc' := 38) hM235 rfl rfl rfl ?_
    obtain ⟨z5, s6, h7, hm⟩ := o_c hm
    refine z_cv (d := d + 7) (pc' := 41) hM235 rfl hM218 rfl rfl rfl rfl rfl rfl (c218 (d := d) hG h7) rfl ?_
    refine z_pop (pc' := 42) hM235 rfl rfl ?_
    refine z_aload_n (pc' := 43) hM235 rfl rfl rfl ?_
    obtain ⟨z8, s9, h10, hm⟩ := o_c hm
    refine z_cv (d := d + 7) (pc' := 46) hM235 rfl hM234 rfl rfl rfl rfl rfl rfl (c234 (d := d + 6) hG h10) rfl ?_
    refine z_ifne (pc' := 49) (t := 52) hM235 rfl rfl (fun h11 => ?_) (fun h11 => ?_)
    · replace hm := o_t hm h11
      refine z_goto (t := 120) hM235 rfl ?_
      obtain ⟨z12, ez12, h13, hm⟩ := o_z hm
      refine z_iinc (pc' := 123) (l' := [some (zr 12 0 209), some (zi x1), some (zi z12), d3]) hM235 rfl rfl rfl ez12 h13 rfl rfl ?_
      refine z_goto (t := 27) hM235 rfl ?_
      exact ih hm
    · replace hm := o_f hm h11
      refine z_iconst (pc' := 53) hM235 rfl rfl rfl ?_
      refine z_istore_n (pc' := 54) (l' := [some (zr 12 0 209), some (zi x1), some (zi x2), some (zi (0 : Int))]) hM235 rfl rfl rfl rfl ?_
      exact c235_54 hG ih hm
  · replace hm := o_f hm h4
    obtain ⟨z14, ez14, h15, hm⟩ := o_z hm
    refine z_iinc (pc' := 129) (l' := [some (zr 12 0 209), some (zi z14), some (zi x2), d3]) hM235 rfl rfl rfl ez14 h15 rfl rfl ?_
    refine z_goto (t := 17) hM235 rfl ?_
    exact hk17 hm
def m235_17 : Nat → Int → zS → Option (Int × zS)
  | 0, _, _ => none
  | n + 1, x1, s => oC (m183 s) fun z1 s2 => if x1 < z1 then m235_27 (m235_17 n) zFu x1 (0 : Int) s2 else some (0, s2)
theorem c235_17 {G : aHp} {d : Nat} (hG : zG G) : ∀ {n : Nat} {x1 : Int} {d2 d3 : Option zV} {s : zS} {r_ : Int} {s_ : zS}, m235_17 n x1 s = some (r_, s_) → Zp G (d + 8) 235 17 [some (zr 12 0 209), some (zi x1), d2, d3] [] s (zRet none s_) := by
  intro n
  induction n with
  | zero => intro x1 d2 d3 s r_ s_ hm; cases hm
  | succ n ih =>
  intro x1 d2 d3 s r_ s_ hm
  replace hm : (oC (m183 s) fun z1 s2 => if x1 < z1 then m235_27 (m235_17 n) zFu x1 (0 : Int) s2 else some (0, s2)) = some (r_, s_) := hm
  refine z_iload_n (pc' := 18) hM235 rfl rfl rfl ?_
  refine z_aload_n (pc' := 19) hM235 rfl rfl rfl ?_
  obtain ⟨z1, s2, h3, hm⟩ := o_c hm
  refine z_cv (d := d + 7) (pc' := 22) hM235 rfl hM183 rfl rfl rfl rfl rfl rfl (c183 (d := d + 6) hG h3) rfl ?_
  refine z_cmpge (pc' := 25) (t := 132) hM235 rfl rfl (fun h4 => ?_) (fun h4 => ?_)
  · replace hm := o_t hm h4
    refine z_iconst (pc' := 26) hM235 rfl rfl rfl ?_
    refine z_istore_n (pc' := 27) (l' := [some (zr 12 0 209), some (zi x1), some (zi (0 : Int)), d3]) hM235 rfl rfl rfl rfl ?_
    exact c235_27 hG ih hm
  · replace hm := o_f hm h4
    cases hm
    exact z_retV hM235 rfl rfl ⟨rfl, rfl⟩
def m235  (s : zS) : Option (Int × zS) := oV (sI s 209 70 (0 : Int)) fun s1 => oV (sI s1 209 71 (0 : Int)) fun s2 => oV (sI s2 209 72 (0 : Int)) fun s3 => m235_17 zFu (0 : Int) s3
theorem c235 {G : aHp} {d : Nat} (hG : zG G) {s : zS} {r_ : Int} {s_ : zS} (hm : m235  s = some (r_, s_)) : Zp G (d + 8) 235 0 [some (zr 12 0 209), none, none, none] [] s (zRet none s_) := by
  replace hm : (oV (sI s 209 70 (0 : Int)) fun s1 => oV (sI s1 209 71 (0 : Int)) fun s2 => oV (sI s2 209 72 (0 : Int)) fun s3 => m235_17 zFu (0 : Int) s3) = some (r_, s_) := hm
  refine z_aload_n (pc' := 1) hM235 rfl rfl rfl ?_
  refine z_iconst (pc' := 2) hM235 rfl rfl rfl ?_
  obtain ⟨s1, es1, hm⟩ := o_v hm
  refine z_putI (pc' := 5) hM235 rfl rfl rfl es1 ?_
  refine z_aload_n (pc' := 6) hM235 rfl rfl rfl ?_
  refine z_iconst (pc' := 7) hM235 rfl rfl rfl ?_
  obtain ⟨s2, es2, hm⟩ := o_v hm
  refine z_putI (pc' := 10) hM235 rfl rfl rfl es2 ?_
  refine z_aload_n (pc' := 11) hM235 rfl rfl rfl ?_
  refine z_iconst (pc' := 12) hM235 rfl rfl rfl ?_
  obtain ⟨s3, es3, hm⟩ := o_v hm
  refine z_putI (pc' := 15) hM235 rfl rfl rfl es3 ?_
  refine z_iconst (pc' := 16) hM235 rfl rfl rfl ?_
  refine z_istore_n (pc' := 17) (l' := [some (zr 12 0 209), some (zi (0 : Int)), none, none]) hM235 rfl rfl rfl rfl ?_
  exact c235_17 hG hm
def m236 (x1 : Int) (s : zS) : Option (Int × zS) := oC (m150 x1 (0 : Int) (2 : Int) s) fun z1 s2 => if z1 = (0 : Int) then some ((-1 : Int), s2) else oC (m235 s2) fun z5 s6 => if x1 = (0 : Int) then oV (s6.1 209 70) fun z9 => some (z9, s6) else if x1 = (1 : Int) then oV (s6.1 209 71) fun z11 => some (z11, s6) else oV (s6.1 209 72) fun z12 => some (z12, s6)
theorem c236 {G : aHp} {d : Nat} (hG : zG G) {x1 : Int} {s : zS} {r_ : Int} {s_ : zS} (hm : m236 x1 s = some (r_, s_)) : Zp G (d + 9) 236 0 [some (zr 12 0 209), some (zi x1)] [] s (zRet (some (zi r_)) s_) := by
  replace hm : (oC (m150 x1 (0 : Int) (2 : Int) s) fun z1 s2 => if z1 = (0 : Int) then some ((-1 : Int), s2) else oC (m235 s2) fun z5 s6 => if x1 = (0 : Int) then oV (s6.1 209 70) fun z9 => some (z9, s6) else if x1 = (1 : Int) then oV (s6.1 209 71) fun z11 => some (z11, s6) else oV (s6.1 209 72) fun z12 => some (z12, s6)) = some (r_, s_) := hm
  refine z_iload_n (pc' := 1) hM236 rfl rfl rfl ?_
  refine z_i2l (pc' := 2) hM236 rfl rfl ?_
  refine z_lconst (pc' := 3) (x := (0 : Int)) hM236 rfl rfl rfl rfl ?_
  refine z_ldc2 (pc' := 6) hM236 rfl rfl rfl ?_
  obtain ⟨z1, s2, h3, hm⟩ := o_c hm
  refine z_cs (d := d + 8) (pc' := 9) hM236 rfl hM150 rfl rfl rfl rfl (c150 (d := d + 7) hG h3) rfl ?_
  refine z_ifne (pc' := 12) (t := 14) hM236 rfl rfl (fun h4 => ?_) (fun h4 => ?_)
  · replace hm := o_t hm h4
    refine z_iconst (pc' := 13) hM236 rfl rfl rfl ?_
    cases hm
    exact z_retI hM236 rfl rfl ⟨rfl, rfl⟩
  · replace hm := o_f hm h4
    refine z_aload_n (pc' := 15) hM236 rfl rfl rfl ?_
    obtain ⟨z5, s6, h7, hm⟩ := o_c hm
    refine z_cvV (d := d + 8) (pc' := 18) hM236 rfl hM235 rfl rfl rfl rfl rfl rfl (c235 (d := d) hG h7) rfl ?_
    refine z_iload_n (pc' := 19) hM236 rfl rfl rfl ?_
    refine z_ifne (pc' := 22) (t := 29) hM236 rfl rfl (fun h8 => ?_) (fun h8 => ?_)
    · replace hm := o_t hm h8
      refine z_aload_n (pc' := 23) hM236 rfl rfl rfl ?_
      obtain ⟨z9, ez9, hm⟩ := o_v hm
      refine z_fldI (pc' := 26) hM236 rfl rfl rfl ez9 ?_
      refine z_goto (t := 45) hM236 rfl ?_
      cases hm
      exact z_retI hM236 rfl rfl ⟨rfl, rfl⟩
    · replace hm := o_f hm h8
      refine z_iload_n (pc' := 30) hM236 rfl rfl rfl ?_
      refine z_iconst (pc' := 31) hM236 rfl rfl rfl ?_
      refine z_cmpne (pc' := 34) (t := 41) hM236 rfl rfl (fun h10 => ?_) (fun h10 => ?_)
      · replace hm := o_t hm h10
        refine z_aload_n (pc' := 35) hM236 rfl rfl rfl ?_
        obtain ⟨z11, ez11, hm⟩ := o_v hm
        refine z_fldI (pc' := 38) hM236 rfl rfl rfl ez11 ?_
        refine z_goto (t := 45) hM236 rfl ?_
        cases hm
        exact z_retI hM236 rfl rfl ⟨rfl, rfl⟩
      · replace hm := o_f hm h10
        refine z_aload_n (pc' := 42) hM236 rfl rfl rfl ?_
        obtain ⟨z12, ez12, hm⟩ := o_v hm
        refine z_fldI (pc' := 45) hM236 rfl rfl rfl ez12 ?_
        cases hm
        exact z_retI hM236 rfl rfl ⟨rfl, rfl⟩
def m237_18 (k4_ : Int → Int → Int → zS → Option (Int × zS)) : Nat → Int → Int → Int → Int → Int → zS → Option (Int × zS)
  | 0, _, _, _, _, _, _ => none
  | n + 1, x1, x2, x3, x4, x5, s => oV (s.1 209 70) fun z1 => if x5 < z1 then oZ ((31 : Int) * x5) fun z3 => oZ (z3 + x1) fun z5 => oX z5 1488 (oV (s.1 261 z5) fun z7 => if z7 = x3 then oZ (x4 + (1 : Int)) fun z10 => oZ (x5 + (1 : Int)) fun z12 => m237_18 k4_ n x1 x2 x3 z10 z12 s else oZ (x5 + (1 : Int)) fun z14 => m237_18 k4_ n x1 x2 x3 x4 z14 s) else if x2 < x4 then oZ (x3 + (1 : Int)) fun z17 => k4_ x1 x4 z17 s else oZ (x3 + (1 : Int)) fun z19 => k4_ x1 x2 z19 s
theorem c237_18 {G : aHp} {d : Nat} {k4_ : Int → Int → Int → zS → Option (Int × zS)} (hG : zG G) (hk4 : ∀ {x1 : Int} {x2 : Int} {x3 : Int} {d4 d5 : Option zV} {s : zS} {r_ : Int} {s_ : zS}, k4_ x1 x2 x3 s = some (r_, s_) → Zp G (d + 2) 237 4 [some (zr 12 0 209), some (zi x1), some (zi x2), some (zi x3), d4, d5] [] s (zRet (some (zi r_)) s_)) : ∀ {n : Nat} {x1 : Int} {x2 : Int} {x3 : Int} {x4 : Int} {x5 : Int} {s : zS} {r_ : Int} {s_ : zS}, m237_18 k4_ n x1 x2 x3 x4 x5 s = some (r_, s_) → Zp G (d + 2) 237 18 [some (zr 12 0 209), some (zi x1), some (zi x2), some (zi x3), some (zi x4), some (zi x5)] [] s (zRet (some (zi r_)) s_) := by
  intro n
  induction n with
  | zero => intro x1 x2 x3 x4 x5 s r_ s_ hm; cases hm
  | succ n ih =>
  intro x1 x2 x3 x4 x5 s r_ s_ hm
  replace hm : (oV (s.1 209 70) fun z1 => if x5 < z1 then oZ ((31 : Int) * x5) fun z3 => oZ (z3 + x1) fun z5 => oX z5 1488 (oV (s.1 261 z5) fun z7 => if z7 = x3 then oZ (x4 + (1 : Int)) fun z10 => oZ (x5 + (1 : Int)) fun z12 => m237_18 k4_ n x1 x2 x3 z10 z12 s else oZ (x5 + (1 : Int)) fun z14 => m237_18 k4_ n x1 x2 x3 x4 z14 s) else if x2 < x4 then oZ (x3 + (1 : Int)) fun z17 => k4_ x1 x4 z17 s else oZ (x3 + (1 : Int)) fun z19 => k4_ x1 x2 z19 s) = some (r_, s_) := hm
  refine z_iload (pc' := 20) hM237 rfl rfl rfl ?_
  refine z_aload_n (pc' := 21) hM237 rfl rfl rfl ?_
  obtain ⟨z1, ez1, hm⟩ := o_v hm
  refine z_fldI (pc' := 24) hM237 rfl rfl rfl ez1 ?_
  refine z_cmpge (pc' := 27) (t := 52) hM237 rfl rfl (fun h2 => ?_) (fun h2 => ?_)
  · replace hm := o_t hm h2
    refine z_aload_n (pc' := 28) hM237 rfl rfl rfl ?_
    refine z_fldR (pc' := 31) hM237 rfl (zf_12_69 hG) rfl rfl ?_
    refine z_bipush (pc' := 33) hM237 rfl rfl rfl ?_
    refine z_iload (pc' := 35) hM237 rfl rfl rfl ?_
    obtain ⟨z3, ez3, h4, hm⟩ := o_z hm
    refine z_imul (pc' := 36) hM237 rfl rfl ez3 h4 ?_
    refine z_iload_n (pc' := 37) hM237 rfl rfl rfl ?_
    obtain ⟨z5, ez5, h6, hm⟩ := o_z hm
    refine z_iadd (pc' := 38) hM237 rfl rfl ez5 h6 ?_
    obtain ⟨h8, hm⟩ := o_x hm
    obtain ⟨z7, ez7, hm⟩ := o_v hm
    refine z_iald (pc' := 39) (zGN hG) hM237 rfl rfl h8 ez7 ?_
    refine z_iload_n (pc' := 40) hM237 rfl rfl rfl ?_
    refine z_cmpne (pc' := 43) (t := 46) hM237 rfl rfl (fun h9 => ?_) (fun h9 => ?_)
    · replace hm := o_t hm h9
      obtain ⟨z10, ez10, h11, hm⟩ := o_z hm
      refine z_iinc (pc' := 46) (l' := [some (zr 12 0 209), some (zi x1), some (zi x2), some (zi x3), some (zi z10), some (zi x5)]) hM237 rfl rfl rfl ez10 h11 rfl rfl ?_
      obtain ⟨z12, ez12, h13, hm⟩ := o_z hm
      refine z_iinc (pc' := 49) (l' := [some (zr 12 0 209), some (zi x1), some (zi x2), some (zi x3), some (zi z10), some (zi z12)]) hM237 rfl rfl rfl ez12 h13 rfl rfl ?_
      refine z_goto (t := 18) hM237 rfl ?_
      exact ih hm
    · replace hm := o_f hm h9
      obtain ⟨z14, ez14, h15, hm⟩ := o_z hm
      refine z_iinc (pc' := 49) (l' := [some (zr 12 0 209), some (zi x1), some (zi x2), some (zi x3), some (zi x4), some (zi z14)]) hM237 rfl rfl rfl ez14 h15 rfl rfl ?_
      refine z_goto (t := 18) hM237 rfl ?_
      exact ih hm
  · replace hm := o_f hm h2
    refine z_iload (pc' := 54) hM237 rfl rfl rfl ?_
    refine z_iload_n (pc' := 55) hM237 rfl rfl rfl ?_
    refine z_cmple (pc' := 58) (t := 61) hM237 rfl rfl (fun h16 => ?_) (fun h16 => ?_)
    · replace hm := o_t hm h16
      refine z_iload (pc' := 60) hM237 rfl rfl rfl ?_
      refine z_istore_n (pc' := 61) (l' := [some (zr 12 0 209), some (zi x1), some (zi x4), some (zi x3), some (zi x4), some (zi x5)]) hM237 rfl rfl rfl rfl ?_
      obtain ⟨z17, ez17, h18, hm⟩ := o_z hm
      refine z_iinc (pc' := 64) (l' := [some (zr 12 0 209), some (zi x1), some (zi x4), some (zi z17), some (zi x4), some (zi x5)]) hM237 rfl rfl rfl ez17 h18 rfl rfl ?_
      refine z_goto (t := 4) hM237 rfl ?_
      exact hk4 hm
    · replace hm := o_f hm h16
      obtain ⟨z19, ez19, h20, hm⟩ := o_z hm
      refine z_iinc (pc' := 64) (l' := [some (zr 12 0 209), some (zi x1), some (zi x2), some (zi z19), some (zi x4), some (zi x5)]) hM237 rfl rfl rfl ez19 h20 rfl rfl ?_
      refine z_goto (t := 4) hM237 rfl ?_
      exact hk4 hm
def m237_4 : Nat → Int → Int → Int → zS → Option (Int × zS)
  | 0, _, _, _, _ => none
  | n + 1, x1, x2, x3, s => oC (m181 s) fun z1 s2 => if x3 < z1 then m237_18 (m237_4 n) zFu x1 x2 x3 (0 : Int) (0 : Int) s2 else some (x2, s2)
theorem c237_4 {G : aHp} {d : Nat} (hG : zG G) : ∀ {n : Nat} {x1 : Int} {x2 : Int} {x3 : Int} {d4 d5 : Option zV} {s : zS} {r_ : Int} {s_ : zS}, m237_4 n x1 x2 x3 s = some (r_, s_) → Zp G (d + 2) 237 4 [some (zr 12 0 209), some (zi x1), some (zi x2), some (zi x3), d4, d5] [] s (zRet (some (zi r_)) s_) := by
  intro n
  induction n with
  | zero => intro x1 x2 x3 d4 d5 s r_ s_ hm; cases hm
  | succ n ih =>
  intro x1 x2 x3 d4 d5 s r_ s_ hm
  replace hm : (oC (m181 s) fun z1 s2 => if x3 < z1 then m237_18 (m237_4 n) zFu x1 x2 x3 (0 : Int) (0 : Int) s2 else some (x2, s2)) = some (r_, s_) := hm
  refine z_iload_n (pc' := 5) hM237 rfl rfl rfl ?_
  refine z_aload_n (pc' := 6) hM237 rfl rfl rfl ?_
  obtain ⟨z1, s2, h3, hm⟩ := o_c hm
  refine z_cv (d := d + 1) (pc' := 9) hM237 rfl hM181 rfl rfl rfl rfl rfl rfl (c181 (d := d) hG h3) rfl ?_
  refine z_cmpge (pc' := 12) (t := 67) hM237 rfl rfl (fun h4 => ?_) (fun h4 => ?_)
  · replace hm := o_t hm h4
    refine z_iconst (pc' := 13) hM237 rfl rfl rfl ?_
    refine z_istore (pc' := 15) (l' := [some (zr 12 0 209), some (zi x1), some (zi x2), some (zi x3), some (zi (0 : Int)), d5]) hM237 rfl rfl rfl rfl ?_
    refine z_iconst (pc' := 16) hM237 rfl rfl rfl ?_
    refine z_istore (pc' := 18) (l' := [some (zr 12 0 209), some (zi x1), some (zi x2), some (zi x3), some (zi (0 : Int)), some (zi (0 : Int))]) hM237 rfl rfl rfl rfl ?_
    exact c237_18 hG ih hm
  · replace hm := o_f hm h4
    refine z_iload_n (pc' := 68) hM237 rfl rfl rfl ?_
    cases hm
    exact z_retI hM237 rfl rfl ⟨rfl, rfl⟩
def m237 (x1 : Int) (s : zS) : Option (Int × zS) := m237_4 zFu x1 (0 : Int) (0 : Int) s
theorem c237 {G : aHp} {d : Nat} (hG : zG G) {x1 : Int} {s : zS} {r_ : Int} {s_ : zS} (hm : m237 x1 s = some (r_, s_)) : Zp G (d + 2) 237 0 [some (zr 12 0 209), some (zi x1), none, none, none, none] [] s (zRet (some (zi r_)) s_) := by
  replace hm : (m237_4 zFu x1 (0 : Int) (0 : Int) s) = some (r_, s_) := hm
  refine z_iconst (pc' := 1) hM237 rfl rfl rfl ?_
  refine z_istore_n (pc' := 2) (l' := [some (zr 12 0 209), some (zi x1), some (zi (0 : Int)), none, none, none]) hM237 rfl rfl rfl rfl ?_
  refine z_iconst (pc' := 3) hM237 rfl rfl rfl ?_
  refine z_istore_n (pc' := 4) (l' := [some (zr 12 0 209), some (zi x1), some (zi (0 : Int)), some (zi (0 : Int)), none, none]) hM237 rfl rfl rfl rfl ?_
  exact c237_4 hG hm
