/-! ===== methods (by gen_mir.py) ===== -/
def m157_76 : Nat → Nat → Nat → Int → zS → Option (Int × zS)
  | 0, _, _, _, _ => none
  | n + 1, n1, a1, x3, s => oZ (n1 : Nat) fun z1 => if x3 < z1 then oV (s.1 209 2) fun z4 => oZ (z4 + x3) fun z5 => oX z5 1600 (oV (s.1 210 z5) fun z7 => oX x3 n1 (oV (s.1 a1 x3) fun z9 => if z7 = z9 then oZ (x3 + (1 : Int)) fun z12 => m157_76 n n1 a1 z12 s else some ((0 : Int), s))) else some ((1 : Int), s)
theorem c157_76 {G : aHp} {d : Nat} (hG : zG G) : ∀ {n : Nat} {n1 : Nat} {a1 : Nat} {x3 : Int} {d2 : Option zV} {s : zS} {r_ : Int} {s_ : zS}, m157_76 n n1 a1 x3 s = some (r_, s_) → Zp G (d + 2) 157 76 [some (zr 12 0 209), some (zr 101 n1 a1), d2, some (zi x3)] [] s (zRet (some (zi r_)) s_) := by
  intro n
  induction n with
  | zero => intro n1 a1 x3 d2 s r_ s_ hm; cases hm
  | succ n ih =>
  intro n1 a1 x3 d2 s r_ s_ hm
  replace hm : (oZ (n1 : Nat) fun z1 => if x3 < z1 then oV (s.1 209 2) fun z4 => oZ (z4 + x3) fun z5 => oX z5 1600 (oV (s.1 210 z5) fun z7 => oX x3 n1 (oV (s.1 a1 x3) fun z9 => if z7 = z9 then oZ (x3 + (1 : Int)) fun z12 => m157_76 n n1 a1 z12 s else some ((0 : Int), s))) else some ((1 : Int), s)) = some (r_, s_) := hm
  refine z_iload_n (pc' := 77) hM157 rfl rfl rfl ?_
  refine z_aload_n (pc' := 78) hM157 rfl rfl rfl ?_
  obtain ⟨z1, ez1, h2, hm⟩ := o_z hm
  refine z_alen (pc' := 79) (zGN hG) hM157 rfl (Or.inr rfl) rfl ez1 h2 ?_
  refine z_cmpge (pc' := 82) (t := 107) hM157 rfl rfl (fun h3 => ?_) (fun h3 => ?_)
  · replace hm := o_t hm h3
    refine z_aload_n (pc' := 83) hM157 rfl rfl rfl ?_
    refine z_fldR (pc' := 86) hM157 rfl (zf_12_0 hG) rfl rfl ?_
    refine z_aload_n (pc' := 87) hM157 rfl rfl rfl ?_
    obtain ⟨z4, ez4, hm⟩ := o_v hm
    refine z_fldI (pc' := 90) hM157 rfl rfl rfl ez4 ?_
    refine z_iload_n (pc' := 91) hM157 rfl rfl rfl ?_
    obtain ⟨z5, ez5, h6, hm⟩ := o_z hm
    refine z_iadd (pc' := 92) hM157 rfl rfl ez5 h6 ?_
    obtain ⟨h8, hm⟩ := o_x hm
    obtain ⟨z7, ez7, hm⟩ := o_v hm
    refine z_iald (pc' := 93) (zGN hG) hM157 rfl rfl h8 ez7 ?_
    refine z_aload_n (pc' := 94) hM157 rfl rfl rfl ?_
    refine z_iload_n (pc' := 95) hM157 rfl rfl rfl ?_
    obtain ⟨h10, hm⟩ := o_x hm
    obtain ⟨z9, ez9, hm⟩ := o_v hm
    refine z_cald (pc' := 96) hM157 rfl rfl h10 ez9 ?_
    refine z_cmpeq (pc' := 99) (t := 101) hM157 rfl rfl (fun h11 => ?_) (fun h11 => ?_)
    · replace hm := o_t hm h11
      obtain ⟨z12, ez12, h13, hm⟩ := o_z hm
      refine z_iinc (pc' := 104) (l' := [some (zr 12 0 209), some (zr 101 n1 a1), zKd d2, some (zi z12)]) hM157 rfl rfl rfl ez12 h13 rfl rfl ?_
      refine z_goto (t := 76) hM157 rfl ?_
      exact ih hm
    · replace hm := o_f hm h11
      refine z_iconst (pc' := 100) hM157 rfl rfl rfl ?_
      cases hm
      exact z_retZ hM157 rfl rfl (Or.inl rfl) ⟨rfl, rfl⟩
  · replace hm := o_f hm h3
    refine z_iconst (pc' := 108) hM157 rfl rfl rfl ?_
    cases hm
    exact z_retZ hM157 rfl rfl (Or.inr rfl) ⟨rfl, rfl⟩
def m157_61 (n1 : Nat) (a1 : Nat) (x2 : Int) (s : zS) : Option (Int × zS) := oV (s.1 209 2) fun z1 => oZ (x2 - z1) fun z2 => oZ (n1 : Nat) fun z4 => if z2 = z4 then m157_76 zFu n1 a1 (0 : Int) s else some ((0 : Int), s)
theorem c157_61 {G : aHp} {d : Nat} (hG : zG G) {n1 : Nat} {a1 : Nat} {x2 : Int} {d3 : Option zV} {s : zS} {r_ : Int} {s_ : zS} (hm : m157_61 n1 a1 x2 s = some (r_, s_)) : Zp G (d + 2) 157 61 [some (zr 12 0 209), some (zr 101 n1 a1), some (zi x2), d3] [] s (zRet (some (zi r_)) s_) := by
  replace hm : (oV (s.1 209 2) fun z1 => oZ (x2 - z1) fun z2 => oZ (n1 : Nat) fun z4 => if z2 = z4 then m157_76 zFu n1 a1 (0 : Int) s else some ((0 : Int), s)) = some (r_, s_) := hm
  refine z_iload_n (pc' := 62) hM157 rfl rfl rfl ?_
  refine z_aload_n (pc' := 63) hM157 rfl rfl rfl ?_
  obtain ⟨z1, ez1, hm⟩ := o_v hm
  refine z_fldI (pc' := 66) hM157 rfl rfl rfl ez1 ?_
  obtain ⟨z2, ez2, h3, hm⟩ := o_z hm
  refine z_isub (pc' := 67) hM157 rfl rfl ez2 h3 ?_
  refine z_aload_n (pc' := 68) hM157 rfl rfl rfl ?_
  obtain ⟨z4, ez4, h5, hm⟩ := o_z hm
  refine z_alen (pc' := 69) (zGN hG) hM157 rfl (Or.inr rfl) rfl ez4 h5 ?_
  refine z_cmpeq (pc' := 72) (t := 74) hM157 rfl rfl (fun h6 => ?_) (fun h6 => ?_)
  · replace hm := o_t hm h6
    refine z_iconst (pc' := 75) hM157 rfl rfl rfl ?_
    refine z_istore_n (pc' := 76) (l' := [some (zr 12 0 209), some (zr 101 n1 a1), some (zi x2), some (zi (0 : Int))]) hM157 rfl rfl rfl rfl ?_
    exact c157_76 hG hm
  · replace hm := o_f hm h6
    refine z_iconst (pc' := 73) hM157 rfl rfl rfl ?_
    cases hm
    exact z_retZ hM157 rfl rfl (Or.inl rfl) ⟨rfl, rfl⟩
def m157_35 : Nat → Nat → Nat → Int → zS → Option (Int × zS)
  | 0, _, _, _, _ => none
  | n + 1, n1, a1, x2, s => oV (s.1 209 3) fun z1 => if x2 < z1 then oX x2 1600 (oV (s.1 210 x2) fun z3 => oC (m154 z3 s) fun z5 s6 => if z5 = (0 : Int) then m157_61 n1 a1 x2 s6 else oZ (x2 + (1 : Int)) fun z9 => m157_35 n n1 a1 z9 s6) else m157_61 n1 a1 x2 s
theorem c157_35 {G : aHp} {d : Nat} (hG : zG G) : ∀ {n : Nat} {n1 : Nat} {a1 : Nat} {x2 : Int} {d3 : Option zV} {s : zS} {r_ : Int} {s_ : zS}, m157_35 n n1 a1 x2 s = some (r_, s_) → Zp G (d + 2) 157 35 [some (zr 12 0 209), some (zr 101 n1 a1), some (zi x2), d3] [] s (zRet (some (zi r_)) s_) := by
  intro n
  induction n with
  | zero => intro n1 a1 x2 d3 s r_ s_ hm; cases hm
  | succ n ih =>
  intro n1 a1 x2 d3 s r_ s_ hm
  replace hm : (oV (s.1 209 3) fun z1 => if x2 < z1 then oX x2 1600 (oV (s.1 210 x2) fun z3 => oC (m154 z3 s) fun z5 s6 => if z5 = (0 : Int) then m157_61 n1 a1 x2 s6 else oZ (x2 + (1 : Int)) fun z9 => m157_35 n n1 a1 z9 s6) else m157_61 n1 a1 x2 s) = some (r_, s_) := hm
  refine z_iload_n (pc' := 36) hM157 rfl rfl rfl ?_
  refine z_aload_n (pc' := 37) hM157 rfl rfl rfl ?_
  obtain ⟨z1, ez1, hm⟩ := o_v hm
  refine z_fldI (pc' := 40) hM157 rfl rfl rfl ez1 ?_
  refine z_cmpge (pc' := 43) (t := 61) hM157 rfl rfl (fun h2 => ?_) (fun h2 => ?_)
  · replace hm := o_t hm h2
    refine z_aload_n (pc' := 44) hM157 rfl rfl rfl ?_
    refine z_fldR (pc' := 47) hM157 rfl (zf_12_0 hG) rfl rfl ?_
    refine z_iload_n (pc' := 48) hM157 rfl rfl rfl ?_
    obtain ⟨h4, hm⟩ := o_x hm
    obtain ⟨z3, ez3, hm⟩ := o_v hm
    refine z_iald (pc' := 49) (zGN hG) hM157 rfl rfl h4 ez3 ?_
    obtain ⟨z5, s6, h7, hm⟩ := o_c hm
    refine z_cs (d := d + 1) (pc' := 52) hM157 rfl hM154 rfl rfl rfl rfl (c154 (d := d) hG h7) rfl ?_
    refine z_ifeq (pc' := 55) (t := 61) hM157 rfl rfl (fun h8 => ?_) (fun h8 => ?_)
    · replace hm := o_t hm h8
      exact c157_61 hG hm
    · replace hm := o_f hm h8
      obtain ⟨z9, ez9, h10, hm⟩ := o_z hm
      refine z_iinc (pc' := 58) (l' := [some (zr 12 0 209), some (zr 101 n1 a1), some (zi z9), d3]) hM157 rfl rfl rfl ez9 h10 rfl rfl ?_
      refine z_goto (t := 35) hM157 rfl ?_
      exact ih hm
  · replace hm := o_f hm h2
    exact c157_61 hG hm
def m157 (n1 : Nat) (a1 : Nat) (s : zS) : Option (Int × zS) := oV (s.1 209 5) fun z1 => if z1 = (0 : Int) then oC (m156 s) fun z3 s4 => oC (m154 z3 s4) fun z6 s7 => if z6 = (0 : Int) then some ((0 : Int), s7) else oV (s7.1 209 2) fun z10 => oV (s7.1 209 4) fun z11 => if z10 = z11 then some ((0 : Int), s7) else oV (s7.1 209 2) fun z13 => m157_35 zFu n1 a1 z13 s7 else some ((0 : Int), s)
theorem c157 {G : aHp} {d : Nat} (hG : zG G) {n1 : Nat} {a1 : Nat} {s : zS} {r_ : Int} {s_ : zS} (hm : m157 n1 a1 s = some (r_, s_)) : Zp G (d + 2) 157 0 [some (zr 12 0 209), some (zr 101 n1 a1), none, none] [] s (zRet (some (zi r_)) s_) := by
  replace hm : (oV (s.1 209 5) fun z1 => if z1 = (0 : Int) then oC (m156 s) fun z3 s4 => oC (m154 z3 s4) fun z6 s7 => if z6 = (0 : Int) then some ((0 : Int), s7) else oV (s7.1 209 2) fun z10 => oV (s7.1 209 4) fun z11 => if z10 = z11 then some ((0 : Int), s7) else oV (s7.1 209 2) fun z13 => m157_35 zFu n1 a1 z13 s7 else some ((0 : Int), s)) = some (r_, s_) := hm
  refine z_aload_n (pc' := 1) hM157 rfl rfl rfl ?_
  obtain ⟨z1, ez1, hm⟩ := o_v hm
  refine z_fldI (pc' := 4) hM157 rfl rfl rfl ez1 ?_
  refine z_ifne (pc' := 7) (t := 28) hM157 rfl rfl (fun h2 => ?_) (fun h2 => ?_)
  · replace hm := o_t hm h2
    refine z_aload_n (pc' := 8) hM157 rfl rfl rfl ?_
    obtain ⟨z3, s4, h5, hm⟩ := o_c hm
    refine z_cv (d := d + 1) (pc' := 11) hM157 rfl hM156 rfl rfl rfl rfl rfl rfl (c156 (d := d) hG h5) rfl ?_
    obtain ⟨z6, s7, h8, hm⟩ := o_c hm
    refine z_cs (d := d + 1) (pc' := 14) hM157 rfl hM154 rfl rfl rfl rfl (c154 (d := d) hG h8) rfl ?_
    refine z_ifeq (pc' := 17) (t := 28) hM157 rfl rfl (fun h9 => ?_) (fun h9 => ?_)
    · replace hm := o_t hm h9
      refine z_iconst (pc' := 29) hM157 rfl rfl rfl ?_
      cases hm
      exact z_retZ hM157 rfl rfl (Or.inl rfl) ⟨rfl, rfl⟩
    · replace hm := o_f hm h9
      refine z_aload_n (pc' := 18) hM157 rfl rfl rfl ?_
      obtain ⟨z10, ez10, hm⟩ := o_v hm
      refine z_fldI (pc' := 21) hM157 rfl rfl rfl ez10 ?_
      refine z_aload_n (pc' := 22) hM157 rfl rfl rfl ?_
      obtain ⟨z11, ez11, hm⟩ := o_v hm
      refine z_fldI (pc' := 25) hM157 rfl rfl rfl ez11 ?_
      refine z_cmpne (pc' := 28) (t := 30) hM157 rfl rfl (fun h12 => ?_) (fun h12 => ?_)
      · replace hm := o_t hm h12
        refine z_iconst (pc' := 29) hM157 rfl rfl rfl ?_
        cases hm
        exact z_retZ hM157 rfl rfl (Or.inl rfl) ⟨rfl, rfl⟩
      · replace hm := o_f hm h12
        refine z_aload_n (pc' := 31) hM157 rfl rfl rfl ?_
        obtain ⟨z13, ez13, hm⟩ := o_v hm
        refine z_fldI (pc' := 34) hM157 rfl rfl rfl ez13 ?_
        refine z_istore_n (pc' := 35) (l' := [some (zr 12 0 209), some (zr 101 n1 a1), some (zi z13), none]) hM157 rfl rfl rfl rfl ?_
        exact c157_35 hG hm
  · replace hm := o_f hm h2
    refine z_iconst (pc' := 29) hM157 rfl rfl rfl ?_
    cases hm
    exact z_retZ hM157 rfl rfl (Or.inl rfl) ⟨rfl, rfl⟩
def m158 (n1 : Nat) (a1 : Nat) (s : zS) : Option (Int × zS) := oC (m157 n1 a1 s) fun z1 s2 => if z1 = (0 : Int) then some ((0 : Int), s2) else oV (s2.1 209 2) fun z5 => oZ (n1 : Nat) fun z6 => oZ (z5 + z6) fun z8 => oV (sI s2 209 2 z8) fun s10 => oV (s10.1 209 2) fun z11 => oV (sI s10 209 4 z11) fun s12 => some ((1 : Int), s12)
theorem c158 {G : aHp} {d : Nat} (hG : zG G) {n1 : Nat} {a1 : Nat} {s : zS} {r_ : Int} {s_ : zS} (hm : m158 n1 a1 s = some (r_, s_)) : Zp G (d + 3) 158 0 [some (zr 12 0 209), some (zr 101 n1 a1)] [] s (zRet (some (zi r_)) s_) := by
  replace hm : (oC (m157 n1 a1 s) fun z1 s2 => if z1 = (0 : Int) then some ((0 : Int), s2) else oV (s2.1 209 2) fun z5 => oZ (n1 : Nat) fun z6 => oZ (z5 + z6) fun z8 => oV (sI s2 209 2 z8) fun s10 => oV (s10.1 209 2) fun z11 => oV (sI s10 209 4 z11) fun s12 => some ((1 : Int), s12)) = some (r_, s_) := hm
  refine z_aload_n (pc' := 1) hM158 rfl rfl rfl ?_
  refine z_aload_n (pc' := 2) hM158 rfl rfl rfl ?_
  obtain ⟨z1, s2, h3, hm⟩ := o_c hm
  refine z_cv (d := d + 2) (pc' := 5) hM158 rfl hM157 rfl rfl rfl rfl rfl rfl (c157 (d := d) hG h3) rfl ?_
  refine z_ifne (pc' := 8) (t := 10) hM158 rfl rfl (fun h4 => ?_) (fun h4 => ?_)
  · replace hm := o_t hm h4
    refine z_iconst (pc' := 9) hM158 rfl rfl rfl ?_
    cases hm
    exact z_retZ hM158 rfl rfl (Or.inl rfl) ⟨rfl, rfl⟩
  · replace hm := o_f hm h4
    refine z_aload_n (pc' := 11) hM158 rfl rfl rfl ?_
    refine z_dupA (pc' := 12) hM158 rfl rfl ?_
    obtain ⟨z5, ez5, hm⟩ := o_v hm
    refine z_fldI (pc' := 15) hM158 rfl rfl rfl ez5 ?_
    refine z_aload_n (pc' := 16) hM158 rfl rfl rfl ?_
    obtain ⟨z6, ez6, h7, hm⟩ := o_z hm
    refine z_alen (pc' := 17) (zGN hG) hM158 rfl (Or.inr rfl) rfl ez6 h7 ?_
    obtain ⟨z8, ez8, h9, hm⟩ := o_z hm
    refine z_iadd (pc' := 18) hM158 rfl rfl ez8 h9 ?_
    obtain ⟨s10, es10, hm⟩ := o_v hm
    refine z_putI (pc' := 21) hM158 rfl rfl rfl es10 ?_
    refine z_aload_n (pc' := 22) hM158 rfl rfl rfl ?_
    refine z_aload_n (pc' := 23) hM158 rfl rfl rfl ?_
    obtain ⟨z11, ez11, hm⟩ := o_v hm
    refine z_fldI (pc' := 26) hM158 rfl rfl rfl ez11 ?_
    obtain ⟨s12, es12, hm⟩ := o_v hm
    refine z_putI (pc' := 29) hM158 rfl rfl rfl es12 ?_
    refine z_iconst (pc' := 30) hM158 rfl rfl rfl ?_
    cases hm
    exact z_retZ hM158 rfl rfl (Or.inr rfl) ⟨rfl, rfl⟩
def m159 (n1 : Nat) (a1 : Nat) (s : zS) : Option (Int × zS) := oV (s.1 209 5) fun z1 => if z1 = (0 : Int) then oC (m158 n1 a1 s) fun z3 s4 => if z3 = (0 : Int) then oV (s4.1 209 2) fun z7 => oC (m153 (1 : Int) z7 s4) fun z8 s9 => some (0, s9) else some (0, s4) else some (0, s)
theorem c159 {G : aHp} {d : Nat} (hG : zG G) {n1 : Nat} {a1 : Nat} {s : zS} {r_ : Int} {s_ : zS} (hm : m159 n1 a1 s = some (r_, s_)) : Zp G (d + 4) 159 0 [some (zr 12 0 209), some (zr 101 n1 a1)] [] s (zRet none s_) := by
  replace hm : (oV (s.1 209 5) fun z1 => if z1 = (0 : Int) then oC (m158 n1 a1 s) fun z3 s4 => if z3 = (0 : Int) then oV (s4.1 209 2) fun z7 => oC (m153 (1 : Int) z7 s4) fun z8 s9 => some (0, s9) else some (0, s4) else some (0, s)) = some (r_, s_) := hm
  refine z_aload_n (pc' := 1) hM159 rfl rfl rfl ?_
  obtain ⟨z1, ez1, hm⟩ := o_v hm
  refine z_fldI (pc' := 4) hM159 rfl rfl rfl ez1 ?_
  refine z_ifne (pc' := 7) (t := 24) hM159 rfl rfl (fun h2 => ?_) (fun h2 => ?_)
  · replace hm := o_t hm h2
    refine z_aload_n (pc' := 8) hM159 rfl rfl rfl ?_
    refine z_aload_n (pc' := 9) hM159 rfl rfl rfl ?_
    obtain ⟨z3, s4, h5, hm⟩ := o_c hm
    refine z_cv (d := d + 3) (pc' := 12) hM159 rfl hM158 rfl rfl rfl rfl rfl rfl (c158 (d := d) hG h5) rfl ?_
    refine z_ifne (pc' := 15) (t := 24) hM159 rfl rfl (fun h6 => ?_) (fun h6 => ?_)
    · replace hm := o_t hm h6
      refine z_aload_n (pc' := 16) hM159 rfl rfl rfl ?_
      refine z_iconst (pc' := 17) hM159 rfl rfl rfl ?_
      refine z_aload_n (pc' := 18) hM159 rfl rfl rfl ?_
      obtain ⟨z7, ez7, hm⟩ := o_v hm
      refine z_fldI (pc' := 21) hM159 rfl rfl rfl ez7 ?_
      obtain ⟨z8, s9, h10, hm⟩ := o_c hm
      refine z_cvV (d := d + 3) (pc' := 24) hM159 rfl hM153 rfl rfl rfl rfl rfl rfl (c153 (d := d + 2) hG h10) rfl ?_
      cases hm
      exact z_retV hM159 rfl rfl ⟨rfl, rfl⟩
    · replace hm := o_f hm h6
      cases hm
      exact z_retV hM159 rfl rfl ⟨rfl, rfl⟩
  · replace hm := o_f hm h2
    cases hm
    exact z_retV hM159 rfl rfl ⟨rfl, rfl⟩
def m160 (x1 : Int) (s : zS) : Option (Int × zS) := oV (s.1 209 5) fun z1 => if z1 = (0 : Int) then oC (m156 s) fun z3 s4 => if z3 = x1 then oV (s4.1 209 2) fun z7 => oZ (z7 + (1 : Int)) fun z8 => oV (sI s4 209 2 z8) fun s10 => some ((1 : Int), s10) else some ((0 : Int), s4) else some ((0 : Int), s)
theorem c160 {G : aHp} {d : Nat} (hG : zG G) {x1 : Int} {s : zS} {r_ : Int} {s_ : zS} (hm : m160 x1 s = some (r_, s_)) : Zp G (d + 2) 160 0 [some (zr 12 0 209), some (zi x1)] [] s (zRet (some (zi r_)) s_) := by
  replace hm : (oV (s.1 209 5) fun z1 => if z1 = (0 : Int) then oC (m156 s) fun z3 s4 => if z3 = x1 then oV (s4.1 209 2) fun z7 => oZ (z7 + (1 : Int)) fun z8 => oV (sI s4 209 2 z8) fun s10 => some ((1 : Int), s10) else some ((0 : Int), s4) else some ((0 : Int), s)) = some (r_, s_) := hm
  refine z_aload_n (pc' := 1) hM160 rfl rfl rfl ?_
  obtain ⟨z1, ez1, hm⟩ := o_v hm
  refine z_fldI (pc' := 4) hM160 rfl rfl rfl ez1 ?_
  refine z_ifne (pc' := 7) (t := 15) hM160 rfl rfl (fun h2 => ?_) (fun h2 => ?_)
  · replace hm := o_t hm h2
    refine z_aload_n (pc' := 8) hM160 rfl rfl rfl ?_
    obtain ⟨z3, s4, h5, hm⟩ := o_c hm
    refine z_cv (d := d + 1) (pc' := 11) hM160 rfl hM156 rfl rfl rfl rfl rfl rfl (c156 (d := d) hG h5) rfl ?_
    refine z_iload_n (pc' := 12) hM160 rfl rfl rfl ?_
    refine z_cmpeq (pc' := 15) (t := 17) hM160 rfl rfl (fun h6 => ?_) (fun h6 => ?_)
    · replace hm := o_t hm h6
      refine z_aload_n (pc' := 18) hM160 rfl rfl rfl ?_
      refine z_dupA (pc' := 19) hM160 rfl rfl ?_
      obtain ⟨z7, ez7, hm⟩ := o_v hm
      refine z_fldI (pc' := 22) hM160 rfl rfl rfl ez7 ?_
      refine z_iconst (pc' := 23) hM160 rfl rfl rfl ?_
      obtain ⟨z8, ez8, h9, hm⟩ := o_z hm
      refine z_iadd (pc' := 24) hM160 rfl rfl ez8 h9 ?_
      obtain ⟨s10, es10, hm⟩ := o_v hm
      refine z_putI (pc' := 27) hM160 rfl rfl rfl es10 ?_
      refine z_iconst (pc' := 28) hM160 rfl rfl rfl ?_
      cases hm
      exact z_retZ hM160 rfl rfl (Or.inr rfl) ⟨rfl, rfl⟩
    · replace hm := o_f hm h6
      refine z_iconst (pc' := 16) hM160 rfl rfl rfl ?_
      cases hm
      exact z_retZ hM160 rfl rfl (Or.inl rfl) ⟨rfl, rfl⟩
  · replace hm := o_f hm h2
    refine z_iconst (pc' := 16) hM160 rfl rfl rfl ?_
    cases hm
    exact z_retZ hM160 rfl rfl (Or.inl rfl) ⟨rfl, rfl⟩
def m161 (x1 : Int) (s : zS) : Option (Int × zS) := oV (s.1 209 5) fun z1 => if z1 = (0 : Int) then oC (m160 x1 s) fun z3 s4 => if z3 = (0 : Int) then oV (s4.1 209 2) fun z7 => oC (m153 (1 : Int) z7 s4) fun z8 s9 => some (0, s9) else some (0, s4) else some (0, s)
theorem c161 {G : aHp} {d : Nat} (hG : zG G) {x1 : Int} {s : zS} {r_ : Int} {s_ : zS} (hm : m161 x1 s = some (r_, s_)) : Zp G (d + 3) 161 0 [some (zr 12 0 209), some (zi x1)] [] s (zRet none s_) := by
  replace hm : (oV (s.1 209 5) fun z1 => if z1 = (0 : Int) then oC (m160 x1 s) fun z3 s4 => if z3 = (0 : Int) then oV (s4.1 209 2) fun z7 => oC (m153 (1 : Int) z7 s4) fun z8 s9 => some (0, s9) else some (0, s4) else some (0, s)) = some (r_, s_) := hm
  refine z_aload_n (pc' := 1) hM161 rfl rfl rfl ?_
  obtain ⟨z1, ez1, hm⟩ := o_v hm
  refine z_fldI (pc' := 4) hM161 rfl rfl rfl ez1 ?_
  refine z_ifne (pc' := 7) (t := 24) hM161 rfl rfl (fun h2 => ?_) (fun h2 => ?_)
  · replace hm := o_t hm h2
    refine z_aload_n (pc' := 8) hM161 rfl rfl rfl ?_
    refine z_iload_n (pc' := 9) hM161 rfl rfl rfl ?_
    obtain ⟨z3, s4, h5, hm⟩ := o_c hm
    refine z_cv (d := d + 2) (pc' := 12) hM161 rfl hM160 rfl rfl rfl rfl rfl rfl (c160 (d := d) hG h5) rfl ?_
    refine z_ifne (pc' := 15) (t := 24) hM161 rfl rfl (fun h6 => ?_) (fun h6 => ?_)
    · replace hm := o_t hm h6
      refine z_aload_n (pc' := 16) hM161 rfl rfl rfl ?_
      refine z_iconst (pc' := 17) hM161 rfl rfl rfl ?_
      refine z_aload_n (pc' := 18) hM161 rfl rfl rfl ?_
      obtain ⟨z7, ez7, hm⟩ := o_v hm
      refine z_fldI (pc' := 21) hM161 rfl rfl rfl ez7 ?_
      obtain ⟨z8, s9, h10, hm⟩ := o_c hm
      refine z_cvV (d := d + 2) (pc' := 24) hM161 rfl hM153 rfl rfl rfl rfl rfl rfl (c153 (d := d + 1) hG h10) rfl ?_
      cases hm
      exact z_retV hM161 rfl rfl ⟨rfl, rfl⟩
    · replace hm := o_f hm h6
      cases hm
      exact z_retV hM161 rfl rfl ⟨rfl, rfl⟩
  · replace hm := o_f hm h2
    cases hm
    exact z_retV hM161 rfl rfl ⟨rfl, rfl⟩
def m162_129 (x1 : Int) (x2 : Int) (x3 : Int) (x4 : Int) (s : zS) : Option (Int × zS) := oV (s.1 209 2) fun z1 => oV (sI s 209 4 z1) fun s2 => oC (m150 x4 x1 x2 s2) fun z3 s4 => if z3 = (0 : Int) then oC (m153 (2 : Int) x3 s4) fun z7 s8 => some (x4, s8) else some (x4, s4)
set_option maxRecDepth 20000 in
theorem c162_129 {G : aHp} {d : Nat} (hG : zG G) {x1 : Int} {x2 : Int} {x3 : Int} {x4 : Int} {s : zS} {r_ : Int} {s_ : zS} (hm : m162_129 x1 x2 x3 x4 s = some (r_, s_)) : Zp G (d + 2) 162 129 [some (zr 12 0 209), some (zi x1), some (zi x2), some (zi x3), some (zi x4)] [] s (zRet (some (zi r_)) s_) := by
  replace hm : (oV (s.1 209 2) fun z1 => oV (sI s 209 4 z1) fun s2 => oC (m150 x4 x1 x2 s2) fun z3 s4 => if z3 = (0 : Int) then oC (m153 (2 : Int) x3 s4) fun z7 s8 => some (x4, s8) else some (x4, s4)) = some (r_, s_) := hm
  refine z_aload_n (pc' := 130) hM162 rfl rfl rfl ?_
  refine z_aload_n (pc' := 131) hM162 rfl rfl rfl ?_
  obtain ⟨z1, ez1, hm⟩ := o_v hm
  refine z_fldI (pc' := 134) hM162 rfl rfl rfl ez1 ?_
  obtain ⟨s2, es2, hm⟩ := o_v hm
  refine z_putI (pc' := 137) hM162 rfl rfl rfl es2 ?_
  refine z_iload (pc' := 139) hM162 rfl rfl rfl ?_
  refine z_i2l (pc' := 140) hM162 rfl rfl ?_
  refine z_iload_n (pc' := 141) hM162 rfl rfl rfl ?_
  refine z_i2l (pc' := 142) hM162 rfl rfl ?_
  refine z_iload_n (pc' := 143) hM162 rfl rfl rfl ?_
  refine z_i2l (pc' := 144) hM162 rfl rfl ?_
  obtain ⟨z3, s4, h5, hm⟩ := o_c hm
  refine z_cs (d := d + 1) (pc' := 147) hM162 rfl hM150 rfl rfl rfl rfl (c150 (d := d) hG h5) rfl ?_
  refine z_ifne (pc' := 150) (t := 156) hM162 rfl rfl (fun h6 => ?_) (fun h6 => ?_)
  · replace hm := o_t hm h6
    refine z_aload_n (pc' := 151) hM162 rfl rfl rfl ?_
    refine z_iconst (pc' := 152) hM162 rfl rfl rfl ?_
    refine z_iload_n (pc' := 153) hM162 rfl rfl rfl ?_
    obtain ⟨z7, s8, h9, hm⟩ := o_c hm
    refine z_cvV (d := d + 1) (pc' := 156) hM162 rfl hM153 rfl rfl rfl rfl rfl rfl (c153 (d := d) hG h9) rfl ?_
    refine z_iload (pc' := 158) hM162 rfl rfl rfl ?_
    cases hm
    exact z_retI hM162 rfl rfl ⟨rfl, rfl⟩
  · replace hm := o_f hm h6
    refine z_iload (pc' := 158) hM162 rfl rfl rfl ?_
    cases hm
    exact z_retI hM162 rfl rfl ⟨rfl, rfl⟩
def m162_49 : Nat → Int → Int → Int → Int → zS → Option (Int × zS)
  | 0, _, _, _, _, _ => none
  | n + 1, x1, x2, x3, x4, s => oV (s.1 209 2) fun z1 => oV (s.1 209 3) fun z2 => if z1 < z2 then oV (s.1 209 2) fun z4 => oX z4 1600 (oV (s.1 210 z4) fun z5 => oC (m155 z5 s) fun z7 s8 => if z7 = (0 : Int) then m162_129 x1 x2 x3 x4 s8 else oV (s8.1 209 2) fun z11 => oZ (z11 - x3) fun z12 => if z12 = (4 : Int) then oV (s8.1 209 2) fun z15 => oC (m153 (1 : Int) z15 s8) fun z16 s17 => some ((0 : Int), s17) else oZ ((10 : Int) * x4) fun z19 => oV (s8.1 209 2) fun z21 => oX z21 1600 (oV (s8.1 210 z21) fun z22 => oZ (z19 + z22) fun z24 => oZ (z24 - (48 : Int)) fun z26 => oV (s8.1 209 2) fun z28 => oZ (z28 + (1 : Int)) fun z29 => oV (sI s8 209 2 z29) fun s31 => m162_49 n x1 x2 x3 z26 s31)) else m162_129 x1 x2 x3 x4 s
set_option maxRecDepth 20000 in
theorem c162_49 {G : aHp} {d : Nat} (hG : zG G) : ∀ {n : Nat} {x1 : Int} {x2 : Int} {x3 : Int} {x4 : Int} {s : zS} {r_ : Int} {s_ : zS}, m162_49 n x1 x2 x3 x4 s = some (r_, s_) → Zp G (d + 2) 162 49 [some (zr 12 0 209), some (zi x1), some (zi x2), some (zi x3), some (zi x4)] [] s (zRet (some (zi r_)) s_) := by
  intro n
  induction n with
  | zero => intro x1 x2 x3 x4 s r_ s_ hm; cases hm
  | succ n ih =>
  intro x1 x2 x3 x4 s r_ s_ hm
  replace hm : (oV (s.1 209 2) fun z1 => oV (s.1 209 3) fun z2 => if z1 < z2 then oV (s.1 209 2) fun z4 => oX z4 1600 (oV (s.1 210 z4) fun z5 => oC (m155 z5 s) fun z7 s8 => if z7 = (0 : Int) then m162_129 x1 x2 x3 x4 s8 else oV (s8.1 209 2) fun z11 => oZ (z11 - x3) fun z12 => if z12 = (4 : Int) then oV (s8.1 209 2) fun z15 => oC (m153 (1 : Int) z15 s8) fun z16 s17 => some ((0 : Int), s17) else oZ ((10 : Int) * x4) fun z19 => oV (s8.1 209 2) fun z21 => oX z21 1600 (oV (s8.1 210 z21) fun z22 => oZ (z19 + z22) fun z24 => oZ (z24 - (48 : Int)) fun z26 => oV (s8.1 209 2) fun z28 => oZ (z28 + (1 : Int)) fun z29 => oV (sI s8 209 2 z29) fun s31 => m162_49 n x1 x2 x3 z26 s31)) else m162_129 x1 x2 x3 x4 s) = some (r_, s_) := hm
  refine z_aload_n (pc' := 50) hM162 rfl rfl rfl ?_
  obtain ⟨z1, ez1, hm⟩ := o_v hm
  refine z_fldI (pc' := 53) hM162 rfl rfl rfl ez1 ?_
  refine z_aload_n (pc' := 54) hM162 rfl rfl rfl ?_
  obtain ⟨z2, ez2, hm⟩ := o_v hm
  refine z_fldI (pc' := 57) hM162 rfl rfl rfl ez2 ?_
  refine z_cmpge (pc' := 60) (t := 129) hM162 rfl rfl (fun h3 => ?_) (fun h3 => ?_)
  · replace hm := o_t hm h3
    refine z_aload_n (pc' := 61) hM162 rfl rfl rfl ?_
    refine z_fldR (pc' := 64) hM162 rfl (zf_12_0 hG) rfl rfl ?_
    refine z_aload_n (pc' := 65) hM162 rfl rfl rfl ?_
    obtain ⟨z4, ez4, hm⟩ := o_v hm
    refine z_fldI (pc' := 68) hM162 rfl rfl rfl ez4 ?_
    obtain ⟨h6, hm⟩ := o_x hm
    obtain ⟨z5, ez5, hm⟩ := o_v hm
    refine z_iald (pc' := 69) (zGN hG) hM162 rfl rfl h6 ez5 ?_
    obtain ⟨z7, s8, h9, hm⟩ := o_c hm
    refine z_cs (d := d + 1) (pc' := 72) hM162 rfl hM155 rfl rfl rfl rfl (c155 (d := d) hG h9) rfl ?_
    refine z_ifeq (pc' := 75) (t := 129) hM162 rfl rfl (fun h10 => ?_) (fun h10 => ?_)
    · replace hm := o_t hm h10
      exact c162_129 hG hm
    · replace hm := o_f hm h10
      refine z_aload_n (pc' := 76) hM162 rfl rfl rfl ?_
      obtain ⟨z11, ez11, hm⟩ := o_v hm
      refine z_fldI (pc' := 79) hM162 rfl rfl rfl ez11 ?_
      refine z_iload_n (pc' := 80) hM162 rfl rfl rfl ?_
      obtain ⟨z12, ez12, h13, hm⟩ := o_z hm
      refine z_isub (pc' := 81) hM162 rfl rfl ez12 h13 ?_
      refine z_iconst (pc' := 82) hM162 rfl rfl rfl ?_
      refine z_cmpne (pc' := 85) (t := 96) hM162 rfl rfl (fun h14 => ?_) (fun h14 => ?_)
      · replace hm := o_t hm h14
        refine z_aload_n (pc' := 86) hM162 rfl rfl rfl ?_
        refine z_iconst (pc' := 87) hM162 rfl rfl rfl ?_
        refine z_aload_n (pc' := 88) hM162 rfl rfl rfl ?_
        obtain ⟨z15, ez15, hm⟩ := o_v hm
        refine z_fldI (pc' := 91) hM162 rfl rfl rfl ez15 ?_
        obtain ⟨z16, s17, h18, hm⟩ := o_c hm
        refine z_cvV (d := d + 1) (pc' := 94) hM162 rfl hM153 rfl rfl rfl rfl rfl rfl (c153 (d := d) hG h18) rfl ?_
        refine z_iconst (pc' := 95) hM162 rfl rfl rfl ?_
        cases hm
        exact z_retI hM162 rfl rfl ⟨rfl, rfl⟩
      · replace hm := o_f hm h14
        refine z_bipush (pc' := 98) hM162 rfl rfl rfl ?_
        refine z_iload (pc' := 100) hM162 rfl rfl rfl ?_
        obtain ⟨z19, ez19, h20, hm⟩ := o_z hm
        refine z_imul (pc' := 101) hM162 rfl rfl ez19 h20 ?_
        refine z_aload_n (pc' := 102) hM162 rfl rfl rfl ?_
        refine z_fldR (pc' := 105) hM162 rfl (zf_12_0 hG) rfl rfl ?_
        refine z_aload_n (pc' := 106) hM162 rfl rfl rfl ?_
        obtain ⟨z21, ez21, hm⟩ := o_v hm
        refine z_fldI (pc' := 109) hM162 rfl rfl rfl ez21 ?_
        obtain ⟨h23, hm⟩ := o_x hm
        obtain ⟨z22, ez22, hm⟩ := o_v hm
        refine z_iald (pc' := 110) (zGN hG) hM162 rfl rfl h23 ez22 ?_
        obtain ⟨z24, ez24, h25, hm⟩ := o_z hm
        refine z_iadd (pc' := 111) hM162 rfl rfl ez24 h25 ?_
        refine z_bipush (pc' := 113) hM162 rfl rfl rfl ?_
        obtain ⟨z26, ez26, h27, hm⟩ := o_z hm
        refine z_isub (pc' := 114) hM162 rfl rfl ez26 h27 ?_
        refine z_istore (pc' := 116) (l' := [some (zr 12 0 209), some (zi x1), some (zi x2), some (zi x3), some (zi z26)]) hM162 rfl rfl rfl rfl ?_
        refine z_aload_n (pc' := 117) hM162 rfl rfl rfl ?_
        refine z_dupA (pc' := 118) hM162 rfl rfl ?_
        obtain ⟨z28, ez28, hm⟩ := o_v hm
        refine z_fldI (pc' := 121) hM162 rfl rfl rfl ez28 ?_
        refine z_iconst (pc' := 122) hM162 rfl rfl rfl ?_
        obtain ⟨z29, ez29, h30, hm⟩ := o_z hm
        refine z_iadd (pc' := 123) hM162 rfl rfl ez29 h30 ?_
        obtain ⟨s31, es31, hm⟩ := o_v hm
        refine z_putI (pc' := 126) hM162 rfl rfl rfl es31 ?_
        refine z_goto (t := 49) hM162 rfl ?_
        exact ih hm
  · replace hm := o_f hm h3
    exact c162_129 hG hm
def m162 (x1 : Int) (x2 : Int) (s : zS) : Option (Int × zS) := oV (s.1 209 5) fun z1 => if z1 = (0 : Int) then oC (m156 s) fun z3 s4 => oC (m155 z3 s4) fun z6 s7 => if z6 = (0 : Int) then oV (s7.1 209 2) fun z10 => oC (m153 (1 : Int) z10 s7) fun z11 s12 => some ((0 : Int), s12) else oV (s7.1 209 2) fun z14 => oV (s7.1 209 4) fun z15 => if z14 = z15 then oV (s7.1 209 2) fun z17 => oC (m153 (1 : Int) z17 s7) fun z18 s19 => some ((0 : Int), s19) else oV (s7.1 209 2) fun z21 => m162_49 zFu x1 x2 z21 (0 : Int) s7 else some ((0 : Int), s)
set_option maxRecDepth 20000 in
theorem c162 {G : aHp} {d : Nat} (hG : zG G) {x1 : Int} {x2 : Int} {s : zS} {r_ : Int} {s_ : zS} (hm : m162 x1 x2 s = some (r_, s_)) : Zp G (d + 2) 162 0 [some (zr 12 0 209), some (zi x1), some (zi x2), none, none] [] s (zRet (some (zi r_)) s_) := by
  replace hm : (oV (s.1 209 5) fun z1 => if z1 = (0 : Int) then oC (m156 s) fun z3 s4 => oC (m155 z3 s4) fun z6 s7 => if z6 = (0 : Int) then oV (s7.1 209 2) fun z10 => oC (m153 (1 : Int) z10 s7) fun z11 s12 => some ((0 : Int), s12) else oV (s7.1 209 2) fun z14 => oV (s7.1 209 4) fun z15 => if z14 = z15 then oV (s7.1 209 2) fun z17 => oC (m153 (1 : Int) z17 s7) fun z18 s19 => some ((0 : Int), s19) else oV (s7.1 209 2) fun z21 => m162_49 zFu x1 x2 z21 (0 : Int) s7 else some ((0 : Int), s)) = some (r_, s_) := hm
  refine z_aload_n (pc' := 1) hM162 rfl rfl rfl ?_
  obtain ⟨z1, ez1, hm⟩ := o_v hm
  refine z_fldI (pc' := 4) hM162 rfl rfl rfl ez1 ?_
  refine z_ifeq (pc' := 7) (t := 9) hM162 rfl rfl (fun h2 => ?_) (fun h2 => ?_)
  · replace hm := o_t hm h2
    refine z_aload_n (pc' := 10) hM162 rfl rfl rfl ?_
    obtain ⟨z3, s4, h5, hm⟩ := o_c hm
    refine z_cv (d := d + 1) (pc' := 13) hM162 rfl hM156 rfl rfl rfl rfl rfl rfl (c156 (d := d) hG h5) rfl ?_
    obtain ⟨z6, s7, h8, hm⟩ := o_c hm
    refine z_cs (d := d + 1) (pc' := 16) hM162 rfl hM155 rfl rfl rfl rfl (c155 (d := d) hG h8) rfl ?_
    refine z_ifeq (pc' := 19) (t := 30) hM162 rfl rfl (fun h9 => ?_) (fun h9 => ?_)
    · replace hm := o_t hm h9
      refine z_aload_n (pc' := 31) hM162 rfl rfl rfl ?_
      refine z_iconst (pc' := 32) hM162 rfl rfl rfl ?_
      refine z_aload_n (pc' := 33) hM162 rfl rfl rfl ?_
      obtain ⟨z10, ez10, hm⟩ := o_v hm
      refine z_fldI (pc' := 36) hM162 rfl rfl rfl ez10 ?_
      obtain ⟨z11, s12, h13, hm⟩ := o_c hm
      refine z_cvV (d := d + 1) (pc' := 39) hM162 rfl hM153 rfl rfl rfl rfl rfl rfl (c153 (d := d) hG h13) rfl ?_
      refine z_iconst (pc' := 40) hM162 rfl rfl rfl ?_
      cases hm
      exact z_retI hM162 rfl rfl ⟨rfl, rfl⟩
    · replace hm := o_f hm h9
      refine z_aload_n (pc' := 20) hM162 rfl rfl rfl ?_
      obtain ⟨z14, ez14, hm⟩ := o_v hm
      refine z_fldI (pc' := 23) hM162 rfl rfl rfl ez14 ?_
      refine z_aload_n (pc' := 24) hM162 rfl rfl rfl ?_
      obtain ⟨z15, ez15, hm⟩ := o_v hm
      refine z_fldI (pc' := 27) hM162 rfl rfl rfl ez15 ?_
      refine z_cmpne (pc' := 30) (t := 41) hM162 rfl rfl (fun h16 => ?_) (fun h16 => ?_)
      · replace hm := o_t hm h16
        refine z_aload_n (pc' := 31) hM162 rfl rfl rfl ?_
        refine z_iconst (pc' := 32) hM162 rfl rfl rfl ?_
        refine z_aload_n (pc' := 33) hM162 rfl rfl rfl ?_
        obtain ⟨z17, ez17, hm⟩ := o_v hm
        refine z_fldI (pc' := 36) hM162 rfl rfl rfl ez17 ?_
        obtain ⟨z18, s19, h20, hm⟩ := o_c hm
        refine z_cvV (d := d + 1) (pc' := 39) hM162 rfl hM153 rfl rfl rfl rfl rfl rfl (c153 (d := d) hG h20) rfl ?_
        refine z_iconst (pc' := 40) hM162 rfl rfl rfl ?_
        cases hm
        exact z_retI hM162 rfl rfl ⟨rfl, rfl⟩
      · replace hm := o_f hm h16
        refine z_aload_n (pc' := 42) hM162 rfl rfl rfl ?_
        obtain ⟨z21, ez21, hm⟩ := o_v hm
        refine z_fldI (pc' := 45) hM162 rfl rfl rfl ez21 ?_
        refine z_istore_n (pc' := 46) (l' := [some (zr 12 0 209), some (zi x1), some (zi x2), some (zi z21), none]) hM162 rfl rfl rfl rfl ?_
        refine z_iconst (pc' := 47) hM162 rfl rfl rfl ?_
        refine z_istore (pc' := 49) (l' := [some (zr 12 0 209), some (zi x1), some (zi x2), some (zi z21), some (zi (0 : Int))]) hM162 rfl rfl rfl rfl ?_
        exact c162_49 hG hm
  · replace hm := o_f hm h2
    refine z_iconst (pc' := 8) hM162 rfl rfl rfl ?_
    cases hm
    exact z_retI hM162 rfl rfl ⟨rfl, rfl⟩
def m163_299 (y0 : Int) (s : zS) : Option (Int × zS) := if y0 = (0 : Int) then oC (m157 2 236 s) fun z2 s3 => if z2 = (0 : Int) then oC (m157 3 237 s3) fun z6 s7 => if z6 = (0 : Int) then oC (m157 3 238 s7) fun z10 s11 => if z10 = (0 : Int) then oC (m157 3 239 s11) fun z14 s15 => if z14 = (0 : Int) then oC (m157 3 240 s15) fun z18 s19 => if z18 = (0 : Int) then oC (m157 3 241 s19) fun z22 s23 => if z22 = (0 : Int) then some ((0 : Int), s23) else some ((1 : Int), s23) else some ((1 : Int), s19) else some ((1 : Int), s15) else some ((1 : Int), s11) else some ((1 : Int), s7) else some ((1 : Int), s3) else some ((1 : Int), s)
set_option maxRecDepth 20000 in
theorem c163_299 {G : aHp} {d : Nat} (hG : zG G) {y0 : Int} {d1 : Option zV} {s : zS} {r_ : Int} {s_ : zS} (hm : m163_299 y0 s = some (r_, s_)) : Zp G (d + 3) 163 299 [some (zr 12 0 209), d1] [zi y0] s (zRet (some (zi r_)) s_) := by
  replace hm : (if y0 = (0 : Int) then oC (m157 2 236 s) fun z2 s3 => if z2 = (0 : Int) then oC (m157 3 237 s3) fun z6 s7 => if z6 = (0 : Int) then oC (m157 3 238 s7) fun z10 s11 => if z10 = (0 : Int) then oC (m157 3 239 s11) fun z14 s15 => if z14 = (0 : Int) then oC (m157 3 240 s15) fun z18 s19 => if z18 = (0 : Int) then oC (m157 3 241 s19) fun z22 s23 => if z22 = (0 : Int) then some ((0 : Int), s23) else some ((1 : Int), s23) else some ((1 : Int), s19) else some ((1 : Int), s15) else some ((1 : Int), s11) else some ((1 : Int), s7) else some ((1 : Int), s3) else some ((1 : Int), s)) = some (r_, s_) := hm
  refine z_istore_n (pc' := 300) (l' := [some (zr 12 0 209), some (zi y0)]) hM163 rfl rfl rfl rfl ?_
  refine z_iload_n (pc' := 301) hM163 rfl rfl rfl ?_
  refine z_ifne (pc' := 304) (t := 370) hM163 rfl rfl (fun h1 => ?_) (fun h1 => ?_)
  · replace hm := o_t hm h1
    refine z_aload_n (pc' := 305) hM163 rfl rfl rfl ?_
    refine z_aload_n (pc' := 306) hM163 rfl rfl rfl ?_
    refine z_fldR (pc' := 309) hM163 rfl (zf_12_34 hG) rfl rfl ?_
    obtain ⟨z2, s3, h4, hm⟩ := o_c hm
    refine z_cv (d := d + 2) (pc' := 312) hM163 rfl hM157 rfl rfl rfl rfl rfl rfl (c157 (d := d) hG h4) rfl ?_
    refine z_ifne (pc' := 315) (t := 370) hM163 rfl rfl (fun h5 => ?_) (fun h5 => ?_)
    · replace hm := o_t hm h5
      refine z_aload_n (pc' := 316) hM163 rfl rfl rfl ?_
      refine z_aload_n (pc' := 317) hM163 rfl rfl rfl ?_
      refine z_fldR (pc' := 320) hM163 rfl (zf_12_35 hG) rfl rfl ?_
      obtain ⟨z6, s7, h8, hm⟩ := o_c hm
      refine z_cv (d := d + 2) (pc' := 323) hM163 rfl hM157 rfl rfl rfl rfl rfl rfl (c157 (d := d) hG h8) rfl ?_
      refine z_ifne (pc' := 326) (t := 370) hM163 rfl rfl (fun h9 => ?_) (fun h9 => ?_)
      · replace hm := o_t hm h9
        refine z_aload_n (pc' := 327) hM163 rfl rfl rfl ?_
        refine z_aload_n (pc' := 328) hM163 rfl rfl rfl ?_
        refine z_fldR (pc' := 331) hM163 rfl (zf_12_36 hG) rfl rfl ?_
        obtain ⟨z10, s11, h12, hm⟩ := o_c hm
        refine z_cv (d := d + 2) (pc' := 334) hM163 rfl hM157 rfl rfl rfl rfl rfl rfl (c157 (d := d) hG h12) rfl ?_
        refine z_ifne (pc' := 337) (t := 370) hM163 rfl rfl (fun h13 => ?_) (fun h13 => ?_)
        · replace hm := o_t hm h13
          refine z_aload_n (pc' := 338) hM163 rfl rfl rfl ?_
          refine z_aload_n (pc' := 339) hM163 rfl rfl rfl ?_
          refine z_fldR (pc' := 342) hM163 rfl (zf_12_37 hG) rfl rfl ?_
          obtain ⟨z14, s15, h16, hm⟩ := o_c hm
          refine z_cv (d := d + 2) (pc' := 345) hM163 rfl hM157 rfl rfl rfl rfl rfl rfl (c157 (d := d) hG h16) rfl ?_
          refine z_ifne (pc' := 348) (t := 370) hM163 rfl rfl (fun h17 => ?_) (fun h17 => ?_)
          · replace hm := o_t hm h17
            refine z_aload_n (pc' := 349) hM163 rfl rfl rfl ?_
            refine z_aload_n (pc' := 350) hM163 rfl rfl rfl ?_
            refine z_fldR (pc' := 353) hM163 rfl (zf_12_38 hG) rfl rfl ?_
            obtain ⟨z18, s19, h20, hm⟩ := o_c hm
            refine z_cv (d := d + 2) (pc' := 356) hM163 rfl hM157 rfl rfl rfl rfl rfl rfl (c157 (d := d) hG h20) rfl ?_
            refine z_ifne (pc' := 359) (t := 370) hM163 rfl rfl (fun h21 => ?_) (fun h21 => ?_)
            · replace hm := o_t hm h21
              refine z_aload_n (pc' := 360) hM163 rfl rfl rfl ?_
              refine z_aload_n (pc' := 361) hM163 rfl rfl rfl ?_
              refine z_fldR (pc' := 364) hM163 rfl (zf_12_39 hG) rfl rfl ?_
              obtain ⟨z22, s23, h24, hm⟩ := o_c hm
              refine z_cv (d := d + 2) (pc' := 367) hM163 rfl hM157 rfl rfl rfl rfl rfl rfl (c157 (d := d) hG h24) rfl ?_
              refine z_ifeq (pc' := 370) (t := 374) hM163 rfl rfl (fun h25 => ?_) (fun h25 => ?_)
              · replace hm := o_t hm h25
                refine z_iconst (pc' := 375) hM163 rfl rfl rfl ?_
                refine z_istore_n (pc' := 376) (l' := [some (zr 12 0 209), some (zi (0 : Int))]) hM163 rfl rfl rfl rfl ?_
                refine z_iload_n (pc' := 377) hM163 rfl rfl rfl ?_
                cases hm
                exact z_retZ hM163 rfl rfl (Or.inl rfl) ⟨rfl, rfl⟩
              · replace hm := o_f hm h25
                refine z_iconst (pc' := 371) hM163 rfl rfl rfl ?_
                refine z_goto (t := 375) hM163 rfl ?_
                refine z_istore_n (pc' := 376) (l' := [some (zr 12 0 209), some (zi (1 : Int))]) hM163 rfl rfl rfl rfl ?_
                refine z_iload_n (pc' := 377) hM163 rfl rfl rfl ?_
                cases hm
                exact z_retZ hM163 rfl rfl (Or.inr rfl) ⟨rfl, rfl⟩
            · replace hm := o_f hm h21
              refine z_iconst (pc' := 371) hM163 rfl rfl rfl ?_
              refine z_goto (t := 375) hM163 rfl ?_
              refine z_istore_n (pc' := 376) (l' := [some (zr 12 0 209), some (zi (1 : Int))]) hM163 rfl rfl rfl rfl ?_
              refine z_iload_n (pc' := 377) hM163 rfl rfl rfl ?_
              cases hm
              exact z_retZ hM163 rfl rfl (Or.inr rfl) ⟨rfl, rfl⟩
          · replace hm := o_f hm h17
            refine z_iconst (pc' := 371) hM163 rfl rfl rfl ?_
            refine z_goto (t := 375) hM163 rfl ?_
            refine z_istore_n (pc' := 376) (l' := [some (zr 12 0 209), some (zi (1 : Int))]) hM163 rfl rfl rfl rfl ?_
            refine z_iload_n (pc' := 377) hM163 rfl rfl rfl ?_
            cases hm
            exact z_retZ hM163 rfl rfl (Or.inr rfl) ⟨rfl, rfl⟩
        · replace hm := o_f hm h13
          refine z_iconst (pc' := 371) hM163 rfl rfl rfl ?_
          refine z_goto (t := 375) hM163 rfl ?_
          refine z_istore_n (pc' := 376) (l' := [some (zr 12 0 209), some (zi (1 : Int))]) hM163 rfl rfl rfl rfl ?_
          refine z_iload_n (pc' := 377) hM163 rfl rfl rfl ?_
          cases hm
          exact z_retZ hM163 rfl rfl (Or.inr rfl) ⟨rfl, rfl⟩
      · replace hm := o_f hm h9
        refine z_iconst (pc' := 371) hM163 rfl rfl rfl ?_
        refine z_goto (t := 375) hM163 rfl ?_
        refine z_istore_n (pc' := 376) (l' := [some (zr 12 0 209), some (zi (1 : Int))]) hM163 rfl rfl rfl rfl ?_
        refine z_iload_n (pc' := 377) hM163 rfl rfl rfl ?_
        cases hm
        exact z_retZ hM163 rfl rfl (Or.inr rfl) ⟨rfl, rfl⟩
    · replace hm := o_f hm h5
      refine z_iconst (pc' := 371) hM163 rfl rfl rfl ?_
      refine z_goto (t := 375) hM163 rfl ?_
      refine z_istore_n (pc' := 376) (l' := [some (zr 12 0 209), some (zi (1 : Int))]) hM163 rfl rfl rfl rfl ?_
      refine z_iload_n (pc' := 377) hM163 rfl rfl rfl ?_
      cases hm
      exact z_retZ hM163 rfl rfl (Or.inr rfl) ⟨rfl, rfl⟩
  · replace hm := o_f hm h1
    refine z_iconst (pc' := 371) hM163 rfl rfl rfl ?_
    refine z_goto (t := 375) hM163 rfl ?_
    refine z_istore_n (pc' := 376) (l' := [some (zr 12 0 209), some (zi (1 : Int))]) hM163 rfl rfl rfl rfl ?_
    refine z_iload_n (pc' := 377) hM163 rfl rfl rfl ?_
    cases hm
    exact z_retZ hM163 rfl rfl (Or.inr rfl) ⟨rfl, rfl⟩
def m163_223 (y0 : Int) (s : zS) : Option (Int × zS) := if y0 = (0 : Int) then oC (m157 6 230 s) fun z2 s3 => if z2 = (0 : Int) then oC (m157 3 231 s3) fun z6 s7 => if z6 = (0 : Int) then oC (m157 6 232 s7) fun z10 s11 => if z10 = (0 : Int) then oC (m157 5 233 s11) fun z14 s15 => if z14 = (0 : Int) then oC (m157 4 234 s15) fun z18 s19 => if z18 = (0 : Int) then oC (m157 3 235 s19) fun z22 s23 => if z22 = (0 : Int) then m163_299 (0 : Int) s23 else m163_299 (1 : Int) s23 else m163_299 (1 : Int) s19 else m163_299 (1 : Int) s15 else m163_299 (1 : Int) s11 else m163_299 (1 : Int) s7 else m163_299 (1 : Int) s3 else m163_299 (1 : Int) s
set_option maxRecDepth 20000 in
theorem c163_223 {G : aHp} {d : Nat} (hG : zG G) {y0 : Int} {d1 : Option zV} {s : zS} {r_ : Int} {s_ : zS} (hm : m163_223 y0 s = some (r_, s_)) : Zp G (d + 3) 163 223 [some (zr 12 0 209), d1] [zi y0] s (zRet (some (zi r_)) s_) := by
  replace hm : (if y0 = (0 : Int) then oC (m157 6 230 s) fun z2 s3 => if z2 = (0 : Int) then oC (m157 3 231 s3) fun z6 s7 => if z6 = (0 : Int) then oC (m157 6 232 s7) fun z10 s11 => if z10 = (0 : Int) then oC (m157 5 233 s11) fun z14 s15 => if z14 = (0 : Int) then oC (m157 4 234 s15) fun z18 s19 => if z18 = (0 : Int) then oC (m157 3 235 s19) fun z22 s23 => if z22 = (0 : Int) then m163_299 (0 : Int) s23 else m163_299 (1 : Int) s23 else m163_299 (1 : Int) s19 else m163_299 (1 : Int) s15 else m163_299 (1 : Int) s11 else m163_299 (1 : Int) s7 else m163_299 (1 : Int) s3 else m163_299 (1 : Int) s) = some (r_, s_) := hm
  refine z_istore_n (pc' := 224) (l' := [some (zr 12 0 209), some (zi y0)]) hM163 rfl rfl rfl rfl ?_
  refine z_iload_n (pc' := 225) hM163 rfl rfl rfl ?_
  refine z_ifne (pc' := 228) (t := 294) hM163 rfl rfl (fun h1 => ?_) (fun h1 => ?_)
  · replace hm := o_t hm h1
    refine z_aload_n (pc' := 229) hM163 rfl rfl rfl ?_
    refine z_aload_n (pc' := 230) hM163 rfl rfl rfl ?_
    refine z_fldR (pc' := 233) hM163 rfl (zf_12_28 hG) rfl rfl ?_
    obtain ⟨z2, s3, h4, hm⟩ := o_c hm
    refine z_cv (d := d + 2) (pc' := 236) hM163 rfl hM157 rfl rfl rfl rfl rfl rfl (c157 (d := d) hG h4) rfl ?_
    refine z_ifne (pc' := 239) (t := 294) hM163 rfl rfl (fun h5 => ?_) (fun h5 => ?_)
    · replace hm := o_t hm h5
      refine z_aload_n (pc' := 240) hM163 rfl rfl rfl ?_
      refine z_aload_n (pc' := 241) hM163 rfl rfl rfl ?_
      refine z_fldR (pc' := 244) hM163 rfl (zf_12_29 hG) rfl rfl ?_
      obtain ⟨z6, s7, h8, hm⟩ := o_c hm
      refine z_cv (d := d + 2) (pc' := 247) hM163 rfl hM157 rfl rfl rfl rfl rfl rfl (c157 (d := d) hG h8) rfl ?_
      refine z_ifne (pc' := 250) (t := 294) hM163 rfl rfl (fun h9 => ?_) (fun h9 => ?_)
      · replace hm := o_t hm h9
        refine z_aload_n (pc' := 251) hM163 rfl rfl rfl ?_
        refine z_aload_n (pc' := 252) hM163 rfl rfl rfl ?_
        refine z_fldR (pc' := 255) hM163 rfl (zf_12_30 hG) rfl rfl ?_
        obtain ⟨z10, s11, h12, hm⟩ := o_c hm
        refine z_cv (d := d + 2) (pc' := 258) hM163 rfl hM157 rfl rfl rfl rfl rfl rfl (c157 (d := d) hG h12) rfl ?_
        refine z_ifne (pc' := 261) (t := 294) hM163 rfl rfl (fun h13 => ?_) (fun h13 => ?_)
        · replace hm := o_t hm h13
          refine z_aload_n (pc' := 262) hM163 rfl rfl rfl ?_
          refine z_aload_n (pc' := 263) hM163 rfl rfl rfl ?_
          refine z_fldR (pc' := 266) hM163 rfl (zf_12_31 hG) rfl rfl ?_
          obtain ⟨z14, s15, h16, hm⟩ := o_c hm
          refine z_cv (d := d + 2) (pc' := 269) hM163 rfl hM157 rfl rfl rfl rfl rfl rfl (c157 (d := d) hG h16) rfl ?_
          refine z_ifne (pc' := 272) (t := 294) hM163 rfl rfl (fun h17 => ?_) (fun h17 => ?_)
          · replace hm := o_t hm h17
            refine z_aload_n (pc' := 273) hM163 rfl rfl rfl ?_
            refine z_aload_n (pc' := 274) hM163 rfl rfl rfl ?_
            refine z_fldR (pc' := 277) hM163 rfl (zf_12_32 hG) rfl rfl ?_
            obtain ⟨z18, s19, h20, hm⟩ := o_c hm
            refine z_cv (d := d + 2) (pc' := 280) hM163 rfl hM157 rfl rfl rfl rfl rfl rfl (c157 (d := d) hG h20) rfl ?_
            refine z_ifne (pc' := 283) (t := 294) hM163 rfl rfl (fun h21 => ?_) (fun h21 => ?_)
            · replace hm := o_t hm h21
              refine z_aload_n (pc' := 284) hM163 rfl rfl rfl ?_
              refine z_aload_n (pc' := 285) hM163 rfl rfl rfl ?_
              refine z_fldR (pc' := 288) hM163 rfl (zf_12_33 hG) rfl rfl ?_
              obtain ⟨z22, s23, h24, hm⟩ := o_c hm
              refine z_cv (d := d + 2) (pc' := 291) hM163 rfl hM157 rfl rfl rfl rfl rfl rfl (c157 (d := d) hG h24) rfl ?_
              refine z_ifeq (pc' := 294) (t := 298) hM163 rfl rfl (fun h25 => ?_) (fun h25 => ?_)
              · replace hm := o_t hm h25
                refine z_iconst (pc' := 299) hM163 rfl rfl rfl ?_
                exact c163_299 hG hm
              · replace hm := o_f hm h25
                refine z_iconst (pc' := 295) hM163 rfl rfl rfl ?_
                refine z_goto (t := 299) hM163 rfl ?_
                exact c163_299 hG hm
            · replace hm := o_f hm h21
              refine z_iconst (pc' := 295) hM163 rfl rfl rfl ?_
              refine z_goto (t := 299) hM163 rfl ?_
              exact c163_299 hG hm
          · replace hm := o_f hm h17
            refine z_iconst (pc' := 295) hM163 rfl rfl rfl ?_
            refine z_goto (t := 299) hM163 rfl ?_
            exact c163_299 hG hm
        · replace hm := o_f hm h13
          refine z_iconst (pc' := 295) hM163 rfl rfl rfl ?_
          refine z_goto (t := 299) hM163 rfl ?_
          exact c163_299 hG hm
      · replace hm := o_f hm h9
        refine z_iconst (pc' := 295) hM163 rfl rfl rfl ?_
        refine z_goto (t := 299) hM163 rfl ?_
        exact c163_299 hG hm
    · replace hm := o_f hm h5
      refine z_iconst (pc' := 295) hM163 rfl rfl rfl ?_
      refine z_goto (t := 299) hM163 rfl ?_
      exact c163_299 hG hm
  · replace hm := o_f hm h1
    refine z_iconst (pc' := 295) hM163 rfl rfl rfl ?_
    refine z_goto (t := 299) hM163 rfl ?_
    exact c163_299 hG hm
def m163_147 (y0 : Int) (s : zS) : Option (Int × zS) := if y0 = (0 : Int) then oC (m157 6 224 s) fun z2 s3 => if z2 = (0 : Int) then oC (m157 3 225 s3) fun z6 s7 => if z6 = (0 : Int) then oC (m157 4 226 s7) fun z10 s11 => if z10 = (0 : Int) then oC (m157 4 227 s11) fun z14 s15 => if z14 = (0 : Int) then oC (m157 5 228 s15) fun z18 s19 => if z18 = (0 : Int) then oC (m157 5 229 s19) fun z22 s23 => if z22 = (0 : Int) then m163_223 (0 : Int) s23 else m163_223 (1 : Int) s23 else m163_223 (1 : Int) s19 else m163_223 (1 : Int) s15 else m163_223 (1 : Int) s11 else m163_223 (1 : Int) s7 else m163_223 (1 : Int) s3 else m163_223 (1 : Int) s
set_option maxRecDepth 20000 in
theorem c163_147 {G : aHp} {d : Nat} (hG : zG G) {y0 : Int} {d1 : Option zV} {s : zS} {r_ : Int} {s_ : zS} (hm : m163_147 y0 s = some (r_, s_)) : Zp G (d + 3) 163 147 [some (zr 12 0 209), d1] [zi y0] s (zRet (some (zi r_)) s_) := by
  replace hm : (if y0 = (0 : Int) then oC (m157 6 224 s) fun z2 s3 => if z2 = (0 : Int) then oC (m157 3 225 s3) fun z6 s7 => if z6 = (0 : Int) then oC (m157 4 226 s7) fun z10 s11 => if z10 = (0 : Int) then oC (m157 4 227 s11) fun z14 s15 => if z14 = (0 : Int) then oC (m157 5 228 s15) fun z18 s19 => if z18 = (0 : Int) then oC (m157 5 229 s19) fun z22 s23 => if z22 = (0 : Int) then m163_223 (0 : Int) s23 else m163_223 (1 : Int) s23 else m163_223 (1 : Int) s19 else m163_223 (1 : Int) s15 else m163_223 (1 : Int) s11 else m163_223 (1 : Int) s7 else m163_223 (1 : Int) s3 else m163_223 (1 : Int) s) = some (r_, s_) := hm
  refine z_istore_n (pc' := 148) (l' := [some (zr 12 0 209), some (zi y0)]) hM163 rfl rfl rfl rfl ?_
  refine z_iload_n (pc' := 149) hM163 rfl rfl rfl ?_
  refine z_ifne (pc' := 152) (t := 218) hM163 rfl rfl (fun h1 => ?_) (fun h1 => ?_)
  · replace hm := o_t hm h1
    refine z_aload_n (pc' := 153) hM163 rfl rfl rfl ?_
    refine z_aload_n (pc' := 154) hM163 rfl rfl rfl ?_
    refine z_fldR (pc' := 157) hM163 rfl (zf_12_22 hG) rfl rfl ?_
    obtain ⟨z2, s3, h4, hm⟩ := o_c hm
    refine z_cv (d := d + 2) (pc' := 160) hM163 rfl hM157 rfl rfl rfl rfl rfl rfl (c157 (d := d) hG h4) rfl ?_
    refine z_ifne (pc' := 163) (t := 218) hM163 rfl rfl (fun h5 => ?_) (fun h5 => ?_)
    · replace hm := o_t hm h5
      refine z_aload_n (pc' := 164) hM163 rfl rfl rfl ?_
      refine z_aload_n (pc' := 165) hM163 rfl rfl rfl ?_
      refine z_fldR (pc' := 168) hM163 rfl (zf_12_23 hG) rfl rfl ?_
      obtain ⟨z6, s7, h8, hm⟩ := o_c hm
      refine z_cv (d := d + 2) (pc' := 171) hM163 rfl hM157 rfl rfl rfl rfl rfl rfl (c157 (d := d) hG h8) rfl ?_
      refine z_ifne (pc' := 174) (t := 218) hM163 rfl rfl (fun h9 => ?_) (fun h9 => ?_)
      · replace hm := o_t hm h9
        refine z_aload_n (pc' := 175) hM163 rfl rfl rfl ?_
        refine z_aload_n (pc' := 176) hM163 rfl rfl rfl ?_
        refine z_fldR (pc' := 179) hM163 rfl (zf_12_24 hG) rfl rfl ?_
        obtain ⟨z10, s11, h12, hm⟩ := o_c hm
        refine z_cv (d := d + 2) (pc' := 182) hM163 rfl hM157 rfl rfl rfl rfl rfl rfl (c157 (d := d) hG h12) rfl ?_
        refine z_ifne (pc' := 185) (t := 218) hM163 rfl rfl (fun h13 => ?_) (fun h13 => ?_)
        · replace hm := o_t hm h13
          refine z_aload_n (pc' := 186) hM163 rfl rfl rfl ?_
          refine z_aload_n (pc' := 187) hM163 rfl rfl rfl ?_
          refine z_fldR (pc' := 190) hM163 rfl (zf_12_25 hG) rfl rfl ?_
          obtain ⟨z14, s15, h16, hm⟩ := o_c hm
          refine z_cv (d := d + 2) (pc' := 193) hM163 rfl hM157 rfl rfl rfl rfl rfl rfl (c157 (d := d) hG h16) rfl ?_
          refine z_ifne (pc' := 196) (t := 218) hM163 rfl rfl (fun h17 => ?_) (fun h17 => ?_)
          · replace hm := o_t hm h17
            refine z_aload_n (pc' := 197) hM163 rfl rfl rfl ?_
            refine z_aload_n (pc' := 198) hM163 rfl rfl rfl ?_
            refine z_fldR (pc' := 201) hM163 rfl (zf_12_26 hG) rfl rfl ?_
            obtain ⟨z18, s19, h20, hm⟩ := o_c hm
            refine z_cv (d := d + 2) (pc' := 204) hM163 rfl hM157 rfl rfl rfl rfl rfl rfl (c157 (d := d) hG h20) rfl ?_
            refine z_ifne (pc' := 207) (t := 218) hM163 rfl rfl (fun h21 => ?_) (fun h21 => ?_)
            · replace hm := o_t hm h21
              refine z_aload_n (pc' := 208) hM163 rfl rfl rfl ?_
              refine z_aload_n (pc' := 209) hM163 rfl rfl rfl ?_
              refine z_fldR (pc' := 212) hM163 rfl (zf_12_27 hG) rfl rfl ?_
              obtain ⟨z22, s23, h24, hm⟩ := o_c hm
              refine z_cv (d := d + 2) (pc' := 215) hM163 rfl hM157 rfl rfl rfl rfl rfl rfl (c157 (d := d) hG h24) rfl ?_
              refine z_ifeq (pc' := 218) (t := 222) hM163 rfl rfl (fun h25 => ?_) (fun h25 => ?_)
              · replace hm := o_t hm h25
                refine z_iconst (pc' := 223) hM163 rfl rfl rfl ?_
                exact c163_223 hG hm
              · replace hm := o_f hm h25
                refine z_iconst (pc' := 219) hM163 rfl rfl rfl ?_
                refine z_goto (t := 223) hM163 rfl ?_
                exact c163_223 hG hm
            · replace hm := o_f hm h21
              refine z_iconst (pc' := 219) hM163 rfl rfl rfl ?_
              refine z_goto (t := 223) hM163 rfl ?_
              exact c163_223 hG hm
          · replace hm := o_f hm h17
            refine z_iconst (pc' := 219) hM163 rfl rfl rfl ?_
            refine z_goto (t := 223) hM163 rfl ?_
            exact c163_223 hG hm
        · replace hm := o_f hm h13
          refine z_iconst (pc' := 219) hM163 rfl rfl rfl ?_
          refine z_goto (t := 223) hM163 rfl ?_
          exact c163_223 hG hm
      · replace hm := o_f hm h9
        refine z_iconst (pc' := 219) hM163 rfl rfl rfl ?_
        refine z_goto (t := 223) hM163 rfl ?_
        exact c163_223 hG hm
    · replace hm := o_f hm h5
      refine z_iconst (pc' := 219) hM163 rfl rfl rfl ?_
      refine z_goto (t := 223) hM163 rfl ?_
      exact c163_223 hG hm
  · replace hm := o_f hm h1
    refine z_iconst (pc' := 219) hM163 rfl rfl rfl ?_
    refine z_goto (t := 223) hM163 rfl ?_
    exact c163_223 hG hm
def m163_71 (y0 : Int) (s : zS) : Option (Int × zS) := if y0 = (0 : Int) then oC (m157 2 218 s) fun z2 s3 => if z2 = (0 : Int) then oC (m157 6 219 s3) fun z6 s7 => if z6 = (0 : Int) then oC (m157 4 220 s7) fun z10 s11 => if z10 = (0 : Int) then oC (m157 2 221 s11) fun z14 s15 => if z14 = (0 : Int) then oC (m157 2 222 s15) fun z18 s19 => if z18 = (0 : Int) then oC (m157 4 223 s19) fun z22 s23 => if z22 = (0 : Int) then m163_147 (0 : Int) s23 else m163_147 (1 : Int) s23 else m163_147 (1 : Int) s19 else m163_147 (1 : Int) s15 else m163_147 (1 : Int) s11 else m163_147 (1 : Int) s7 else m163_147 (1 : Int) s3 else m163_147 (1 : Int) s
set_option maxRecDepth 20000 in
theorem c163_71 {G : aHp} {d : Nat} (hG : zG G) {y0 : Int} {d1 : Option zV} {s : zS} {r_ : Int} {s_ : zS} (hm : m163_71 y0 s = some (r_, s_)) : Zp G (d + 3) 163 71 [some (zr 12 0 209), d1] [zi y0] s (zRet (some (zi r_)) s_) := by
  replace hm : (if y0 = (0 : Int) then oC (m157 2 218 s) fun z2 s3 => if z2 = (0 : Int) then oC (m157 6 219 s3) fun z6 s7 => if z6 = (0 : Int) then oC (m157 4 220 s7) fun z10 s11 => if z10 = (0 : Int) then oC (m157 2 221 s11) fun z14 s15 => if z14 = (0 : Int) then oC (m157 2 222 s15) fun z18 s19 => if z18 = (0 : Int) then oC (m157 4 223 s19) fun z22 s23 => if z22 = (0 : Int) then m163_147 (0 : Int) s23 else m163_147 (1 : Int) s23 else m163_147 (1 : Int) s19 else m163_147 (1 : Int) s15 else m163_147 (1 : Int) s11 else m163_147 (1 : Int) s7 else m163_147 (1 : Int) s3 else m163_147 (1 : Int) s) = some (r_, s_) := hm
  refine z_istore_n (pc' := 72) (l' := [some (zr 12 0 209), some (zi y0)]) hM163 rfl rfl rfl rfl ?_
  refine z_iload_n (pc' := 73) hM163 rfl rfl rfl ?_
  refine z_ifne (pc' := 76) (t := 142) hM163 rfl rfl (fun h1 => ?_) (fun h1 => ?_)
  · replace hm := o_t hm h1
    refine z_aload_n (pc' := 77) hM163 rfl rfl rfl ?_
    refine z_aload_n (pc' := 78) hM163 rfl rfl rfl ?_
    refine z_fldR (pc' := 81) hM163 rfl (zf_12_16 hG) rfl rfl ?_
    obtain ⟨z2, s3, h4, hm⟩ := o_c hm
    refine z_cv (d := d + 2) (pc' := 84) hM163 rfl hM157 rfl rfl rfl rfl rfl rfl (c157 (d := d) hG h4) rfl ?_
    refine z_ifne (pc' := 87) (t := 142) hM163 rfl rfl (fun h5 => ?_) (fun h5 => ?_)
    · replace hm := o_t hm h5
      refine z_aload_n (pc' := 88) hM163 rfl rfl rfl ?_
      refine z_aload_n (pc' := 89) hM163 rfl rfl rfl ?_
      refine z_fldR (pc' := 92) hM163 rfl (zf_12_17 hG) rfl rfl ?_
      obtain ⟨z6, s7, h8, hm⟩ := o_c hm
      refine z_cv (d := d + 2) (pc' := 95) hM163 rfl hM157 rfl rfl rfl rfl rfl rfl (c157 (d := d) hG h8) rfl ?_
      refine z_ifne (pc' := 98) (t := 142) hM163 rfl rfl (fun h9 => ?_) (fun h9 => ?_)
      · replace hm := o_t hm h9
        refine z_aload_n (pc' := 99) hM163 rfl rfl rfl ?_
        refine z_aload_n (pc' := 100) hM163 rfl rfl rfl ?_
        refine z_fldR (pc' := 103) hM163 rfl (zf_12_18 hG) rfl rfl ?_
        obtain ⟨z10, s11, h12, hm⟩ := o_c hm
        refine z_cv (d := d + 2) (pc' := 106) hM163 rfl hM157 rfl rfl rfl rfl rfl rfl (c157 (d := d) hG h12) rfl ?_
        refine z_ifne (pc' := 109) (t := 142) hM163 rfl rfl (fun h13 => ?_) (fun h13 => ?_)
        · replace hm := o_t hm h13
          refine z_aload_n (pc' := 110) hM163 rfl rfl rfl ?_
          refine z_aload_n (pc' := 111) hM163 rfl rfl rfl ?_
          refine z_fldR (pc' := 114) hM163 rfl (zf_12_19 hG) rfl rfl ?_
          obtain ⟨z14, s15, h16, hm⟩ := o_c hm
          refine z_cv (d := d + 2) (pc' := 117) hM163 rfl hM157 rfl rfl rfl rfl rfl rfl (c157 (d := d) hG h16) rfl ?_
          refine z_ifne (pc' := 120) (t := 142) hM163 rfl rfl (fun h17 => ?_) (fun h17 => ?_)
          · replace hm := o_t hm h17
            refine z_aload_n (pc' := 121) hM163 rfl rfl rfl ?_
            refine z_aload_n (pc' := 122) hM163 rfl rfl rfl ?_
            refine z_fldR (pc' := 125) hM163 rfl (zf_12_20 hG) rfl rfl ?_
            obtain ⟨z18, s19, h20, hm⟩ := o_c hm
            refine z_cv (d := d + 2) (pc' := 128) hM163 rfl hM157 rfl rfl rfl rfl rfl rfl (c157 (d := d) hG h20) rfl ?_
            refine z_ifne (pc' := 131) (t := 142) hM163 rfl rfl (fun h21 => ?_) (fun h21 => ?_)
            · replace hm := o_t hm h21
              refine z_aload_n (pc' := 132) hM163 rfl rfl rfl ?_
              refine z_aload_n (pc' := 133) hM163 rfl rfl rfl ?_
              refine z_fldR (pc' := 136) hM163 rfl (zf_12_21 hG) rfl rfl ?_
              obtain ⟨z22, s23, h24, hm⟩ := o_c hm
              refine z_cv (d := d + 2) (pc' := 139) hM163 rfl hM157 rfl rfl rfl rfl rfl rfl (c157 (d := d) hG h24) rfl ?_
              refine z_ifeq (pc' := 142) (t := 146) hM163 rfl rfl (fun h25 => ?_) (fun h25 => ?_)
              · replace hm := o_t hm h25
                refine z_iconst (pc' := 147) hM163 rfl rfl rfl ?_
                exact c163_147 hG hm
              · replace hm := o_f hm h25
                refine z_iconst (pc' := 143) hM163 rfl rfl rfl ?_
                refine z_goto (t := 147) hM163 rfl ?_
                exact c163_147 hG hm
            · replace hm := o_f hm h21
              refine z_iconst (pc' := 143) hM163 rfl rfl rfl ?_
              refine z_goto (t := 147) hM163 rfl ?_
              exact c163_147 hG hm
          · replace hm := o_f hm h17
            refine z_iconst (pc' := 143) hM163 rfl rfl rfl ?_
            refine z_goto (t := 147) hM163 rfl ?_
            exact c163_147 hG hm
        · replace hm := o_f hm h13
          refine z_iconst (pc' := 143) hM163 rfl rfl rfl ?_
          refine z_goto (t := 147) hM163 rfl ?_
          exact c163_147 hG hm
      · replace hm := o_f hm h9
        refine z_iconst (pc' := 143) hM163 rfl rfl rfl ?_
        refine z_goto (t := 147) hM163 rfl ?_
        exact c163_147 hG hm
    · replace hm := o_f hm h5
      refine z_iconst (pc' := 143) hM163 rfl rfl rfl ?_
      refine z_goto (t := 147) hM163 rfl ?_
      exact c163_147 hG hm
  · replace hm := o_f hm h1
    refine z_iconst (pc' := 143) hM163 rfl rfl rfl ?_
    refine z_goto (t := 147) hM163 rfl ?_
    exact c163_147 hG hm
def m163  (s : zS) : Option (Int × zS) := oC (m157 5 212 s) fun z1 s2 => if z1 = (0 : Int) then oC (m157 4 213 s2) fun z5 s6 => if z5 = (0 : Int) then oC (m157 5 214 s6) fun z9 s10 => if z9 = (0 : Int) then oC (m157 4 215 s10) fun z13 s14 => if z13 = (0 : Int) then oC (m157 4 216 s14) fun z17 s18 => if z17 = (0 : Int) then oC (m157 5 217 s18) fun z21 s22 => if z21 = (0 : Int) then m163_71 (0 : Int) s22 else m163_71 (1 : Int) s22 else m163_71 (1 : Int) s18 else m163_71 (1 : Int) s14 else m163_71 (1 : Int) s10 else m163_71 (1 : Int) s6 else m163_71 (1 : Int) s2
set_option maxRecDepth 20000 in
theorem c163 {G : aHp} {d : Nat} (hG : zG G) {s : zS} {r_ : Int} {s_ : zS} (hm : m163  s = some (r_, s_)) : Zp G (d + 3) 163 0 [some (zr 12 0 209), none] [] s (zRet (some (zi r_)) s_) := by
  replace hm : (oC (m157 5 212 s) fun z1 s2 => if z1 = (0 : Int) then oC (m157 4 213 s2) fun z5 s6 => if z5 = (0 : Int) then oC (m157 5 214 s6) fun z9 s10 => if z9 = (0 : Int) then oC (m157 4 215 s10) fun z13 s14 => if z13 = (0 : Int) then oC (m157 4 216 s14) fun z17 s18 => if z17 = (0 : Int) then oC (m157 5 217 s18) fun z21 s22 => if z21 = (0 : Int) then m163_71 (0 : Int) s22 else m163_71 (1 : Int) s22 else m163_71 (1 : Int) s18 else m163_71 (1 : Int) s14 else m163_71 (1 : Int) s10 else m163_71 (1 : Int) s6 else m163_71 (1 : Int) s2) = some (r_, s_) := hm
  refine z_aload_n (pc' := 1) hM163 rfl rfl rfl ?_
  refine z_aload_n (pc' := 2) hM163 rfl rfl rfl ?_
  refine z_fldR (pc' := 5) hM163 rfl (zf_12_10 hG) rfl rfl ?_
  obtain ⟨z1, s2, h3, hm⟩ := o_c hm
  refine z_cv (d := d + 2) (pc' := 8) hM163 rfl hM157 rfl rfl rfl rfl rfl rfl (c157 (d := d) hG h3) rfl ?_
  refine z_ifne (pc' := 11) (t := 66) hM163 rfl rfl (fun h4 => ?_) (fun h4 => ?_)
  · replace hm := o_t hm h4
    refine z_aload_n (pc' := 12) hM163 rfl rfl rfl ?_
    refine z_aload_n (pc' := 13) hM163 rfl rfl rfl ?_
    refine z_fldR (pc' := 16) hM163 rfl (zf_12_11 hG) rfl rfl ?_
    obtain ⟨z5, s6, h7, hm⟩ := o_c hm
    refine z_cv (d := d + 2) (pc' := 19) hM163 rfl hM157 rfl rfl rfl rfl rfl rfl (c157 (d := d) hG h7) rfl ?_
    refine z_ifne (pc' := 22) (t := 66) hM163 rfl rfl (fun h8 => ?_) (fun h8 => ?_)
    · replace hm := o_t hm h8
      refine z_aload_n (pc' := 23) hM163 rfl rfl rfl ?_
      refine z_aload_n (pc' := 24) hM163 rfl rfl rfl ?_
      refine z_fldR (pc' := 27) hM163 rfl (zf_12_12 hG) rfl rfl ?_
      obtain ⟨z9, s10, h11, hm⟩ := o_c hm
      refine z_cv (d := d + 2) (pc' := 30) hM163 rfl hM157 rfl rfl rfl rfl rfl rfl (c157 (d := d) hG h11) rfl ?_
      refine z_ifne (pc' := 33) (t := 66) hM163 rfl rfl (fun h12 => ?_) (fun h12 => ?_)
      · replace hm := o_t hm h12
        refine z_aload_n (pc' := 34) hM163 rfl rfl rfl ?_
        refine z_aload_n (pc' := 35) hM163 rfl rfl rfl ?_
        refine z_fldR (pc' := 38) hM163 rfl (zf_12_13 hG) rfl rfl ?_
        obtain ⟨z13, s14, h15, hm⟩ := o_c hm
        refine z_cv (d := d + 2) (pc' := 41) hM163 rfl hM157 rfl rfl rfl rfl rfl rfl (c157 (d := d) hG h15) rfl ?_
        refine z_ifne (pc' := 44) (t := 66) hM163 rfl rfl (fun h16 => ?_) (fun h16 => ?_)
        · replace hm := o_t hm h16
          refine z_aload_n (pc' := 45) hM163 rfl rfl rfl ?_
          refine z_aload_n (pc' := 46) hM163 rfl rfl rfl ?_
          refine z_fldR (pc' := 49) hM163 rfl (zf_12_14 hG) rfl rfl ?_
          obtain ⟨z17, s18, h19, hm⟩ := o_c hm
          refine z_cv (d := d + 2) (pc' := 52) hM163 rfl hM157 rfl rfl rfl rfl rfl rfl (c157 (d := d) hG h19) rfl ?_
          refine z_ifne (pc' := 55) (t := 66) hM163 rfl rfl (fun h20 => ?_) (fun h20 => ?_)
          · replace hm := o_t hm h20
            refine z_aload_n (pc' := 56) hM163 rfl rfl rfl ?_
            refine z_aload_n (pc' := 57) hM163 rfl rfl rfl ?_
            refine z_fldR (pc' := 60) hM163 rfl (zf_12_15 hG) rfl rfl ?_
            obtain ⟨z21, s22, h23, hm⟩ := o_c hm
            refine z_cv (d := d + 2) (pc' := 63) hM163 rfl hM157 rfl rfl rfl rfl rfl rfl (c157 (d := d) hG h23) rfl ?_
            refine z_ifeq (pc' := 66) (t := 70) hM163 rfl rfl (fun h24 => ?_) (fun h24 => ?_)
            · replace hm := o_t hm h24
              refine z_iconst (pc' := 71) hM163 rfl rfl rfl ?_
              exact c163_71 hG hm
            · replace hm := o_f hm h24
              refine z_iconst (pc' := 67) hM163 rfl rfl rfl ?_
              refine z_goto (t := 71) hM163 rfl ?_
              exact c163_71 hG hm
          · replace hm := o_f hm h20
            refine z_iconst (pc' := 67) hM163 rfl rfl rfl ?_
            refine z_goto (t := 71) hM163 rfl ?_
            exact c163_71 hG hm
        · replace hm := o_f hm h16
          refine z_iconst (pc' := 67) hM163 rfl rfl rfl ?_
          refine z_goto (t := 71) hM163 rfl ?_
          exact c163_71 hG hm
      · replace hm := o_f hm h12
        refine z_iconst (pc' := 67) hM163 rfl rfl rfl ?_
        refine z_goto (t := 71) hM163 rfl ?_
        exact c163_71 hG hm
    · replace hm := o_f hm h8
      refine z_iconst (pc' := 67) hM163 rfl rfl rfl ?_
      refine z_goto (t := 71) hM163 rfl ?_
      exact c163_71 hG hm
  · replace hm := o_f hm h4
    refine z_iconst (pc' := 67) hM163 rfl rfl rfl ?_
    refine z_goto (t := 71) hM163 rfl ?_
    exact c163_71 hG hm
def m164_58 : Nat → Int → zS → Option (Int × zS)
  | 0, _, _ => none
  | n + 1, x1, s => oV (s.1 209 2) fun z1 => oV (s.1 209 3) fun z2 => if z1 < z2 then oV (s.1 209 2) fun z4 => oX z4 1600 (oV (s.1 210 z4) fun z5 => oC (m154 z5 s) fun z7 s8 => if z7 = (0 : Int) then oV (s8.1 209 2) fun z11 => oV (sI s8 209 4 z11) fun s12 => some (x1, s12) else oV (s8.1 209 2) fun z13 => oV (s8.1 209 40) fun z14 => oZ (z13 - z14) fun z15 => if z15 = (6 : Int) then oV (s8.1 209 2) fun z18 => oC (m153 (1 : Int) z18 s8) fun z19 s20 => some ((0 : Int), s20) else oJ ((27 : Int) * x1) fun z22 => oV (s8.1 209 2) fun z24 => oX z24 1600 (oV (s8.1 210 z24) fun z25 => oJ (z22 + z25) fun z27 => oJ (z27 - (97 : Int)) fun z29 => oJ (z29 + (1 : Int)) fun z31 => oV (s8.1 209 2) fun z33 => oZ (z33 + (1 : Int)) fun z34 => oV (sI s8 209 2 z34) fun s36 => m164_58 n z31 s36)) else oV (s.1 209 2) fun z37 => oV (sI s 209 4 z37) fun s38 => some (x1, s38)
set_option maxRecDepth 20000 in
theorem c164_58 {G : aHp} {d : Nat} (hG : zG G) : ∀ {n : Nat} {x1 : Int} {d2 : Option zV} {s : zS} {r_ : Int} {s_ : zS}, m164_58 n x1 s = some (r_, s_) → Zp G (d + 4) 164 58 [some (zr 12 0 209), some (zj x1), d2] [] s (zRet (some (zj r_)) s_) := by
  intro n
  induction n with
  | zero => intro x1 d2 s r_ s_ hm; cases hm
  | succ n ih =>
  intro x1 d2 s r_ s_ hm
  replace hm : (oV (s.1 209 2) fun z1 => oV (s.1 209 3) fun z2 => if z1 < z2 then oV (s.1 209 2) fun z4 => oX z4 1600 (oV (s.1 210 z4) fun z5 => oC (m154 z5 s) fun z7 s8 => if z7 = (0 : Int) then oV (s8.1 209 2) fun z11 => oV (sI s8 209 4 z11) fun s12 => some (x1, s12) else oV (s8.1 209 2) fun z13 => oV (s8.1 209 40) fun z14 => oZ (z13 - z14) fun z15 => if z15 = (6 : Int) then oV (s8.1 209 2) fun z18 => oC (m153 (1 : Int) z18 s8) fun z19 s20 => some ((0 : Int), s20) else oJ ((27 : Int) * x1) fun z22 => oV (s8.1 209 2) fun z24 => oX z24 1600 (oV (s8.1 210 z24) fun z25 => oJ (z22 + z25) fun z27 => oJ (z27 - (97 : Int)) fun z29 => oJ (z29 + (1 : Int)) fun z31 => oV (s8.1 209 2) fun z33 => oZ (z33 + (1 : Int)) fun z34 => oV (sI s8 209 2 z34) fun s36 => m164_58 n z31 s36)) else oV (s.1 209 2) fun z37 => oV (sI s 209 4 z37) fun s38 => some (x1, s38)) = some (r_, s_) := hm
  refine z_aload_n (pc' := 59) hM164 rfl rfl rfl ?_
  obtain ⟨z1, ez1, hm⟩ := o_v hm
  refine z_fldI (pc' := 62) hM164 rfl rfl rfl ez1 ?_
  refine z_aload_n (pc' := 63) hM164 rfl rfl rfl ?_
  obtain ⟨z2, ez2, hm⟩ := o_v hm
  refine z_fldI (pc' := 66) hM164 rfl rfl rfl ez2 ?_
  refine z_cmpge (pc' := 69) (t := 145) hM164 rfl rfl (fun h3 => ?_) (fun h3 => ?_)
  · replace hm := o_t hm h3
    refine z_aload_n (pc' := 70) hM164 rfl rfl rfl ?_
    refine z_fldR (pc' := 73) hM164 rfl (zf_12_0 hG) rfl rfl ?_
    refine z_aload_n (pc' := 74) hM164 rfl rfl rfl ?_
    obtain ⟨z4, ez4, hm⟩ := o_v hm
    refine z_fldI (pc' := 77) hM164 rfl rfl rfl ez4 ?_
    obtain ⟨h6, hm⟩ := o_x hm
    obtain ⟨z5, ez5, hm⟩ := o_v hm
    refine z_iald (pc' := 78) (zGN hG) hM164 rfl rfl h6 ez5 ?_
    obtain ⟨z7, s8, h9, hm⟩ := o_c hm
    refine z_cs (d := d + 3) (pc' := 81) hM164 rfl hM154 rfl rfl rfl rfl (c154 (d := d + 2) hG h9) rfl ?_
    refine z_ifeq (pc' := 84) (t := 145) hM164 rfl rfl (fun h10 => ?_) (fun h10 => ?_)
    · replace hm := o_t hm h10
      refine z_aload_n (pc' := 146) hM164 rfl rfl rfl ?_
      refine z_aload_n (pc' := 147) hM164 rfl rfl rfl ?_
      obtain ⟨z11, ez11, hm⟩ := o_v hm
      refine z_fldI (pc' := 150) hM164 rfl rfl rfl ez11 ?_
      obtain ⟨s12, es12, hm⟩ := o_v hm
      refine z_putI (pc' := 153) hM164 rfl rfl rfl es12 ?_
      refine z_lload_n (pc' := 154) hM164 rfl rfl rfl ?_
      cases hm
      exact z_retJ hM164 rfl rfl ⟨rfl, rfl⟩
    · replace hm := o_f hm h10
      refine z_aload_n (pc' := 85) hM164 rfl rfl rfl ?_
      obtain ⟨z13, ez13, hm⟩ := o_v hm
      refine z_fldI (pc' := 88) hM164 rfl rfl rfl ez13 ?_
      refine z_aload_n (pc' := 89) hM164 rfl rfl rfl ?_
      obtain ⟨z14, ez14, hm⟩ := o_v hm
      refine z_fldI (pc' := 92) hM164 rfl rfl rfl ez14 ?_
      obtain ⟨z15, ez15, h16, hm⟩ := o_z hm
      refine z_isub (pc' := 93) hM164 rfl rfl ez15 h16 ?_
      refine z_bipush (pc' := 95) hM164 rfl rfl rfl ?_
      refine z_cmpne (pc' := 98) (t := 109) hM164 rfl rfl (fun h17 => ?_) (fun h17 => ?_)
      · replace hm := o_t hm h17
        refine z_aload_n (pc' := 99) hM164 rfl rfl rfl ?_
        refine z_iconst (pc' := 100) hM164 rfl rfl rfl ?_
        refine z_aload_n (pc' := 101) hM164 rfl rfl rfl ?_
        obtain ⟨z18, ez18, hm⟩ := o_v hm
        refine z_fldI (pc' := 104) hM164 rfl rfl rfl ez18 ?_
        obtain ⟨z19, s20, h21, hm⟩ := o_c hm
        refine z_cvV (d := d + 3) (pc' := 107) hM164 rfl hM153 rfl rfl rfl rfl rfl rfl (c153 (d := d + 2) hG h21) rfl ?_
        refine z_lconst (pc' := 108) (x := (0 : Int)) hM164 rfl rfl rfl rfl ?_
        cases hm
        exact z_retJ hM164 rfl rfl ⟨rfl, rfl⟩
      · replace hm := o_f hm h17
        refine z_ldc2 (pc' := 112) hM164 rfl rfl rfl ?_
        refine z_lload_n (pc' := 113) hM164 rfl rfl rfl ?_
        obtain ⟨z22, ez22, h23, hm⟩ := o_j hm
        refine z_lmul (pc' := 114) hM164 rfl rfl ez22 h23 ?_
        refine z_aload_n (pc' := 115) hM164 rfl rfl rfl ?_
        refine z_fldR (pc' := 118) hM164 rfl (zf_12_0 hG) rfl rfl ?_
        refine z_aload_n (pc' := 119) hM164 rfl rfl rfl ?_
        obtain ⟨z24, ez24, hm⟩ := o_v hm
        refine z_fldI (pc' := 122) hM164 rfl rfl rfl ez24 ?_
        obtain ⟨h26, hm⟩ := o_x hm
        obtain ⟨z25, ez25, hm⟩ := o_v hm
        refine z_iald (pc' := 123) (zGN hG) hM164 rfl rfl h26 ez25 ?_
        refine z_i2l (pc' := 124) hM164 rfl rfl ?_
        obtain ⟨z27, ez27, h28, hm⟩ := o_j hm
        refine z_ladd (pc' := 125) hM164 rfl rfl ez27 h28 ?_
        refine z_ldc2 (pc' := 128) hM164 rfl rfl rfl ?_
        obtain ⟨z29, ez29, h30, hm⟩ := o_j hm
        refine z_lsub (pc' := 129) hM164 rfl rfl ez29 h30 ?_
        refine z_lconst (pc' := 130) (x := (1 : Int)) hM164 rfl rfl rfl rfl ?_
        obtain ⟨z31, ez31, h32, hm⟩ := o_j hm
        refine z_ladd (pc' := 131) hM164 rfl rfl ez31 h32 ?_
        refine z_lstore_n (pc' := 132) (l' := [some (zr 12 0 209), some (zj z31), none]) hM164 rfl rfl rfl rfl ?_
        refine z_aload_n (pc' := 133) hM164 rfl rfl rfl ?_
        refine z_dupA (pc' := 134) hM164 rfl rfl ?_
        obtain ⟨z33, ez33, hm⟩ := o_v hm
        refine z_fldI (pc' := 137) hM164 rfl rfl rfl ez33 ?_
        refine z_iconst (pc' := 138) hM164 rfl rfl rfl ?_
        obtain ⟨z34, ez34, h35, hm⟩ := o_z hm
        refine z_iadd (pc' := 139) hM164 rfl rfl ez34 h35 ?_
        obtain ⟨s36, es36, hm⟩ := o_v hm
        refine z_putI (pc' := 142) hM164 rfl rfl rfl es36 ?_
        refine z_goto (t := 58) hM164 rfl ?_
        exact ih hm
  · replace hm := o_f hm h3
    refine z_aload_n (pc' := 146) hM164 rfl rfl rfl ?_
    refine z_aload_n (pc' := 147) hM164 rfl rfl rfl ?_
    obtain ⟨z37, ez37, hm⟩ := o_v hm
    refine z_fldI (pc' := 150) hM164 rfl rfl rfl ez37 ?_
    obtain ⟨s38, es38, hm⟩ := o_v hm
    refine z_putI (pc' := 153) hM164 rfl rfl rfl es38 ?_
    refine z_lload_n (pc' := 154) hM164 rfl rfl rfl ?_
    cases hm
    exact z_retJ hM164 rfl rfl ⟨rfl, rfl⟩
def m164  (s : zS) : Option (Int × zS) := oV (s.1 209 5) fun z1 => if z1 = (0 : Int) then oC (m156 s) fun z3 s4 => oC (m154 z3 s4) fun z6 s7 => if z6 = (0 : Int) then oV (s7.1 209 2) fun z10 => oC (m153 (1 : Int) z10 s7) fun z11 s12 => some ((0 : Int), s12) else oV (s7.1 209 2) fun z14 => oV (s7.1 209 4) fun z15 => if z14 = z15 then oV (s7.1 209 2) fun z17 => oC (m153 (1 : Int) z17 s7) fun z18 s19 => some ((0 : Int), s19) else oC (m163 s7) fun z21 s22 => if z21 = (0 : Int) then oV (s22.1 209 2) fun z25 => oV (sI s22 209 40 z25) fun s26 => m164_58 zFu (0 : Int) s26 else oV (s22.1 209 2) fun z27 => oC (m153 (1 : Int) z27 s22) fun z28 s29 => some ((0 : Int), s29) else some ((0 : Int), s)
set_option maxRecDepth 20000 in
theorem c164 {G : aHp} {d : Nat} (hG : zG G) {s : zS} {r_ : Int} {s_ : zS} (hm : m164  s = some (r_, s_)) : Zp G (d + 4) 164 0 [some (zr 12 0 209), none, none] [] s (zRet (some (zj r_)) s_) := by
  replace hm : (oV (s.1 209 5) fun z1 => if z1 = (0 : Int) then oC (m156 s) fun z3 s4 => oC (m154 z3 s4) fun z6 s7 => if z6 = (0 : Int) then oV (s7.1 209 2) fun z10 => oC (m153 (1 : Int) z10 s7) fun z11 s12 => some ((0 : Int), s12) else oV (s7.1 209 2) fun z14 => oV (s7.1 209 4) fun z15 => if z14 = z15 then oV (s7.1 209 2) fun z17 => oC (m153 (1 : Int) z17 s7) fun z18 s19 => some ((0 : Int), s19) else oC (m163 s7) fun z21 s22 => if z21 = (0 : Int) then oV (s22.1 209 2) fun z25 => oV (sI s22 209 40 z25) fun s26 => m164_58 zFu (0 : Int) s26 else oV (s22.1 209 2) fun z27 => oC (m153 (1 : Int) z27 s22) fun z28 s29 => some ((0 : Int), s29) else some ((0 : Int), s)) = some (r_, s_) := hm
  refine z_aload_n (pc' := 1) hM164 rfl rfl rfl ?_
  obtain ⟨z1, ez1, hm⟩ := o_v hm
  refine z_fldI (pc' := 4) hM164 rfl rfl rfl ez1 ?_
  refine z_ifeq (pc' := 7) (t := 9) hM164 rfl rfl (fun h2 => ?_) (fun h2 => ?_)
  · replace hm := o_t hm h2
    refine z_aload_n (pc' := 10) hM164 rfl rfl rfl ?_
    obtain ⟨z3, s4, h5, hm⟩ := o_c hm
    refine z_cv (d := d + 3) (pc' := 13) hM164 rfl hM156 rfl rfl rfl rfl rfl rfl (c156 (d := d + 2) hG h5) rfl ?_
    obtain ⟨z6, s7, h8, hm⟩ := o_c hm
    refine z_cs (d := d + 3) (pc' := 16) hM164 rfl hM154 rfl rfl rfl rfl (c154 (d := d + 2) hG h8) rfl ?_
    refine z_ifeq (pc' := 19) (t := 37) hM164 rfl rfl (fun h9 => ?_) (fun h9 => ?_)
    · replace hm := o_t hm h9
      refine z_aload_n (pc' := 38) hM164 rfl rfl rfl ?_
      refine z_iconst (pc' := 39) hM164 rfl rfl rfl ?_
      refine z_aload_n (pc' := 40) hM164 rfl rfl rfl ?_
      obtain ⟨z10, ez10, hm⟩ := o_v hm
      refine z_fldI (pc' := 43) hM164 rfl rfl rfl ez10 ?_
      obtain ⟨z11, s12, h13, hm⟩ := o_c hm
      refine z_cvV (d := d + 3) (pc' := 46) hM164 rfl hM153 rfl rfl rfl rfl rfl rfl (c153 (d := d + 2) hG h13) rfl ?_
      refine z_lconst (pc' := 47) (x := (0 : Int)) hM164 rfl rfl rfl rfl ?_
      cases hm
      exact z_retJ hM164 rfl rfl ⟨rfl, rfl⟩
    · replace hm := o_f hm h9
      refine z_aload_n (pc' := 20) hM164 rfl rfl rfl ?_
      obtain ⟨z14, ez14, hm⟩ := o_v hm
      refine z_fldI (pc' := 23) hM164 rfl rfl rfl ez14 ?_
      refine z_aload_n (pc' := 24) hM164 rfl rfl rfl ?_
      obtain ⟨z15, ez15, hm⟩ := o_v hm
      refine z_fldI (pc' := 27) hM164 rfl rfl rfl ez15 ?_
      refine z_cmpeq (pc' := 30) (t := 37) hM164 rfl rfl (fun h16 => ?_) (fun h16 => ?_)
      · replace hm := o_t hm h16
        refine z_aload_n (pc' := 38) hM164 rfl rfl rfl ?_
        refine z_iconst (pc' := 39) hM164 rfl rfl rfl ?_
        refine z_aload_n (pc' := 40) hM164 rfl rfl rfl ?_
        obtain ⟨z17, ez17, hm⟩ := o_v hm
        refine z_fldI (pc' := 43) hM164 rfl rfl rfl ez17 ?_
        obtain ⟨z18, s19, h20, hm⟩ := o_c hm
        refine z_cvV (d := d + 3) (pc' := 46) hM164 rfl hM153 rfl rfl rfl rfl rfl rfl (c153 (d := d + 2) hG h20) rfl ?_
        refine z_lconst (pc' := 47) (x := (0 : Int)) hM164 rfl rfl rfl rfl ?_
        cases hm
        exact z_retJ hM164 rfl rfl ⟨rfl, rfl⟩
      · replace hm := o_f hm h16
        refine z_aload_n (pc' := 31) hM164 rfl rfl rfl ?_
        obtain ⟨z21, s22, h23, hm⟩ := o_c hm
        refine z_cv (d := d + 3) (pc' := 34) hM164 rfl hM163 rfl rfl rfl rfl rfl rfl (c163 (d := d) hG h23) rfl ?_
        refine z_ifeq (pc' := 37) (t := 48) hM164 rfl rfl (fun h24 => ?_) (fun h24 => ?_)
        · replace hm := o_t hm h24
          refine z_aload_n (pc' := 49) hM164 rfl rfl rfl ?_
          refine z_aload_n (pc' := 50) hM164 rfl rfl rfl ?_
          obtain ⟨z25, ez25, hm⟩ := o_v hm
          refine z_fldI (pc' := 53) hM164 rfl rfl rfl ez25 ?_
          obtain ⟨s26, es26, hm⟩ := o_v hm
          refine z_putI (pc' := 56) hM164 rfl rfl rfl es26 ?_
          refine z_lconst (pc' := 57) (x := (0 : Int)) hM164 rfl rfl rfl rfl ?_
          refine z_lstore_n (pc' := 58) (l' := [some (zr 12 0 209), some (zj (0 : Int)), none]) hM164 rfl rfl rfl rfl ?_
          exact c164_58 hG hm
        · replace hm := o_f hm h24
          refine z_aload_n (pc' := 38) hM164 rfl rfl rfl ?_
          refine z_iconst (pc' := 39) hM164 rfl rfl rfl ?_
          refine z_aload_n (pc' := 40) hM164 rfl rfl rfl ?_
          obtain ⟨z27, ez27, hm⟩ := o_v hm
          refine z_fldI (pc' := 43) hM164 rfl rfl rfl ez27 ?_
          obtain ⟨z28, s29, h30, hm⟩ := o_c hm
          refine z_cvV (d := d + 3) (pc' := 46) hM164 rfl hM153 rfl rfl rfl rfl rfl rfl (c153 (d := d + 2) hG h30) rfl ?_
          refine z_lconst (pc' := 47) (x := (0 : Int)) hM164 rfl rfl rfl rfl ?_
          cases hm
          exact z_retJ hM164 rfl rfl ⟨rfl, rfl⟩
  · replace hm := o_f hm h2
    refine z_lconst (pc' := 8) (x := (0 : Int)) hM164 rfl rfl rfl rfl ?_
    cases hm
    exact z_retJ hM164 rfl rfl ⟨rfl, rfl⟩
def m165 (x1 : Int) (s : zS) : Option (Int × zS) := oV (s.1 209 53) fun z1 => if z1 = (0 : Int) then some ((1 : Int), s) else if x1 < (5 : Int) then some ((1 : Int), s) else some ((0 : Int), s)
theorem c165 {G : aHp} {d : Nat} (hG : zG G) {x1 : Int} {s : zS} {r_ : Int} {s_ : zS} (hm : m165 x1 s = some (r_, s_)) : Zp G (d + 1) 165 0 [some (zr 12 0 209), some (zi x1)] [] s (zRet (some (zi r_)) s_) := by
  replace hm : (oV (s.1 209 53) fun z1 => if z1 = (0 : Int) then some ((1 : Int), s) else if x1 < (5 : Int) then some ((1 : Int), s) else some ((0 : Int), s)) = some (r_, s_) := hm
  refine z_aload_n (pc' := 1) hM165 rfl rfl rfl ?_
  obtain ⟨z1, ez1, hm⟩ := o_v hm
  refine z_fldZ (pc' := 4) hM165 rfl rfl rfl ez1 ?_
  refine z_ifeq (pc' := 7) (t := 12) hM165 rfl rfl (fun h2 => ?_) (fun h2 => ?_)
  · replace hm := o_t hm h2
    refine z_iconst (pc' := 13) hM165 rfl rfl rfl ?_
    refine z_goto (t := 17) hM165 rfl ?_
    cases hm
    exact z_retZ hM165 rfl rfl (Or.inr rfl) ⟨rfl, rfl⟩
  · replace hm := o_f hm h2
    refine z_iload_n (pc' := 8) hM165 rfl rfl rfl ?_
    refine z_iconst (pc' := 9) hM165 rfl rfl rfl ?_
    refine z_cmpge (pc' := 12) (t := 16) hM165 rfl rfl (fun h3 => ?_) (fun h3 => ?_)
    · replace hm := o_t hm h3
      refine z_iconst (pc' := 13) hM165 rfl rfl rfl ?_
      refine z_goto (t := 17) hM165 rfl ?_
      cases hm
      exact z_retZ hM165 rfl rfl (Or.inr rfl) ⟨rfl, rfl⟩
    · replace hm := o_f hm h3
      refine z_iconst (pc' := 17) hM165 rfl rfl rfl ?_
      cases hm
      exact z_retZ hM165 rfl rfl (Or.inl rfl) ⟨rfl, rfl⟩
def m166_23  (s : zS) : Option (Int × zS) := oV (s.1 209 5) fun z1 => if z1 = (0 : Int) then some ((0 : Int), s) else some ((1 : Int), s)
theorem c166_23 {G : aHp} {d : Nat} (hG : zG G) {d1 d2 d3 : Option zV} {s : zS} {r_ : Int} {s_ : zS} (hm : m166_23  s = some (r_, s_)) : Zp G (d + 2) 166 23 [some (zr 12 0 209), d1, d2, d3] [] s (zRet (some (zi r_)) s_) := by
  replace hm : (oV (s.1 209 5) fun z1 => if z1 = (0 : Int) then some ((0 : Int), s) else some ((1 : Int), s)) = some (r_, s_) := hm
  refine z_aload_n (pc' := 24) hM166 rfl rfl rfl ?_
  obtain ⟨z1, ez1, hm⟩ := o_v hm
  refine z_fldI (pc' := 27) hM166 rfl rfl rfl ez1 ?_
  refine z_ifeq (pc' := 30) (t := 34) hM166 rfl rfl (fun h2 => ?_) (fun h2 => ?_)
  · replace hm := o_t hm h2
    refine z_iconst (pc' := 35) hM166 rfl rfl rfl ?_
    cases hm
    exact z_retZ hM166 rfl rfl (Or.inl rfl) ⟨rfl, rfl⟩
  · replace hm := o_f hm h2
    refine z_iconst (pc' := 31) hM166 rfl rfl rfl ?_
    refine z_goto (t := 35) hM166 rfl ?_
    cases hm
    exact z_retZ hM166 rfl rfl (Or.inr rfl) ⟨rfl, rfl⟩
def m166 (x1 : Int) (x2 : Int) (x3 : Int) (s : zS) : Option (Int × zS) := oV (s.1 209 5) fun z1 => if z1 = (0 : Int) then oX x1 8 (oV (s.1 242 x1) fun z3 => if z3 = x2 then oC (m153 (5 : Int) x3 s) fun z6 s7 => m166_23 s7 else m166_23 s) else m166_23 s
theorem c166 {G : aHp} {d : Nat} (hG : zG G) {x1 : Int} {x2 : Int} {x3 : Int} {s : zS} {r_ : Int} {s_ : zS} (hm : m166 x1 x2 x3 s = some (r_, s_)) : Zp G (d + 2) 166 0 [some (zr 12 0 209), some (zi x1), some (zi x2), some (zi x3)] [] s (zRet (some (zi r_)) s_) := by
  replace hm : (oV (s.1 209 5) fun z1 => if z1 = (0 : Int) then oX x1 8 (oV (s.1 242 x1) fun z3 => if z3 = x2 then oC (m153 (5 : Int) x3 s) fun z6 s7 => m166_23 s7 else m166_23 s) else m166_23 s) = some (r_, s_) := hm
  refine z_aload_n (pc' := 1) hM166 rfl rfl rfl ?_
  obtain ⟨z1, ez1, hm⟩ := o_v hm
  refine z_fldI (pc' := 4) hM166 rfl rfl rfl ez1 ?_
  refine z_ifne (pc' := 7) (t := 23) hM166 rfl rfl (fun h2 => ?_) (fun h2 => ?_)
  · replace hm := o_t hm h2
    refine z_aload_n (pc' := 8) hM166 rfl rfl rfl ?_
    refine z_fldR (pc' := 11) hM166 rfl (zf_12_41 hG) rfl rfl ?_
    refine z_iload_n (pc' := 12) hM166 rfl rfl rfl ?_
    obtain ⟨h4, hm⟩ := o_x hm
    obtain ⟨z3, ez3, hm⟩ := o_v hm
    refine z_iald (pc' := 13) (zGN hG) hM166 rfl rfl h4 ez3 ?_
    refine z_iload_n (pc' := 14) hM166 rfl rfl rfl ?_
    refine z_cmpne (pc' := 17) (t := 23) hM166 rfl rfl (fun h5 => ?_) (fun h5 => ?_)
    · replace hm := o_t hm h5
      refine z_aload_n (pc' := 18) hM166 rfl rfl rfl ?_
      refine z_iconst (pc' := 19) hM166 rfl rfl rfl ?_
      refine z_iload_n (pc' := 20) hM166 rfl rfl rfl ?_
      obtain ⟨z6, s7, h8, hm⟩ := o_c hm
      refine z_cvV (d := d + 1) (pc' := 23) hM166 rfl hM153 rfl rfl rfl rfl rfl rfl (c153 (d := d) hG h8) rfl ?_
      exact c166_23 hG hm
    · replace hm := o_f hm h5
      exact c166_23 hG hm
  · replace hm := o_f hm h2
    exact c166_23 hG hm
def m167_3 : Nat → Int → Int → Int → zS → Option (Int × zS)
  | 0, _, _, _, _ => none
  | n + 1, x1, x2, x4, s => oX x1 8 (oV (s.1 242 x1) fun z1 => if x4 < z1 then oZ ((8 : Int) * x1) fun z4 => oZ (z4 + x4) fun z6 => oX z6 48 (oV (s.2.1 243 z6) fun z8 => oV (zCmp z8 x2) fun z10 => if z10 = (0 : Int) then some (x4, s) else oZ (x4 + (1 : Int)) fun z12 => m167_3 n x1 x2 z12 s) else some ((-1 : Int), s))
theorem c167_3 {G : aHp} {d : Nat} (hG : zG G) : ∀ {n : Nat} {x1 : Int} {x2 : Int} {x4 : Int} {d3 : Option zV} {s : zS} {r_ : Int} {s_ : zS}, m167_3 n x1 x2 x4 s = some (r_, s_) → Zp G (d + 1) 167 3 [some (zr 12 0 209), some (zi x1), some (zj x2), d3, some (zi x4)] [] s (zRet (some (zi r_)) s_) := by
  intro n
  induction n with
  | zero => intro x1 x2 x4 d3 s r_ s_ hm; cases hm
  | succ n ih =>
  intro x1 x2 x4 d3 s r_ s_ hm
  replace hm : (oX x1 8 (oV (s.1 242 x1) fun z1 => if x4 < z1 then oZ ((8 : Int) * x1) fun z4 => oZ (z4 + x4) fun z6 => oX z6 48 (oV (s.2.1 243 z6) fun z8 => oV (zCmp z8 x2) fun z10 => if z10 = (0 : Int) then some (x4, s) else oZ (x4 + (1 : Int)) fun z12 => m167_3 n x1 x2 z12 s) else some ((-1 : Int), s))) = some (r_, s_) := hm
  refine z_iload (pc' := 5) hM167 rfl rfl rfl ?_
  refine z_aload_n (pc' := 6) hM167 rfl rfl rfl ?_
  refine z_fldR (pc' := 9) hM167 rfl (zf_12_41 hG) rfl rfl ?_
  refine z_iload_n (pc' := 10) hM167 rfl rfl rfl ?_
  obtain ⟨h2, hm⟩ := o_x hm
  obtain ⟨z1, ez1, hm⟩ := o_v hm
  refine z_iald (pc' := 11) (zGN hG) hM167 rfl rfl h2 ez1 ?_
  refine z_cmpge (pc' := 14) (t := 40) hM167 rfl rfl (fun h3 => ?_) (fun h3 => ?_)
  · replace hm := o_t hm h3
    refine z_aload_n (pc' := 15) hM167 rfl rfl rfl ?_
    refine z_fldR (pc' := 18) hM167 rfl (zf_12_42 hG) rfl rfl ?_
    refine z_bipush (pc' := 20) hM167 rfl rfl rfl ?_
    refine z_iload_n (pc' := 21) hM167 rfl rfl rfl ?_
    obtain ⟨z4, ez4, h5, hm⟩ := o_z hm
    refine z_imul (pc' := 22) hM167 rfl rfl ez4 h5 ?_
    refine z_iload (pc' := 24) hM167 rfl rfl rfl ?_
    obtain ⟨z6, ez6, h7, hm⟩ := o_z hm
    refine z_iadd (pc' := 25) hM167 rfl rfl ez6 h7 ?_
    obtain ⟨h9, hm⟩ := o_x hm
    obtain ⟨z8, ez8, hm⟩ := o_v hm
    refine z_lald (pc' := 26) hM167 rfl rfl h9 ez8 ?_
    refine z_lload_n (pc' := 27) hM167 rfl rfl rfl ?_
    obtain ⟨z10, ez10, hm⟩ := o_v hm
    refine z_lcmp (pc' := 28) hM167 rfl rfl ez10 ?_
    refine z_ifne (pc' := 31) (t := 34) hM167 rfl rfl (fun h11 => ?_) (fun h11 => ?_)
    · replace hm := o_t hm h11
      refine z_iload (pc' := 33) hM167 rfl rfl rfl ?_
      cases hm
      exact z_retI hM167 rfl rfl ⟨rfl, rfl⟩
    · replace hm := o_f hm h11
      obtain ⟨z12, ez12, h13, hm⟩ := o_z hm
      refine z_iinc (pc' := 37) (l' := [some (zr 12 0 209), some (zi x1), some (zj x2), zKd d3, some (zi z12)]) hM167 rfl rfl rfl ez12 h13 rfl rfl ?_
      refine z_goto (t := 3) hM167 rfl ?_
      exact ih hm
  · replace hm := o_f hm h3
    refine z_iconst (pc' := 41) hM167 rfl rfl rfl ?_
    cases hm
    exact z_retI hM167 rfl rfl ⟨rfl, rfl⟩
def m167 (x1 : Int) (x2 : Int) (s : zS) : Option (Int × zS) := m167_3 zFu x1 x2 (0 : Int) s
theorem c167 {G : aHp} {d : Nat} (hG : zG G) {x1 : Int} {x2 : Int} {s : zS} {r_ : Int} {s_ : zS} (hm : m167 x1 x2 s = some (r_, s_)) : Zp G (d + 1) 167 0 [some (zr 12 0 209), some (zi x1), some (zj x2), none, none] [] s (zRet (some (zi r_)) s_) := by
  replace hm : (m167_3 zFu x1 x2 (0 : Int) s) = some (r_, s_) := hm
  refine z_iconst (pc' := 1) hM167 rfl rfl rfl ?_
  refine z_istore (pc' := 3) (l' := [some (zr 12 0 209), some (zi x1), some (zj x2), none, some (zi (0 : Int))]) hM167 rfl rfl rfl rfl ?_
  exact c167_3 hG hm
def m168_7 : Nat → Int → Int → zS → Option (Int × zS)
  | 0, _, _, _ => none
  | n + 1, x1, x3, s => if x3 < (3 : Int) then oV (s.1 209 5) fun z2 => if z2 = (0 : Int) then oC (m167 x3 x1 s) fun z4 s5 => if z4 = (-1 : Int) then oZ (x3 + (1 : Int)) fun z8 => m168_7 n x1 z8 s5 else oV (s5.1 209 40) fun z10 => oC (m153 (3 : Int) z10 s5) fun z11 s12 => oZ (x3 + (1 : Int)) fun z14 => m168_7 n x1 z14 s12 else oZ (x3 + (1 : Int)) fun z16 => m168_7 n x1 z16 s else some (x1, s)
theorem c168_7 {G : aHp} {d : Nat} (hG : zG G) : ∀ {n : Nat} {x1 : Int} {x3 : Int} {d2 : Option zV} {s : zS} {r_ : Int} {s_ : zS}, m168_7 n x1 x3 s = some (r_, s_) → Zp G (d + 5) 168 7 [some (zr 12 0 209), some (zj x1), d2, some (zi x3)] [] s (zRet (some (zj r_)) s_) := by
  intro n
  induction n with
  | zero => intro x1 x3 d2 s r_ s_ hm; cases hm
  | succ n ih =>
  intro x1 x3 d2 s r_ s_ hm
  replace hm : (if x3 < (3 : Int) then oV (s.1 209 5) fun z2 => if z2 = (0 : Int) then oC (m167 x3 x1 s) fun z4 s5 => if z4 = (-1 : Int) then oZ (x3 + (1 : Int)) fun z8 => m168_7 n x1 z8 s5 else oV (s5.1 209 40) fun z10 => oC (m153 (3 : Int) z10 s5) fun z11 s12 => oZ (x3 + (1 : Int)) fun z14 => m168_7 n x1 z14 s12 else oZ (x3 + (1 : Int)) fun z16 => m168_7 n x1 z16 s else some (x1, s)) = some (r_, s_) := hm
  refine z_iload_n (pc' := 8) hM168 rfl rfl rfl ?_
  refine z_iconst (pc' := 9) hM168 rfl rfl rfl ?_
  refine z_cmpge (pc' := 12) (t := 44) hM168 rfl rfl (fun h1 => ?_) (fun h1 => ?_)
  · replace hm := o_t hm h1
    refine z_aload_n (pc' := 13) hM168 rfl rfl rfl ?_
    obtain ⟨z2, ez2, hm⟩ := o_v hm
    refine z_fldI (pc' := 16) hM168 rfl rfl rfl ez2 ?_
    refine z_ifne (pc' := 19) (t := 38) hM168 rfl rfl (fun h3 => ?_) (fun h3 => ?_)
    · replace hm := o_t hm h3
      refine z_aload_n (pc' := 20) hM168 rfl rfl rfl ?_
      refine z_iload_n (pc' := 21) hM168 rfl rfl rfl ?_
      refine z_lload_n (pc' := 22) hM168 rfl rfl rfl ?_
      obtain ⟨z4, s5, h6, hm⟩ := o_c hm
      refine z_cv (d := d + 4) (pc' := 25) hM168 rfl hM167 rfl rfl rfl rfl rfl rfl (c167 (d := d + 3) hG h6) rfl ?_
      refine z_iconst (pc' := 26) hM168 rfl rfl rfl ?_
      refine z_cmpeq (pc' := 29) (t := 38) hM168 rfl rfl (fun h7 => ?_) (fun h7 => ?_)
      · replace hm := o_t hm h7
        obtain ⟨z8, ez8, h9, hm⟩ := o_z hm
        refine z_iinc (pc' := 41) (l' := [some (zr 12 0 209), some (zj x1), zKd d2, some (zi z8)]) hM168 rfl rfl rfl ez8 h9 rfl rfl ?_
        refine z_goto (t := 7) hM168 rfl ?_
        exact ih hm
      · replace hm := o_f hm h7
        refine z_aload_n (pc' := 30) hM168 rfl rfl rfl ?_
        refine z_iconst (pc' := 31) hM168 rfl rfl rfl ?_
        refine z_aload_n (pc' := 32) hM168 rfl rfl rfl ?_
        obtain ⟨z10, ez10, hm⟩ := o_v hm
        refine z_fldI (pc' := 35) hM168 rfl rfl rfl ez10 ?_
        obtain ⟨z11, s12, h13, hm⟩ := o_c hm
        refine z_cvV (d := d + 4) (pc' := 38) hM168 rfl hM153 rfl rfl rfl rfl rfl rfl (c153 (d := d + 3) hG h13) rfl ?_
        obtain ⟨z14, ez14, h15, hm⟩ := o_z hm
        refine z_iinc (pc' := 41) (l' := [some (zr 12 0 209), some (zj x1), zKd d2, some (zi z14)]) hM168 rfl rfl rfl ez14 h15 rfl rfl ?_
        refine z_goto (t := 7) hM168 rfl ?_
        exact ih hm
    · replace hm := o_f hm h3
      obtain ⟨z16, ez16, h17, hm⟩ := o_z hm
      refine z_iinc (pc' := 41) (l' := [some (zr 12 0 209), some (zj x1), zKd d2, some (zi z16)]) hM168 rfl rfl rfl ez16 h17 rfl rfl ?_
      refine z_goto (t := 7) hM168 rfl ?_
      exact ih hm
  · replace hm := o_f hm h1
    refine z_lload_n (pc' := 45) hM168 rfl rfl rfl ?_
    cases hm
    exact z_retJ hM168 rfl rfl ⟨rfl, rfl⟩
def m168  (s : zS) : Option (Int × zS) := oC (m164 s) fun z1 s2 => m168_7 zFu z1 (0 : Int) s2
theorem c168 {G : aHp} {d : Nat} (hG : zG G) {s : zS} {r_ : Int} {s_ : zS} (hm : m168  s = some (r_, s_)) : Zp G (d + 5) 168 0 [some (zr 12 0 209), none, none, none] [] s (zRet (some (zj r_)) s_) := by
  replace hm : (oC (m164 s) fun z1 s2 => m168_7 zFu z1 (0 : Int) s2) = some (r_, s_) := hm
  refine z_aload_n (pc' := 1) hM168 rfl rfl rfl ?_
  obtain ⟨z1, s2, h3, hm⟩ := o_c hm
  refine z_cv (d := d + 4) (pc' := 4) hM168 rfl hM164 rfl rfl rfl rfl rfl rfl (c164 (d := d) hG h3) rfl ?_
  refine z_lstore_n (pc' := 5) (l' := [some (zr 12 0 209), some (zj z1), none, none]) hM168 rfl rfl rfl rfl ?_
  refine z_iconst (pc' := 6) hM168 rfl rfl rfl ?_
  refine z_istore_n (pc' := 7) (l' := [some (zr 12 0 209), some (zj z1), none, some (zi (0 : Int))]) hM168 rfl rfl rfl rfl ?_
  exact c168_7 hG hm
