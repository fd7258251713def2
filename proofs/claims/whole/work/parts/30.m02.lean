/-! ===== methods (by gen_mir.py) ===== -/
def m26 (a1 : Nat) (x2 : Int) (s : zS) : Option (Int × zS) := oV (sI s a1 2 (0 : Int)) fun s1 => oV (sM s1 4 a1) fun s2 => oD x2 (oV (sI s2 8 2 x2) fun s3 => some (0, s3))
theorem c26 {G : aHp} {d : Nat} (hG : zG G) {a1 : Nat} {x2 : Int} {s : zS} {r_ : Int} {s_ : zS} (hm : m26 a1 x2 s = some (r_, s_)) : Zp G (d + 1) 26 0 [some (zr 4 0 8), some (zr 3 0 a1), some (zi x2)] [] s (zRet none s_) := by
  replace hm : (oV (sI s a1 2 (0 : Int)) fun s1 => oV (sM s1 4 a1) fun s2 => oD x2 (oV (sI s2 8 2 x2) fun s3 => some (0, s3))) = some (r_, s_) := hm
  refine z_aload_n (pc' := 1) hM26 rfl rfl rfl ?_
  refine z_iconst (pc' := 2) hM26 rfl rfl rfl ?_
  obtain ⟨s1, es1, hm⟩ := o_v hm
  refine z_putI (pc' := 5) hM26 rfl rfl rfl es1 ?_
  refine z_aload_n (pc' := 6) hM26 rfl rfl rfl ?_
  refine z_aload_n (pc' := 7) hM26 rfl rfl rfl ?_
  obtain ⟨s2, es2, hm⟩ := o_v hm
  refine z_putC (pc' := 10) hG.2.1 hM26 rfl rfl rfl rfl es2 ?_
  refine z_aload_n (pc' := 11) hM26 rfl rfl rfl ?_
  refine z_iload_n (pc' := 12) hM26 rfl rfl rfl ?_
  obtain ⟨h4, hm⟩ := o_d hm
  obtain ⟨s3, es3, hm⟩ := o_v hm
  refine z_putZ (pc' := 15) hM26 rfl h4 rfl rfl es3 ?_
  cases hm
  exact z_retV hM26 rfl rfl ⟨rfl, rfl⟩
def m80_31 : Nat → Nat → Int → zS → Option (Int × zS)
  | 0, _, _, _ => none
  | n + 1, k1, x2, s => oV (s.1 1 8) fun z1 => if x2 < z1 then oV (s.1 1 4) fun z3 => oZ (x2 - z3) fun z4 => oW z4 (zSl k1) (oV (zSc k1 z4) fun z6 => oX x2 1600 (oV (s.1 2 x2) fun z8 => if z6 = z8 then oZ (x2 + (1 : Int)) fun z11 => m80_31 n k1 z11 s else some ((0 : Int), s))) else some ((1 : Int), s)
theorem c80_31 {G : aHp} {d : Nat} (hG : zG G) : ∀ {n : Nat} {k1 : Nat} {x2 : Int} {s : zS} {r_ : Int} {s_ : zS}, m80_31 n k1 x2 s = some (r_, s_) → Zp G (d + 5) 80 31 [some (zr 8 0 1), some (zt (k1 + 1)), some (zi x2)] [] s (zRet (some (zi r_)) s_) := by
  intro n
  induction n with
  | zero => intro k1 x2 s r_ s_ hm; cases hm
  | succ n ih =>
  intro k1 x2 s r_ s_ hm
  replace hm : (oV (s.1 1 8) fun z1 => if x2 < z1 then oV (s.1 1 4) fun z3 => oZ (x2 - z3) fun z4 => oW z4 (zSl k1) (oV (zSc k1 z4) fun z6 => oX x2 1600 (oV (s.1 2 x2) fun z8 => if z6 = z8 then oZ (x2 + (1 : Int)) fun z11 => m80_31 n k1 z11 s else some ((0 : Int), s))) else some ((1 : Int), s)) = some (r_, s_) := hm
  refine z_iload_n (pc' := 32) hM80 rfl rfl rfl ?_
  refine z_aload_n (pc' := 33) hM80 rfl rfl rfl ?_
  obtain ⟨z1, ez1, hm⟩ := o_v hm
  refine z_fldI (pc' := 36) hM80 rfl rfl rfl ez1 ?_
  refine z_cmpge (pc' := 39) (t := 66) hM80 rfl rfl (fun h2 => ?_) (fun h2 => ?_)
  · replace hm := o_t hm h2
    refine z_aload_t (pc' := 40) hM80 rfl rfl rfl ?_
    refine z_iload_n (pc' := 41) hM80 rfl rfl rfl ?_
    refine z_aload_n (pc' := 42) hM80 rfl rfl rfl ?_
    obtain ⟨z3, ez3, hm⟩ := o_v hm
    refine z_fldI (pc' := 45) hM80 rfl rfl rfl ez3 ?_
    obtain ⟨z4, ez4, h5, hm⟩ := o_z hm
    refine z_isub (pc' := 46) hM80 rfl rfl ez4 h5 ?_
    obtain ⟨h7, hm⟩ := o_w hm
    obtain ⟨z6, ez6, hm⟩ := o_v hm
    refine z_sat (pc' := 49) hM80 rfl (by omega) rfl rfl h7 ez6 ?_
    refine z_aload_n (pc' := 50) hM80 rfl rfl rfl ?_
    refine z_fldR (pc' := 53) hM80 rfl (zf_8_0 hG) rfl rfl ?_
    refine z_iload_n (pc' := 54) hM80 rfl rfl rfl ?_
    obtain ⟨h9, hm⟩ := o_x hm
    obtain ⟨z8, ez8, hm⟩ := o_v hm
    refine z_iald (pc' := 55) (zGN hG) hM80 rfl rfl h9 ez8 ?_
    refine z_cmpeq (pc' := 58) (t := 60) hM80 rfl rfl (fun h10 => ?_) (fun h10 => ?_)
    · replace hm := o_t hm h10
      obtain ⟨z11, ez11, h12, hm⟩ := o_z hm
      refine z_iinc (pc' := 63) (l' := [some (zr 8 0 1), some (zt (k1 + 1)), some (zi z11)]) hM80 rfl rfl rfl ez11 h12 rfl rfl ?_
      refine z_goto (t := 31) hM80 rfl ?_
      exact ih hm
    · replace hm := o_f hm h10
      refine z_iconst (pc' := 59) hM80 rfl rfl rfl ?_
      cases hm
      exact z_retZ hM80 rfl rfl (Or.inl rfl) ⟨rfl, rfl⟩
  · replace hm := o_f hm h2
    refine z_iconst (pc' := 67) hM80 rfl rfl rfl ?_
    cases hm
    exact z_retZ hM80 rfl rfl (Or.inr rfl) ⟨rfl, rfl⟩
def m80 (k1 : Nat) (s : zS) : Option (Int × zS) := oV (s.1 1 3) fun z1 => if z1 = (1 : Int) then oV (s.1 1 8) fun z3 => oV (s.1 1 4) fun z4 => oZ (z3 - z4) fun z5 => oV (zSl k1) fun z7 => if z5 = z7 then oV (s.1 1 4) fun z9 => m80_31 zFu k1 z9 s else some ((0 : Int), s) else some ((0 : Int), s)
theorem c80 {G : aHp} {d : Nat} (hG : zG G) {k1 : Nat} {s : zS} {r_ : Int} {s_ : zS} (hm : m80 k1 s = some (r_, s_)) : Zp G (d + 5) 80 0 [some (zr 8 0 1), some (zt (k1 + 1)), none] [] s (zRet (some (zi r_)) s_) := by
  replace hm : (oV (s.1 1 3) fun z1 => if z1 = (1 : Int) then oV (s.1 1 8) fun z3 => oV (s.1 1 4) fun z4 => oZ (z3 - z4) fun z5 => oV (zSl k1) fun z7 => if z5 = z7 then oV (s.1 1 4) fun z9 => m80_31 zFu k1 z9 s else some ((0 : Int), s) else some ((0 : Int), s)) = some (r_, s_) := hm
  refine z_aload_n (pc' := 1) hM80 rfl rfl rfl ?_
  obtain ⟨z1, ez1, hm⟩ := o_v hm
  refine z_fldI (pc' := 4) hM80 rfl rfl rfl ez1 ?_
  refine z_iconst (pc' := 5) hM80 rfl rfl rfl ?_
  refine z_cmpne (pc' := 8) (t := 24) hM80 rfl rfl (fun h2 => ?_) (fun h2 => ?_)
  · replace hm := o_t hm h2
    refine z_aload_n (pc' := 9) hM80 rfl rfl rfl ?_
    obtain ⟨z3, ez3, hm⟩ := o_v hm
    refine z_fldI (pc' := 12) hM80 rfl rfl rfl ez3 ?_
    refine z_aload_n (pc' := 13) hM80 rfl rfl rfl ?_
    obtain ⟨z4, ez4, hm⟩ := o_v hm
    refine z_fldI (pc' := 16) hM80 rfl rfl rfl ez4 ?_
    obtain ⟨z5, ez5, h6, hm⟩ := o_z hm
    refine z_isub (pc' := 17) hM80 rfl rfl ez5 h6 ?_
    refine z_aload_t (pc' := 18) hM80 rfl rfl rfl ?_
    obtain ⟨z7, ez7, hm⟩ := o_v hm
    refine z_slen (pc' := 21) hM80 rfl (by omega) rfl rfl ez7 ?_
    refine z_cmpeq (pc' := 24) (t := 26) hM80 rfl rfl (fun h8 => ?_) (fun h8 => ?_)
    · replace hm := o_t hm h8
      refine z_aload_n (pc' := 27) hM80 rfl rfl rfl ?_
      obtain ⟨z9, ez9, hm⟩ := o_v hm
      refine z_fldI (pc' := 30) hM80 rfl rfl rfl ez9 ?_
      refine z_istore_n (pc' := 31) (l' := [some (zr 8 0 1), some (zt (k1 + 1)), some (zi z9)]) hM80 rfl rfl rfl rfl ?_
      exact c80_31 hG hm
    · replace hm := o_f hm h8
      refine z_iconst (pc' := 25) hM80 rfl rfl rfl ?_
      cases hm
      exact z_retZ hM80 rfl rfl (Or.inl rfl) ⟨rfl, rfl⟩
  · replace hm := o_f hm h2
    refine z_iconst (pc' := 25) hM80 rfl rfl rfl ?_
    cases hm
    exact z_retZ hM80 rfl rfl (Or.inl rfl) ⟨rfl, rfl⟩
def m77 (x1 : Int) (x2 : Int) (s : zS) : Option (Int × zS) := oV (sI s 1 5 x1) fun s1 => oV (sI s1 1 6 x2) fun s2 => some ((0 : Int), s2)
theorem c77 {G : aHp} {d : Nat} (hG : zG G) {x1 : Int} {x2 : Int} {s : zS} {r_ : Int} {s_ : zS} (hm : m77 x1 x2 s = some (r_, s_)) : Zp G (d + 1) 77 0 [some (zr 8 0 1), some (zi x1), some (zi x2)] [] s (zRet (some (zi r_)) s_) := by
  replace hm : (oV (sI s 1 5 x1) fun s1 => oV (sI s1 1 6 x2) fun s2 => some ((0 : Int), s2)) = some (r_, s_) := hm
  refine z_aload_n (pc' := 1) hM77 rfl rfl rfl ?_
  refine z_iload_n (pc' := 2) hM77 rfl rfl rfl ?_
  obtain ⟨s1, es1, hm⟩ := o_v hm
  refine z_putI (pc' := 5) hM77 rfl rfl rfl es1 ?_
  refine z_aload_n (pc' := 6) hM77 rfl rfl rfl ?_
  refine z_iload_n (pc' := 7) hM77 rfl rfl rfl ?_
  obtain ⟨s2, es2, hm⟩ := o_v hm
  refine z_putI (pc' := 10) hM77 rfl rfl rfl es2 ?_
  refine z_iconst (pc' := 11) hM77 rfl rfl rfl ?_
  cases hm
  exact z_retZ hM77 rfl rfl (Or.inl rfl) ⟨rfl, rfl⟩
def m35 (x1 : Int) (s : zS) : Option (Int × zS) := if x1 < (6 : Int) then oC (m76 s) fun z2 s3 => some ((1 : Int), s3) else oV (s.1 1 4) fun z5 => oC (m77 (4 : Int) z5 s) fun z6 s7 => oD z6 (some (z6, s7))
theorem c35 {G : aHp} {d : Nat} (hG : zG G) {x1 : Int} {s : zS} {r_ : Int} {s_ : zS} (hm : m35 x1 s = some (r_, s_)) : Zp G (d + 2) 35 0 [some (zr 4 0 8), some (zi x1)] [] s (zRet (some (zi r_)) s_) := by
  replace hm : (if x1 < (6 : Int) then oC (m76 s) fun z2 s3 => some ((1 : Int), s3) else oV (s.1 1 4) fun z5 => oC (m77 (4 : Int) z5 s) fun z6 s7 => oD z6 (some (z6, s7))) = some (r_, s_) := hm
  refine z_iload_n (pc' := 1) hM35 rfl rfl rfl ?_
  refine z_bipush (pc' := 3) hM35 rfl rfl rfl ?_
  refine z_cmplt (pc' := 6) (t := 22) hM35 rfl rfl (fun h1 => ?_) (fun h1 => ?_)
  · replace hm := o_t hm h1
    refine z_aload_n (pc' := 23) hM35 rfl rfl rfl ?_
    refine z_fldR (pc' := 26) hM35 rfl (zf_4_0 hG) rfl rfl ?_
    obtain ⟨z2, s3, h4, hm⟩ := o_c hm
    refine z_cvV (d := d + 1) (pc' := 29) hM35 rfl hM76 rfl rfl rfl rfl rfl rfl (c76 (d := d) hG h4) rfl ?_
    refine z_iconst (pc' := 30) hM35 rfl rfl rfl ?_
    cases hm
    exact z_retZ hM35 rfl rfl (Or.inr rfl) ⟨rfl, rfl⟩
  · replace hm := o_f hm h1
    refine z_aload_n (pc' := 7) hM35 rfl rfl rfl ?_
    refine z_fldR (pc' := 10) hM35 rfl (zf_4_0 hG) rfl rfl ?_
    refine z_iconst (pc' := 11) hM35 rfl rfl rfl ?_
    refine z_aload_n (pc' := 12) hM35 rfl rfl rfl ?_
    refine z_fldR (pc' := 15) hM35 rfl (zf_4_0 hG) rfl rfl ?_
    obtain ⟨z5, ez5, hm⟩ := o_v hm
    refine z_fldI (pc' := 18) hM35 rfl rfl rfl ez5 ?_
    obtain ⟨z6, s7, h8, hm⟩ := o_c hm
    refine z_cv (d := d + 1) (pc' := 21) hM35 rfl hM77 rfl rfl rfl rfl rfl rfl (c77 (d := d) hG h8) rfl ?_
    obtain ⟨h9, hm⟩ := o_d hm
    cases hm
    exact z_retZ hM35 rfl rfl h9 ⟨rfl, rfl⟩
def m28 (x1 : Int) (s : zS) : Option (Int × zS) := oV (s.2.2 4) fun w1 => if w1 = 0 then some ((1 : Int), s) else oV (s.2.2 4) fun w3 => if w3 = 0 then none else oC (m19 w3 x1 s) fun z5 s6 => some ((1 : Int), s6)
theorem c28 {G : aHp} {d : Nat} (hG : zG G) {x1 : Int} {s : zS} {r_ : Int} {s_ : zS} (hm : m28 x1 s = some (r_, s_)) : Zp G (d + 2) 28 0 [some (zr 4 0 8), some (zi x1)] [] s (zRet (some (zi r_)) s_) := by
  replace hm : (oV (s.2.2 4) fun w1 => if w1 = 0 then some ((1 : Int), s) else oV (s.2.2 4) fun w3 => if w3 = 0 then none else oC (m19 w3 x1 s) fun z5 s6 => some ((1 : Int), s6)) = some (r_, s_) := hm
  refine z_aload_n (pc' := 1) hM28 rfl rfl rfl ?_
  obtain ⟨w1, ew1, hm⟩ := o_v hm
  refine (Decidable.em (w1 = 0)).elim (fun h2 => ?_) (fun h2 => ?_)
  · replace hm := o_t hm h2
    refine z_fldN (pc' := 4) hM28 rfl rfl rfl rfl (ew1 ▸ h2) ?_
    refine z_ifnullN (t := 15) hM28 rfl ?_
    refine z_iconst (pc' := 16) hM28 rfl rfl rfl ?_
    cases hm
    exact z_retZ hM28 rfl rfl (Or.inr rfl) ⟨rfl, rfl⟩
  · replace hm := o_f hm h2
    refine z_fldC (pc' := 4) hM28 rfl rfl rfl rfl ew1 h2 ?_
    refine z_ifnull (pc' := 7) hM28 rfl rfl ?_
    refine z_aload_n (pc' := 8) hM28 rfl rfl rfl ?_
    obtain ⟨w3, ew3, hm⟩ := o_v hm
    refine (Decidable.em (w3 = 0)).elim (fun h4 => ?_) (fun h4 => ?_)
    · replace hm := o_t hm h4
      refine z_fldN (pc' := 11) hM28 rfl rfl rfl rfl (ew3 ▸ h4) ?_
      refine z_iload_n (pc' := 12) hM28 rfl rfl rfl ?_
      cases hm
    · replace hm := o_f hm h4
      refine z_fldC (pc' := 11) hM28 rfl rfl rfl rfl ew3 h4 ?_
      refine z_iload_n (pc' := 12) hM28 rfl rfl rfl ?_
      obtain ⟨z5, s6, h7, hm⟩ := o_c hm
      refine z_cvV (d := d + 1) (pc' := 15) hM28 rfl hM19 rfl rfl rfl rfl rfl rfl (c19 (d := d) hG h7) rfl ?_
      refine z_iconst (pc' := 16) hM28 rfl rfl rfl ?_
      cases hm
      exact z_retZ hM28 rfl rfl (Or.inr rfl) ⟨rfl, rfl⟩
def m79 (x1 : Int) (s : zS) : Option (Int × zS) := oV (s.1 1 3) fun z1 => if z1 = (3 : Int) then oV (s.1 1 4) fun z3 => oV (s.1 1 2) fun z4 => if z3 < z4 then oV (s.1 1 4) fun z6 => oX z6 1600 (oV (s.1 2 z6) fun z7 => if z7 = x1 then some ((1 : Int), s) else some ((0 : Int), s)) else some ((0 : Int), s) else some ((0 : Int), s)
theorem c79 {G : aHp} {d : Nat} (hG : zG G) {x1 : Int} {s : zS} {r_ : Int} {s_ : zS} (hm : m79 x1 s = some (r_, s_)) : Zp G (d + 1) 79 0 [some (zr 8 0 1), some (zi x1)] [] s (zRet (some (zi r_)) s_) := by
  replace hm : (oV (s.1 1 3) fun z1 => if z1 = (3 : Int) then oV (s.1 1 4) fun z3 => oV (s.1 1 2) fun z4 => if z3 < z4 then oV (s.1 1 4) fun z6 => oX z6 1600 (oV (s.1 2 z6) fun z7 => if z7 = x1 then some ((1 : Int), s) else some ((0 : Int), s)) else some ((0 : Int), s) else some ((0 : Int), s)) = some (r_, s_) := hm
  refine z_aload_n (pc' := 1) hM79 rfl rfl rfl ?_
  obtain ⟨z1, ez1, hm⟩ := o_v hm
  refine z_fldI (pc' := 4) hM79 rfl rfl rfl ez1 ?_
  refine z_iconst (pc' := 5) hM79 rfl rfl rfl ?_
  refine z_cmpne (pc' := 8) (t := 36) hM79 rfl rfl (fun h2 => ?_) (fun h2 => ?_)
  · replace hm := o_t hm h2
    refine z_aload_n (pc' := 9) hM79 rfl rfl rfl ?_
    obtain ⟨z3, ez3, hm⟩ := o_v hm
    refine z_fldI (pc' := 12) hM79 rfl rfl rfl ez3 ?_
    refine z_aload_n (pc' := 13) hM79 rfl rfl rfl ?_
    obtain ⟨z4, ez4, hm⟩ := o_v hm
    refine z_fldI (pc' := 16) hM79 rfl rfl rfl ez4 ?_
    refine z_cmpge (pc' := 19) (t := 36) hM79 rfl rfl (fun h5 => ?_) (fun h5 => ?_)
    · replace hm := o_t hm h5
      refine z_aload_n (pc' := 20) hM79 rfl rfl rfl ?_
      refine z_fldR (pc' := 23) hM79 rfl (zf_8_0 hG) rfl rfl ?_
      refine z_aload_n (pc' := 24) hM79 rfl rfl rfl ?_
      obtain ⟨z6, ez6, hm⟩ := o_v hm
      refine z_fldI (pc' := 27) hM79 rfl rfl rfl ez6 ?_
      obtain ⟨h8, hm⟩ := o_x hm
      obtain ⟨z7, ez7, hm⟩ := o_v hm
      refine z_iald (pc' := 28) (zGN hG) hM79 rfl rfl h8 ez7 ?_
      refine z_iload_n (pc' := 29) hM79 rfl rfl rfl ?_
      refine z_cmpne (pc' := 32) (t := 36) hM79 rfl rfl (fun h9 => ?_) (fun h9 => ?_)
      · replace hm := o_t hm h9
        refine z_iconst (pc' := 33) hM79 rfl rfl rfl ?_
        refine z_goto (t := 37) hM79 rfl ?_
        cases hm
        exact z_retZ hM79 rfl rfl (Or.inr rfl) ⟨rfl, rfl⟩
      · replace hm := o_f hm h9
        refine z_iconst (pc' := 37) hM79 rfl rfl rfl ?_
        cases hm
        exact z_retZ hM79 rfl rfl (Or.inl rfl) ⟨rfl, rfl⟩
    · replace hm := o_f hm h5
      refine z_iconst (pc' := 37) hM79 rfl rfl rfl ?_
      cases hm
      exact z_retZ hM79 rfl rfl (Or.inl rfl) ⟨rfl, rfl⟩
  · replace hm := o_f hm h2
    refine z_iconst (pc' := 37) hM79 rfl rfl rfl ?_
    cases hm
    exact z_retZ hM79 rfl rfl (Or.inl rfl) ⟨rfl, rfl⟩
def m78  (s : zS) : Option (Int × zS) := oV (sI s 1 5 (1 : Int)) fun s1 => oV (s1.1 1 4) fun z2 => oV (sI s1 1 6 z2) fun s3 => some ((0 : Int), s3)
theorem c78 {G : aHp} {d : Nat} (hG : zG G) {s : zS} {r_ : Int} {s_ : zS} (hm : m78  s = some (r_, s_)) : Zp G (d + 1) 78 0 [some (zr 8 0 1)] [] s (zRet (some (zi r_)) s_) := by
  replace hm : (oV (sI s 1 5 (1 : Int)) fun s1 => oV (s1.1 1 4) fun z2 => oV (sI s1 1 6 z2) fun s3 => some ((0 : Int), s3)) = some (r_, s_) := hm
  refine z_aload_n (pc' := 1) hM78 rfl rfl rfl ?_
  refine z_iconst (pc' := 2) hM78 rfl rfl rfl ?_
  obtain ⟨s1, es1, hm⟩ := o_v hm
  refine z_putI (pc' := 5) hM78 rfl rfl rfl es1 ?_
  refine z_aload_n (pc' := 6) hM78 rfl rfl rfl ?_
  refine z_aload_n (pc' := 7) hM78 rfl rfl rfl ?_
  obtain ⟨z2, ez2, hm⟩ := o_v hm
  refine z_fldI (pc' := 10) hM78 rfl rfl rfl ez2 ?_
  obtain ⟨s3, es3, hm⟩ := o_v hm
  refine z_putI (pc' := 13) hM78 rfl rfl rfl es3 ?_
  refine z_iconst (pc' := 14) hM78 rfl rfl rfl ?_
  cases hm
  exact z_retZ hM78 rfl rfl (Or.inl rfl) ⟨rfl, rfl⟩
def m81 (x1 : Int) (s : zS) : Option (Int × zS) := oC (m79 x1 s) fun z1 s2 => if z1 = (0 : Int) then oC (m78 s2) fun z5 s6 => oD z5 (some (z5, s6)) else oC (m76 s2) fun z9 s10 => some ((1 : Int), s10)
theorem c81 {G : aHp} {d : Nat} (hG : zG G) {x1 : Int} {s : zS} {r_ : Int} {s_ : zS} (hm : m81 x1 s = some (r_, s_)) : Zp G (d + 2) 81 0 [some (zr 8 0 1), some (zi x1)] [] s (zRet (some (zi r_)) s_) := by
  replace hm : (oC (m79 x1 s) fun z1 s2 => if z1 = (0 : Int) then oC (m78 s2) fun z5 s6 => oD z5 (some (z5, s6)) else oC (m76 s2) fun z9 s10 => some ((1 : Int), s10)) = some (r_, s_) := hm
  refine z_aload_n (pc' := 1) hM81 rfl rfl rfl ?_
  refine z_iload_n (pc' := 2) hM81 rfl rfl rfl ?_
  obtain ⟨z1, s2, h3, hm⟩ := o_c hm
  refine z_cv (d := d + 1) (pc' := 5) hM81 rfl hM79 rfl rfl rfl rfl rfl rfl (c79 (d := d) hG h3) rfl ?_
  refine z_ifne (pc' := 8) (t := 13) hM81 rfl rfl (fun h4 => ?_) (fun h4 => ?_)
  · replace hm := o_t hm h4
    refine z_aload_n (pc' := 9) hM81 rfl rfl rfl ?_
    obtain ⟨z5, s6, h7, hm⟩ := o_c hm
    refine z_cv (d := d + 1) (pc' := 12) hM81 rfl hM78 rfl rfl rfl rfl rfl rfl (c78 (d := d) hG h7) rfl ?_
    obtain ⟨h8, hm⟩ := o_d hm
    cases hm
    exact z_retZ hM81 rfl rfl h8 ⟨rfl, rfl⟩
  · replace hm := o_f hm h4
    refine z_aload_n (pc' := 14) hM81 rfl rfl rfl ?_
    obtain ⟨z9, s10, h11, hm⟩ := o_c hm
    refine z_cvV (d := d + 1) (pc' := 17) hM81 rfl hM76 rfl rfl rfl rfl rfl rfl (c76 (d := d) hG h11) rfl ?_
    refine z_iconst (pc' := 18) hM81 rfl rfl rfl ?_
    cases hm
    exact z_retZ hM81 rfl rfl (Or.inr rfl) ⟨rfl, rfl⟩
def m32_66 (f : Int → Int → zS → Option (Int × zS)) (x1 : Int) (y0 : Int) (s : zS) : Option (Int × zS) := if y0 = (-1 : Int) then oC (m78 s) fun z2 s3 => oD z2 (some (z2, s3)) else oC (m76 s) fun z6 s7 => oC (f (3 : Int) x1 s7) fun z9 s10 => if z9 = (0 : Int) then some ((0 : Int), s10) else oC (m28 y0 s10) fun z13 s14 => if z13 = (0 : Int) then some ((0 : Int), s14) else some ((1 : Int), s14)
theorem c32_66 {G : aHp} {d : Nat} {f : Int → Int → zS → Option (Int × zS)} (hf : ∀ {x1 : Int} {x2 : Int} {s : zS} {r_ : Int} {s_ : zS}, f x1 x2 s = some (r_, s_) → Zp G d 29 0 [some (zr 4 0 8), some (zi x1), some (zi x2), none, none] [] s (zRet (some (zi r_)) s_)) (hG : zG G) {x1 : Int} {y0 : Int} {d2 : Option zV} {s : zS} {r_ : Int} {s_ : zS} (hm : m32_66 f x1 y0 s = some (r_, s_)) : Zp G (d + 3) 32 66 [some (zr 4 0 8), some (zi x1), d2] [zi y0] s (zRet (some (zi r_)) s_) := by
  replace hm : (if y0 = (-1 : Int) then oC (m78 s) fun z2 s3 => oD z2 (some (z2, s3)) else oC (m76 s) fun z6 s7 => oC (f (3 : Int) x1 s7) fun z9 s10 => if z9 = (0 : Int) then some ((0 : Int), s10) else oC (m28 y0 s10) fun z13 s14 => if z13 = (0 : Int) then some ((0 : Int), s14) else some ((1 : Int), s14)) = some (r_, s_) := hm
  refine z_istore_n (pc' := 67) (l' := [some (zr 4 0 8), some (zi x1), some (zi y0)]) hM32 rfl rfl rfl rfl ?_
  refine z_iload_n (pc' := 68) hM32 rfl rfl rfl ?_
  refine z_iconst (pc' := 69) hM32 rfl rfl rfl ?_
  refine z_cmpne (pc' := 72) (t := 80) hM32 rfl rfl (fun h1 => ?_) (fun h1 => ?_)
  · replace hm := o_t hm h1
    refine z_aload_n (pc' := 73) hM32 rfl rfl rfl ?_
    refine z_fldR (pc' := 76) hM32 rfl (zf_4_0 hG) rfl rfl ?_
    obtain ⟨z2, s3, h4, hm⟩ := o_c hm
    refine z_cv (d := d + 2) (pc' := 79) hM32 rfl hM78 rfl rfl rfl rfl rfl rfl (c78 (d := d + 1) hG h4) rfl ?_
    obtain ⟨h5, hm⟩ := o_d hm
    cases hm
    exact z_retZ hM32 rfl rfl h5 ⟨rfl, rfl⟩
  · replace hm := o_f hm h1
    refine z_aload_n (pc' := 81) hM32 rfl rfl rfl ?_
    refine z_fldR (pc' := 84) hM32 rfl (zf_4_0 hG) rfl rfl ?_
    obtain ⟨z6, s7, h8, hm⟩ := o_c hm
    refine z_cvV (d := d + 2) (pc' := 87) hM32 rfl hM76 rfl rfl rfl rfl rfl rfl (c76 (d := d + 1) hG h8) rfl ?_
    refine z_aload_n (pc' := 88) hM32 rfl rfl rfl ?_
    refine z_iconst (pc' := 89) hM32 rfl rfl rfl ?_
    refine z_iload_n (pc' := 90) hM32 rfl rfl rfl ?_
    obtain ⟨z9, s10, h11, hm⟩ := o_c hm
    refine z_cv (d := d + 2) (pc' := 93) hM32 rfl hM29 rfl rfl rfl rfl rfl rfl (z_up (by omega) (hf h11)) rfl ?_
    refine z_ifeq (pc' := 96) (t := 108) hM32 rfl rfl (fun h12 => ?_) (fun h12 => ?_)
    · replace hm := o_t hm h12
      refine z_iconst (pc' := 109) hM32 rfl rfl rfl ?_
      cases hm
      exact z_retZ hM32 rfl rfl (Or.inl rfl) ⟨rfl, rfl⟩
    · replace hm := o_f hm h12
      refine z_aload_n (pc' := 97) hM32 rfl rfl rfl ?_
      refine z_iload_n (pc' := 98) hM32 rfl rfl rfl ?_
      obtain ⟨z13, s14, h15, hm⟩ := o_c hm
      refine z_cv (d := d + 2) (pc' := 101) hM32 rfl hM28 rfl rfl rfl rfl rfl rfl (c28 (d := d) hG h15) rfl ?_
      refine z_ifeq (pc' := 104) (t := 108) hM32 rfl rfl (fun h16 => ?_) (fun h16 => ?_)
      · replace hm := o_t hm h16
        refine z_iconst (pc' := 109) hM32 rfl rfl rfl ?_
        cases hm
        exact z_retZ hM32 rfl rfl (Or.inl rfl) ⟨rfl, rfl⟩
      · replace hm := o_f hm h16
        refine z_iconst (pc' := 105) hM32 rfl rfl rfl ?_
        refine z_goto (t := 109) hM32 rfl ?_
        cases hm
        exact z_retZ hM32 rfl rfl (Or.inr rfl) ⟨rfl, rfl⟩
def m32 (f : Int → Int → zS → Option (Int × zS)) (x1 : Int) (s : zS) : Option (Int × zS) := oC (f (3 : Int) x1 s) fun z1 s2 => if z1 = (0 : Int) then some ((0 : Int), s2) else oC (m79 (60 : Int) s2) fun z5 s6 => if z5 = (0 : Int) then oC (m79 (62 : Int) s6) fun z9 s10 => if z9 = (0 : Int) then oC (m79 (61 : Int) s10) fun z13 s14 => if z13 = (0 : Int) then m32_66 f x1 (-1 : Int) s14 else m32_66 f x1 (20008 : Int) s14 else m32_66 f x1 (20007 : Int) s10 else m32_66 f x1 (20006 : Int) s6
theorem c32 {G : aHp} {d : Nat} {f : Int → Int → zS → Option (Int × zS)} (hf : ∀ {x1 : Int} {x2 : Int} {s : zS} {r_ : Int} {s_ : zS}, f x1 x2 s = some (r_, s_) → Zp G d 29 0 [some (zr 4 0 8), some (zi x1), some (zi x2), none, none] [] s (zRet (some (zi r_)) s_)) (hG : zG G) {x1 : Int} {s : zS} {r_ : Int} {s_ : zS} (hm : m32 f x1 s = some (r_, s_)) : Zp G (d + 3) 32 0 [some (zr 4 0 8), some (zi x1), none] [] s (zRet (some (zi r_)) s_) := by
  replace hm : (oC (f (3 : Int) x1 s) fun z1 s2 => if z1 = (0 : Int) then some ((0 : Int), s2) else oC (m79 (60 : Int) s2) fun z5 s6 => if z5 = (0 : Int) then oC (m79 (62 : Int) s6) fun z9 s10 => if z9 = (0 : Int) then oC (m79 (61 : Int) s10) fun z13 s14 => if z13 = (0 : Int) then m32_66 f x1 (-1 : Int) s14 else m32_66 f x1 (20008 : Int) s14 else m32_66 f x1 (20007 : Int) s10 else m32_66 f x1 (20006 : Int) s6) = some (r_, s_) := hm
  refine z_aload_n (pc' := 1) hM32 rfl rfl rfl ?_
  refine z_iconst (pc' := 2) hM32 rfl rfl rfl ?_
  refine z_iload_n (pc' := 3) hM32 rfl rfl rfl ?_
  obtain ⟨z1, s2, h3, hm⟩ := o_c hm
  refine z_cv (d := d + 2) (pc' := 6) hM32 rfl hM29 rfl rfl rfl rfl rfl rfl (z_up (by omega) (hf h3)) rfl ?_
  refine z_ifne (pc' := 9) (t := 11) hM32 rfl rfl (fun h4 => ?_) (fun h4 => ?_)
  · replace hm := o_t hm h4
    refine z_iconst (pc' := 10) hM32 rfl rfl rfl ?_
    cases hm
    exact z_retZ hM32 rfl rfl (Or.inl rfl) ⟨rfl, rfl⟩
  · replace hm := o_f hm h4
    refine z_aload_n (pc' := 12) hM32 rfl rfl rfl ?_
    refine z_fldR (pc' := 15) hM32 rfl (zf_4_0 hG) rfl rfl ?_
    refine z_bipush (pc' := 17) hM32 rfl rfl rfl ?_
    obtain ⟨z5, s6, h7, hm⟩ := o_c hm
    refine z_cv (d := d + 2) (pc' := 20) hM32 rfl hM79 rfl rfl rfl rfl rfl rfl (c79 (d := d + 1) hG h7) rfl ?_
    refine z_ifeq (pc' := 23) (t := 29) hM32 rfl rfl (fun h8 => ?_) (fun h8 => ?_)
    · replace hm := o_t hm h8
      refine z_aload_n (pc' := 30) hM32 rfl rfl rfl ?_
      refine z_fldR (pc' := 33) hM32 rfl (zf_4_0 hG) rfl rfl ?_
      refine z_bipush (pc' := 35) hM32 rfl rfl rfl ?_
      obtain ⟨z9, s10, h11, hm⟩ := o_c hm
      refine z_cv (d := d + 2) (pc' := 38) hM32 rfl hM79 rfl rfl rfl rfl rfl rfl (c79 (d := d + 1) hG h11) rfl ?_
      refine z_ifeq (pc' := 41) (t := 47) hM32 rfl rfl (fun h12 => ?_) (fun h12 => ?_)
      · replace hm := o_t hm h12
        refine z_aload_n (pc' := 48) hM32 rfl rfl rfl ?_
        refine z_fldR (pc' := 51) hM32 rfl (zf_4_0 hG) rfl rfl ?_
        refine z_bipush (pc' := 53) hM32 rfl rfl rfl ?_
        obtain ⟨z13, s14, h15, hm⟩ := o_c hm
        refine z_cv (d := d + 2) (pc' := 56) hM32 rfl hM79 rfl rfl rfl rfl rfl rfl (c79 (d := d + 1) hG h15) rfl ?_
        refine z_ifeq (pc' := 59) (t := 65) hM32 rfl rfl (fun h16 => ?_) (fun h16 => ?_)
        · replace hm := o_t hm h16
          refine z_iconst (pc' := 66) hM32 rfl rfl rfl ?_
          exact c32_66 hf hG hm
        · replace hm := o_f hm h16
          refine z_sipush (pc' := 62) hM32 rfl rfl rfl ?_
          refine z_goto (t := 66) hM32 rfl ?_
          exact c32_66 hf hG hm
      · replace hm := o_f hm h12
        refine z_sipush (pc' := 44) hM32 rfl rfl rfl ?_
        refine z_goto (t := 66) hM32 rfl ?_
        exact c32_66 hf hG hm
    · replace hm := o_f hm h8
      refine z_sipush (pc' := 26) hM32 rfl rfl rfl ?_
      refine z_goto (t := 66) hM32 rfl ?_
      exact c32_66 hf hG hm
def m31 (f : Int → Int → zS → Option (Int × zS)) (x1 : Int) (s : zS) : Option (Int × zS) := oC (m80 14 s) fun z1 s2 => if z1 = (0 : Int) then oC (m79 (91 : Int) s2) fun z5 s6 => if z5 = (0 : Int) then oC (m80 15 s6) fun z9 s10 => if z9 = (0 : Int) then oC (m32 f x1 s10) fun z13 s14 => oD z13 (some (z13, s14)) else oC (m76 s10) fun z17 s18 => oC (m28 (1 : Int) s18) fun z20 s21 => oD z20 (some (z20, s21)) else oC (m35 x1 s6) fun z24 s25 => if z24 = (0 : Int) then some ((0 : Int), s25) else oZ (x1 + (1 : Int)) fun z28 => oC (f (0 : Int) z28 s25) fun z30 s31 => if z30 = (0 : Int) then some ((0 : Int), s31) else oC (m81 (93 : Int) s31) fun z34 s35 => if z34 = (0 : Int) then some ((0 : Int), s35) else some ((1 : Int), s35) else oC (m35 x1 s2) fun z38 s39 => if z38 = (0 : Int) then some ((0 : Int), s39) else oZ (x1 + (1 : Int)) fun z42 => oC (f (2 : Int) z42 s39) fun z44 s45 => if z44 = (0 : Int) then some ((0 : Int), s45) else oC (m28 (20011 : Int) s45) fun z48 s49 => if z48 = (0 : Int) then some ((0 : Int), s49) else some ((1 : Int), s49)
theorem c31 {G : aHp} {d : Nat} {f : Int → Int → zS → Option (Int × zS)} (hf : ∀ {x1 : Int} {x2 : Int} {s : zS} {r_ : Int} {s_ : zS}, f x1 x2 s = some (r_, s_) → Zp G d 29 0 [some (zr 4 0 8), some (zi x1), some (zi x2), none, none] [] s (zRet (some (zi r_)) s_)) (hG : zG G) {x1 : Int} {s : zS} {r_ : Int} {s_ : zS} (hm : m31 f x1 s = some (r_, s_)) : Zp G (d + 6) 31 0 [some (zr 4 0 8), some (zi x1)] [] s (zRet (some (zi r_)) s_) := by
  replace hm : (oC (m80 14 s) fun z1 s2 => if z1 = (0 : Int) then oC (m79 (91 : Int) s2) fun z5 s6 => if z5 = (0 : Int) then oC (m80 15 s6) fun z9 s10 => if z9 = (0 : Int) then oC (m32 f x1 s10) fun z13 s14 => oD z13 (some (z13, s14)) else oC (m76 s10) fun z17 s18 => oC (m28 (1 : Int) s18) fun z20 s21 => oD z20 (some (z20, s21)) else oC (m35 x1 s6) fun z24 s25 => if z24 = (0 : Int) then some ((0 : Int), s25) else oZ (x1 + (1 : Int)) fun z28 => oC (f (0 : Int) z28 s25) fun z30 s31 => if z30 = (0 : Int) then some ((0 : Int), s31) else oC (m81 (93 : Int) s31) fun z34 s35 => if z34 = (0 : Int) then some ((0 : Int), s35) else some ((1 : Int), s35) else oC (m35 x1 s2) fun z38 s39 => if z38 = (0 : Int) then some ((0 : Int), s39) else oZ (x1 + (1 : Int)) fun z42 => oC (f (2 : Int) z42 s39) fun z44 s45 => if z44 = (0 : Int) then some ((0 : Int), s45) else oC (m28 (20011 : Int) s45) fun z48 s49 => if z48 = (0 : Int) then some ((0 : Int), s49) else some ((1 : Int), s49)) = some (r_, s_) := hm
  refine z_aload_n (pc' := 1) hM31 rfl rfl rfl ?_
  refine z_fldR (pc' := 4) hM31 rfl (zf_4_0 hG) rfl rfl ?_
  refine z_ldcT (pc' := 6) hM31 rfl rfl rfl ?_
  obtain ⟨z1, s2, h3, hm⟩ := o_c hm
  refine z_cv (d := d + 5) (pc' := 9) hM31 rfl hM80 rfl rfl rfl rfl rfl rfl (c80 (d := d) hG h3) rfl ?_
  refine z_ifeq (pc' := 12) (t := 47) hM31 rfl rfl (fun h4 => ?_) (fun h4 => ?_)
  · replace hm := o_t hm h4
    refine z_aload_n (pc' := 48) hM31 rfl rfl rfl ?_
    refine z_fldR (pc' := 51) hM31 rfl (zf_4_0 hG) rfl rfl ?_
    refine z_bipush (pc' := 53) hM31 rfl rfl rfl ?_
    obtain ⟨z5, s6, h7, hm⟩ := o_c hm
    refine z_cv (d := d + 5) (pc' := 56) hM31 rfl hM79 rfl rfl rfl rfl rfl rfl (c79 (d := d + 4) hG h7) rfl ?_
    refine z_ifeq (pc' := 59) (t := 96) hM31 rfl rfl (fun h8 => ?_) (fun h8 => ?_)
    · replace hm := o_t hm h8
      refine z_aload_n (pc' := 97) hM31 rfl rfl rfl ?_
      refine z_fldR (pc' := 100) hM31 rfl (zf_4_0 hG) rfl rfl ?_
      refine z_ldcT (pc' := 102) hM31 rfl rfl rfl ?_
      obtain ⟨z9, s10, h11, hm⟩ := o_c hm
      refine z_cv (d := d + 5) (pc' := 105) hM31 rfl hM80 rfl rfl rfl rfl rfl rfl (c80 (d := d) hG h11) rfl ?_
      refine z_ifeq (pc' := 108) (t := 121) hM31 rfl rfl (fun h12 => ?_) (fun h12 => ?_)
      · replace hm := o_t hm h12
        refine z_aload_n (pc' := 122) hM31 rfl rfl rfl ?_
        refine z_iload_n (pc' := 123) hM31 rfl rfl rfl ?_
        obtain ⟨z13, s14, h15, hm⟩ := o_c hm
        refine z_cv (d := d + 5) (pc' := 126) hM31 rfl hM32 rfl rfl rfl rfl rfl rfl (z_up (by omega) (c32 hf hG h15)) rfl ?_
        obtain ⟨h16, hm⟩ := o_d hm
        cases hm
        exact z_retZ hM31 rfl rfl h16 ⟨rfl, rfl⟩
      · replace hm := o_f hm h12
        refine z_aload_n (pc' := 109) hM31 rfl rfl rfl ?_
        refine z_fldR (pc' := 112) hM31 rfl (zf_4_0 hG) rfl rfl ?_
        obtain ⟨z17, s18, h19, hm⟩ := o_c hm
        refine z_cvV (d := d + 5) (pc' := 115) hM31 rfl hM76 rfl rfl rfl rfl rfl rfl (c76 (d := d + 4) hG h19) rfl ?_
        refine z_aload_n (pc' := 116) hM31 rfl rfl rfl ?_
        refine z_iconst (pc' := 117) hM31 rfl rfl rfl ?_
        obtain ⟨z20, s21, h22, hm⟩ := o_c hm
        refine z_cv (d := d + 5) (pc' := 120) hM31 rfl hM28 rfl rfl rfl rfl rfl rfl (c28 (d := d + 3) hG h22) rfl ?_
        obtain ⟨h23, hm⟩ := o_d hm
        cases hm
        exact z_retZ hM31 rfl rfl h23 ⟨rfl, rfl⟩
    · replace hm := o_f hm h8
      refine z_aload_n (pc' := 60) hM31 rfl rfl rfl ?_
      refine z_iload_n (pc' := 61) hM31 rfl rfl rfl ?_
      obtain ⟨z24, s25, h26, hm⟩ := o_c hm
      refine z_cv (d := d + 5) (pc' := 64) hM31 rfl hM35 rfl rfl rfl rfl rfl rfl (c35 (d := d + 3) hG h26) rfl ?_
      refine z_ifeq (pc' := 67) (t := 94) hM31 rfl rfl (fun h27 => ?_) (fun h27 => ?_)
      · replace hm := o_t hm h27
        refine z_iconst (pc' := 95) hM31 rfl rfl rfl ?_
        cases hm
        exact z_retZ hM31 rfl rfl (Or.inl rfl) ⟨rfl, rfl⟩
      · replace hm := o_f hm h27
        refine z_aload_n (pc' := 68) hM31 rfl rfl rfl ?_
        refine z_iconst (pc' := 69) hM31 rfl rfl rfl ?_
        refine z_iload_n (pc' := 70) hM31 rfl rfl rfl ?_
        refine z_iconst (pc' := 71) hM31 rfl rfl rfl ?_
        obtain ⟨z28, ez28, h29, hm⟩ := o_z hm
        refine z_iadd (pc' := 72) hM31 rfl rfl ez28 h29 ?_
        obtain ⟨z30, s31, h32, hm⟩ := o_c hm
        refine z_cv (d := d + 5) (pc' := 75) hM31 rfl hM29 rfl rfl rfl rfl rfl rfl (z_up (by omega) (hf h32)) rfl ?_
        refine z_ifeq (pc' := 78) (t := 94) hM31 rfl rfl (fun h33 => ?_) (fun h33 => ?_)
        · replace hm := o_t hm h33
          refine z_iconst (pc' := 95) hM31 rfl rfl rfl ?_
          cases hm
          exact z_retZ hM31 rfl rfl (Or.inl rfl) ⟨rfl, rfl⟩
        · replace hm := o_f hm h33
          refine z_aload_n (pc' := 79) hM31 rfl rfl rfl ?_
          refine z_fldR (pc' := 82) hM31 rfl (zf_4_0 hG) rfl rfl ?_
          refine z_bipush (pc' := 84) hM31 rfl rfl rfl ?_
          obtain ⟨z34, s35, h36, hm⟩ := o_c hm
          refine z_cv (d := d + 5) (pc' := 87) hM31 rfl hM81 rfl rfl rfl rfl rfl rfl (c81 (d := d + 3) hG h36) rfl ?_
          refine z_ifeq (pc' := 90) (t := 94) hM31 rfl rfl (fun h37 => ?_) (fun h37 => ?_)
          · replace hm := o_t hm h37
            refine z_iconst (pc' := 95) hM31 rfl rfl rfl ?_
            cases hm
            exact z_retZ hM31 rfl rfl (Or.inl rfl) ⟨rfl, rfl⟩
          · replace hm := o_f hm h37
            refine z_iconst (pc' := 91) hM31 rfl rfl rfl ?_
            refine z_goto (t := 95) hM31 rfl ?_
            cases hm
            exact z_retZ hM31 rfl rfl (Or.inr rfl) ⟨rfl, rfl⟩
  · replace hm := o_f hm h4
    refine z_aload_n (pc' := 13) hM31 rfl rfl rfl ?_
    refine z_iload_n (pc' := 14) hM31 rfl rfl rfl ?_
    obtain ⟨z38, s39, h40, hm⟩ := o_c hm
    refine z_cv (d := d + 5) (pc' := 17) hM31 rfl hM35 rfl rfl rfl rfl rfl rfl (c35 (d := d + 3) hG h40) rfl ?_
    refine z_ifeq (pc' := 20) (t := 45) hM31 rfl rfl (fun h41 => ?_) (fun h41 => ?_)
    · replace hm := o_t hm h41
      refine z_iconst (pc' := 46) hM31 rfl rfl rfl ?_
      cases hm
      exact z_retZ hM31 rfl rfl (Or.inl rfl) ⟨rfl, rfl⟩
    · replace hm := o_f hm h41
      refine z_aload_n (pc' := 21) hM31 rfl rfl rfl ?_
      refine z_iconst (pc' := 22) hM31 rfl rfl rfl ?_
      refine z_iload_n (pc' := 23) hM31 rfl rfl rfl ?_
      refine z_iconst (pc' := 24) hM31 rfl rfl rfl ?_
      obtain ⟨z42, ez42, h43, hm⟩ := o_z hm
      refine z_iadd (pc' := 25) hM31 rfl rfl ez42 h43 ?_
      obtain ⟨z44, s45, h46, hm⟩ := o_c hm
      refine z_cv (d := d + 5) (pc' := 28) hM31 rfl hM29 rfl rfl rfl rfl rfl rfl (z_up (by omega) (hf h46)) rfl ?_
      refine z_ifeq (pc' := 31) (t := 45) hM31 rfl rfl (fun h47 => ?_) (fun h47 => ?_)
      · replace hm := o_t hm h47
        refine z_iconst (pc' := 46) hM31 rfl rfl rfl ?_
        cases hm
        exact z_retZ hM31 rfl rfl (Or.inl rfl) ⟨rfl, rfl⟩
      · replace hm := o_f hm h47
        refine z_aload_n (pc' := 32) hM31 rfl rfl rfl ?_
        refine z_sipush (pc' := 35) hM31 rfl rfl rfl ?_
        obtain ⟨z48, s49, h50, hm⟩ := o_c hm
        refine z_cv (d := d + 5) (pc' := 38) hM31 rfl hM28 rfl rfl rfl rfl rfl rfl (c28 (d := d + 3) hG h50) rfl ?_
        refine z_ifeq (pc' := 41) (t := 45) hM31 rfl rfl (fun h51 => ?_) (fun h51 => ?_)
        · replace hm := o_t hm h51
          refine z_iconst (pc' := 46) hM31 rfl rfl rfl ?_
          cases hm
          exact z_retZ hM31 rfl rfl (Or.inl rfl) ⟨rfl, rfl⟩
        · replace hm := o_f hm h51
          refine z_iconst (pc' := 42) hM31 rfl rfl rfl ?_
          refine z_goto (t := 46) hM31 rfl ?_
          cases hm
          exact z_retZ hM31 rfl rfl (Or.inr rfl) ⟨rfl, rfl⟩
def m83_91  (s : zS) : Option (Int × zS) := oV (s.1 1 4) fun z1 => oC (m77 (2 : Int) z1 s) fun z2 s3 => some ((-1 : Int), s3)
theorem c83_91 {G : aHp} {d : Nat} (hG : zG G) {d1 d2 d3 d4 : Option zV} {s : zS} {r_ : Int} {s_ : zS} (hm : m83_91  s = some (r_, s_)) : Zp G (d + 2) 83 91 [some (zr 8 0 1), d1, d2, d3, d4] [] s (zRet (some (zi r_)) s_) := by
  replace hm : (oV (s.1 1 4) fun z1 => oC (m77 (2 : Int) z1 s) fun z2 s3 => some ((-1 : Int), s3)) = some (r_, s_) := hm
  refine z_aload_n (pc' := 92) hM83 rfl rfl rfl ?_
  refine z_iconst (pc' := 93) hM83 rfl rfl rfl ?_
  refine z_aload_n (pc' := 94) hM83 rfl rfl rfl ?_
  obtain ⟨z1, ez1, hm⟩ := o_v hm
  refine z_fldI (pc' := 97) hM83 rfl rfl rfl ez1 ?_
  obtain ⟨z2, s3, h4, hm⟩ := o_c hm
  refine z_cv (d := d + 1) (pc' := 100) hM83 rfl hM77 rfl rfl rfl rfl rfl rfl (c77 (d := d) hG h4) rfl ?_
  refine z_pop (pc' := 101) hM83 rfl rfl ?_
  refine z_iconst (pc' := 102) hM83 rfl rfl rfl ?_
  cases hm
  exact z_retI hM83 rfl rfl ⟨rfl, rfl⟩
def m83_50 : Nat → Int → Int → Int → Int → zS → Option (Int × zS)
  | 0, _, _, _, _, _ => none
  | n + 1, x1, x2, x3, x4, s => oV (s.1 1 8) fun z1 => if x4 < z1 then oZ (x3 * (10 : Int)) fun z3 => oX x4 1600 (oV (s.1 2 x4) fun z5 => oZ (z3 + z5) fun z7 => oZ (z7 - (48 : Int)) fun z9 => oZ (x4 + (1 : Int)) fun z11 => m83_50 n x1 x2 z9 z11 s) else if x3 < x1 then m83_91 s else if x2 < x3 then m83_91 s else oC (m76 s) fun z15 s16 => some (x3, s16)
theorem c83_50 {G : aHp} {d : Nat} (hG : zG G) : ∀ {n : Nat} {x1 : Int} {x2 : Int} {x3 : Int} {x4 : Int} {s : zS} {r_ : Int} {s_ : zS}, m83_50 n x1 x2 x3 x4 s = some (r_, s_) → Zp G (d + 2) 83 50 [some (zr 8 0 1), some (zi x1), some (zi x2), some (zi x3), some (zi x4)] [] s (zRet (some (zi r_)) s_) := by
  intro n
  induction n with
  | zero => intro x1 x2 x3 x4 s r_ s_ hm; cases hm
  | succ n ih =>
  intro x1 x2 x3 x4 s r_ s_ hm
  replace hm : (oV (s.1 1 8) fun z1 => if x4 < z1 then oZ (x3 * (10 : Int)) fun z3 => oX x4 1600 (oV (s.1 2 x4) fun z5 => oZ (z3 + z5) fun z7 => oZ (z7 - (48 : Int)) fun z9 => oZ (x4 + (1 : Int)) fun z11 => m83_50 n x1 x2 z9 z11 s) else if x3 < x1 then m83_91 s else if x2 < x3 then m83_91 s else oC (m76 s) fun z15 s16 => some (x3, s16)) = some (r_, s_) := hm
  refine z_iload (pc' := 52) hM83 rfl rfl rfl ?_
  refine z_aload_n (pc' := 53) hM83 rfl rfl rfl ?_
  obtain ⟨z1, ez1, hm⟩ := o_v hm
  refine z_fldI (pc' := 56) hM83 rfl rfl rfl ez1 ?_
  refine z_cmpge (pc' := 59) (t := 81) hM83 rfl rfl (fun h2 => ?_) (fun h2 => ?_)
  · replace hm := o_t hm h2
    refine z_iload_n (pc' := 60) hM83 rfl rfl rfl ?_
    refine z_bipush (pc' := 62) hM83 rfl rfl rfl ?_
    obtain ⟨z3, ez3, h4, hm⟩ := o_z hm
    refine z_imul (pc' := 63) hM83 rfl rfl ez3 h4 ?_
    refine z_aload_n (pc' := 64) hM83 rfl rfl rfl ?_
    refine z_fldR (pc' := 67) hM83 rfl (zf_8_0 hG) rfl rfl ?_
    refine z_iload (pc' := 69) hM83 rfl rfl rfl ?_
    obtain ⟨h6, hm⟩ := o_x hm
    obtain ⟨z5, ez5, hm⟩ := o_v hm
    refine z_iald (pc' := 70) (zGN hG) hM83 rfl rfl h6 ez5 ?_
    obtain ⟨z7, ez7, h8, hm⟩ := o_z hm
    refine z_iadd (pc' := 71) hM83 rfl rfl ez7 h8 ?_
    refine z_bipush (pc' := 73) hM83 rfl rfl rfl ?_
    obtain ⟨z9, ez9, h10, hm⟩ := o_z hm
    refine z_isub (pc' := 74) hM83 rfl rfl ez9 h10 ?_
    refine z_istore_n (pc' := 75) (l' := [some (zr 8 0 1), some (zi x1), some (zi x2), some (zi z9), some (zi x4)]) hM83 rfl rfl rfl rfl ?_
    obtain ⟨z11, ez11, h12, hm⟩ := o_z hm
    refine z_iinc (pc' := 78) (l' := [some (zr 8 0 1), some (zi x1), some (zi x2), some (zi z9), some (zi z11)]) hM83 rfl rfl rfl ez11 h12 rfl rfl ?_
    refine z_goto (t := 50) hM83 rfl ?_
    exact ih hm
  · replace hm := o_f hm h2
    refine z_iload_n (pc' := 82) hM83 rfl rfl rfl ?_
    refine z_iload_n (pc' := 83) hM83 rfl rfl rfl ?_
    refine z_cmplt (pc' := 86) (t := 91) hM83 rfl rfl (fun h13 => ?_) (fun h13 => ?_)
    · replace hm := o_t hm h13
      exact c83_91 hG hm
    · replace hm := o_f hm h13
      refine z_iload_n (pc' := 87) hM83 rfl rfl rfl ?_
      refine z_iload_n (pc' := 88) hM83 rfl rfl rfl ?_
      refine z_cmple (pc' := 91) (t := 103) hM83 rfl rfl (fun h14 => ?_) (fun h14 => ?_)
      · replace hm := o_t hm h14
        exact c83_91 hG hm
      · replace hm := o_f hm h14
        refine z_aload_n (pc' := 104) hM83 rfl rfl rfl ?_
        obtain ⟨z15, s16, h17, hm⟩ := o_c hm
        refine z_cvV (d := d + 1) (pc' := 107) hM83 rfl hM76 rfl rfl rfl rfl rfl rfl (c76 (d := d) hG h17) rfl ?_
        refine z_iload_n (pc' := 108) hM83 rfl rfl rfl ?_
        cases hm
        exact z_retI hM83 rfl rfl ⟨rfl, rfl⟩
def m83 (x1 : Int) (x2 : Int) (s : zS) : Option (Int × zS) := oV (s.1 1 3) fun z1 => if z1 = (2 : Int) then oV (s.1 1 8) fun z3 => oV (s.1 1 4) fun z4 => oZ (z3 - z4) fun z5 => if (4 : Int) < z5 then oV (s.1 1 4) fun z8 => oZ (z8 + (4 : Int)) fun z9 => oC (m77 (1 : Int) z9 s) fun z11 s12 => some ((-1 : Int), s12) else oV (s.1 1 4) fun z14 => m83_50 zFu x1 x2 (0 : Int) z14 s else oC (m78 s) fun z15 s16 => some ((-1 : Int), s16)
theorem c83 {G : aHp} {d : Nat} (hG : zG G) {x1 : Int} {x2 : Int} {s : zS} {r_ : Int} {s_ : zS} (hm : m83 x1 x2 s = some (r_, s_)) : Zp G (d + 2) 83 0 [some (zr 8 0 1), some (zi x1), some (zi x2), none, none] [] s (zRet (some (zi r_)) s_) := by
  replace hm : (oV (s.1 1 3) fun z1 => if z1 = (2 : Int) then oV (s.1 1 8) fun z3 => oV (s.1 1 4) fun z4 => oZ (z3 - z4) fun z5 => if (4 : Int) < z5 then oV (s.1 1 4) fun z8 => oZ (z8 + (4 : Int)) fun z9 => oC (m77 (1 : Int) z9 s) fun z11 s12 => some ((-1 : Int), s12) else oV (s.1 1 4) fun z14 => m83_50 zFu x1 x2 (0 : Int) z14 s else oC (m78 s) fun z15 s16 => some ((-1 : Int), s16)) = some (r_, s_) := hm
  refine z_iconst (pc' := 1) hM83 rfl rfl rfl ?_
  refine z_istore_n (pc' := 2) (l' := [some (zr 8 0 1), some (zi x1), some (zi x2), some (zi (0 : Int)), none]) hM83 rfl rfl rfl rfl ?_
  refine z_aload_n (pc' := 3) hM83 rfl rfl rfl ?_
  obtain ⟨z1, ez1, hm⟩ := o_v hm
  refine z_fldI (pc' := 6) hM83 rfl rfl rfl ez1 ?_
  refine z_iconst (pc' := 7) hM83 rfl rfl rfl ?_
  refine z_cmpeq (pc' := 10) (t := 17) hM83 rfl rfl (fun h2 => ?_) (fun h2 => ?_)
  · replace hm := o_t hm h2
    refine z_aload_n (pc' := 18) hM83 rfl rfl rfl ?_
    obtain ⟨z3, ez3, hm⟩ := o_v hm
    refine z_fldI (pc' := 21) hM83 rfl rfl rfl ez3 ?_
    refine z_aload_n (pc' := 22) hM83 rfl rfl rfl ?_
    obtain ⟨z4, ez4, hm⟩ := o_v hm
    refine z_fldI (pc' := 25) hM83 rfl rfl rfl ez4 ?_
    obtain ⟨z5, ez5, h6, hm⟩ := o_z hm
    refine z_isub (pc' := 26) hM83 rfl rfl ez5 h6 ?_
    refine z_iconst (pc' := 27) hM83 rfl rfl rfl ?_
    refine z_cmple (pc' := 30) (t := 44) hM83 rfl rfl (fun h7 => ?_) (fun h7 => ?_)
    · replace hm := o_t hm h7
      refine z_aload_n (pc' := 31) hM83 rfl rfl rfl ?_
      refine z_iconst (pc' := 32) hM83 rfl rfl rfl ?_
      refine z_aload_n (pc' := 33) hM83 rfl rfl rfl ?_
      obtain ⟨z8, ez8, hm⟩ := o_v hm
      refine z_fldI (pc' := 36) hM83 rfl rfl rfl ez8 ?_
      refine z_iconst (pc' := 37) hM83 rfl rfl rfl ?_
      obtain ⟨z9, ez9, h10, hm⟩ := o_z hm
      refine z_iadd (pc' := 38) hM83 rfl rfl ez9 h10 ?_
      obtain ⟨z11, s12, h13, hm⟩ := o_c hm
      refine z_cv (d := d + 1) (pc' := 41) hM83 rfl hM77 rfl rfl rfl rfl rfl rfl (c77 (d := d) hG h13) rfl ?_
      refine z_pop (pc' := 42) hM83 rfl rfl ?_
      refine z_iconst (pc' := 43) hM83 rfl rfl rfl ?_
      cases hm
      exact z_retI hM83 rfl rfl ⟨rfl, rfl⟩
    · replace hm := o_f hm h7
      refine z_aload_n (pc' := 45) hM83 rfl rfl rfl ?_
      obtain ⟨z14, ez14, hm⟩ := o_v hm
      refine z_fldI (pc' := 48) hM83 rfl rfl rfl ez14 ?_
      refine z_istore (pc' := 50) (l' := [some (zr 8 0 1), some (zi x1), some (zi x2), some (zi (0 : Int)), some (zi z14)]) hM83 rfl rfl rfl rfl ?_
      exact c83_50 hG hm
  · replace hm := o_f hm h2
    refine z_aload_n (pc' := 11) hM83 rfl rfl rfl ?_
    obtain ⟨z15, s16, h17, hm⟩ := o_c hm
    refine z_cv (d := d + 1) (pc' := 14) hM83 rfl hM78 rfl rfl rfl rfl rfl rfl (c78 (d := d) hG h17) rfl ?_
    refine z_pop (pc' := 15) hM83 rfl rfl ?_
    refine z_iconst (pc' := 16) hM83 rfl rfl rfl ?_
    cases hm
    exact z_retI hM83 rfl rfl ⟨rfl, rfl⟩
def m34 (f : Int → Int → zS → Option (Int × zS)) (x1 : Int) (x2 : Int) (s : zS) : Option (Int × zS) := oC (m76 s) fun z1 s2 => oC (m79 (40 : Int) s2) fun z4 s5 => if z4 = (0 : Int) then oC (m78 s5) fun z8 s9 => oD z8 (some (z8, s9)) else oC (m35 x2 s5) fun z12 s13 => if z12 = (0 : Int) then some ((0 : Int), s13) else oZ (x2 + (1 : Int)) fun z16 => oC (f (3 : Int) z16 s13) fun z18 s19 => if z18 = (0 : Int) then some ((0 : Int), s19) else oC (m81 (44 : Int) s19) fun z22 s23 => if z22 = (0 : Int) then some ((0 : Int), s23) else oZ (x2 + (1 : Int)) fun z26 => oC (f (3 : Int) z26 s23) fun z28 s29 => if z28 = (0 : Int) then some ((0 : Int), s29) else oC (m81 (41 : Int) s29) fun z32 s33 => if z32 = (0 : Int) then some ((0 : Int), s33) else oC (m28 x1 s33) fun z36 s37 => if z36 = (0 : Int) then some ((0 : Int), s37) else some ((1 : Int), s37)
theorem c34 {G : aHp} {d : Nat} {f : Int → Int → zS → Option (Int × zS)} (hf : ∀ {x1 : Int} {x2 : Int} {s : zS} {r_ : Int} {s_ : zS}, f x1 x2 s = some (r_, s_) → Zp G d 29 0 [some (zr 4 0 8), some (zi x1), some (zi x2), none, none] [] s (zRet (some (zi r_)) s_)) (hG : zG G) {x1 : Int} {x2 : Int} {s : zS} {r_ : Int} {s_ : zS} (hm : m34 f x1 x2 s = some (r_, s_)) : Zp G (d + 3) 34 0 [some (zr 4 0 8), some (zi x1), some (zi x2)] [] s (zRet (some (zi r_)) s_) := by
  replace hm : (oC (m76 s) fun z1 s2 => oC (m79 (40 : Int) s2) fun z4 s5 => if z4 = (0 : Int) then oC (m78 s5) fun z8 s9 => oD z8 (some (z8, s9)) else oC (m35 x2 s5) fun z12 s13 => if z12 = (0 : Int) then some ((0 : Int), s13) else oZ (x2 + (1 : Int)) fun z16 => oC (f (3 : Int) z16 s13) fun z18 s19 => if z18 = (0 : Int) then some ((0 : Int), s19) else oC (m81 (44 : Int) s19) fun z22 s23 => if z22 = (0 : Int) then some ((0 : Int), s23) else oZ (x2 + (1 : Int)) fun z26 => oC (f (3 : Int) z26 s23) fun z28 s29 => if z28 = (0 : Int) then some ((0 : Int), s29) else oC (m81 (41 : Int) s29) fun z32 s33 => if z32 = (0 : Int) then some ((0 : Int), s33) else oC (m28 x1 s33) fun z36 s37 => if z36 = (0 : Int) then some ((0 : Int), s37) else some ((1 : Int), s37)) = some (r_, s_) := hm
  refine z_aload_n (pc' := 1) hM34 rfl rfl rfl ?_
  refine z_fldR (pc' := 4) hM34 rfl (zf_4_0 hG) rfl rfl ?_
  obtain ⟨z1, s2, h3, hm⟩ := o_c hm
  refine z_cvV (d := d + 2) (pc' := 7) hM34 rfl hM76 rfl rfl rfl rfl rfl rfl (c76 (d := d + 1) hG h3) rfl ?_
  refine z_aload_n (pc' := 8) hM34 rfl rfl rfl ?_
  refine z_fldR (pc' := 11) hM34 rfl (zf_4_0 hG) rfl rfl ?_
  refine z_bipush (pc' := 13) hM34 rfl rfl rfl ?_
  obtain ⟨z4, s5, h6, hm⟩ := o_c hm
  refine z_cv (d := d + 2) (pc' := 16) hM34 rfl hM79 rfl rfl rfl rfl rfl rfl (c79 (d := d + 1) hG h6) rfl ?_
  refine z_ifne (pc' := 19) (t := 27) hM34 rfl rfl (fun h7 => ?_) (fun h7 => ?_)
  · replace hm := o_t hm h7
    refine z_aload_n (pc' := 20) hM34 rfl rfl rfl ?_
    refine z_fldR (pc' := 23) hM34 rfl (zf_4_0 hG) rfl rfl ?_
    obtain ⟨z8, s9, h10, hm⟩ := o_c hm
    refine z_cv (d := d + 2) (pc' := 26) hM34 rfl hM78 rfl rfl rfl rfl rfl rfl (c78 (d := d + 1) hG h10) rfl ?_
    obtain ⟨h11, hm⟩ := o_d hm
    cases hm
    exact z_retZ hM34 rfl rfl h11 ⟨rfl, rfl⟩
  · replace hm := o_f hm h7
    refine z_aload_n (pc' := 28) hM34 rfl rfl rfl ?_
    refine z_iload_n (pc' := 29) hM34 rfl rfl rfl ?_
    obtain ⟨z12, s13, h14, hm⟩ := o_c hm
    refine z_cv (d := d + 2) (pc' := 32) hM34 rfl hM35 rfl rfl rfl rfl rfl rfl (c35 (d := d) hG h14) rfl ?_
    refine z_ifeq (pc' := 35) (t := 93) hM34 rfl rfl (fun h15 => ?_) (fun h15 => ?_)
    · replace hm := o_t hm h15
      refine z_iconst (pc' := 94) hM34 rfl rfl rfl ?_
      cases hm
      exact z_retZ hM34 rfl rfl (Or.inl rfl) ⟨rfl, rfl⟩
    · replace hm := o_f hm h15
      refine z_aload_n (pc' := 36) hM34 rfl rfl rfl ?_
      refine z_iconst (pc' := 37) hM34 rfl rfl rfl ?_
      refine z_iload_n (pc' := 38) hM34 rfl rfl rfl ?_
      refine z_iconst (pc' := 39) hM34 rfl rfl rfl ?_
      obtain ⟨z16, ez16, h17, hm⟩ := o_z hm
      refine z_iadd (pc' := 40) hM34 rfl rfl ez16 h17 ?_
      obtain ⟨z18, s19, h20, hm⟩ := o_c hm
      refine z_cv (d := d + 2) (pc' := 43) hM34 rfl hM29 rfl rfl rfl rfl rfl rfl (z_up (by omega) (hf h20)) rfl ?_
      refine z_ifeq (pc' := 46) (t := 93) hM34 rfl rfl (fun h21 => ?_) (fun h21 => ?_)
      · replace hm := o_t hm h21
        refine z_iconst (pc' := 94) hM34 rfl rfl rfl ?_
        cases hm
        exact z_retZ hM34 rfl rfl (Or.inl rfl) ⟨rfl, rfl⟩
      · replace hm := o_f hm h21
        refine z_aload_n (pc' := 47) hM34 rfl rfl rfl ?_
        refine z_fldR (pc' := 50) hM34 rfl (zf_4_0 hG) rfl rfl ?_
        refine z_bipush (pc' := 52) hM34 rfl rfl rfl ?_
        obtain ⟨z22, s23, h24, hm⟩ := o_c hm
        refine z_cv (d := d + 2) (pc' := 55) hM34 rfl hM81 rfl rfl rfl rfl rfl rfl (c81 (d := d) hG h24) rfl ?_
        refine z_ifeq (pc' := 58) (t := 93) hM34 rfl rfl (fun h25 => ?_) (fun h25 => ?_)
        · replace hm := o_t hm h25
          refine z_iconst (pc' := 94) hM34 rfl rfl rfl ?_
          cases hm
          exact z_retZ hM34 rfl rfl (Or.inl rfl) ⟨rfl, rfl⟩
        · replace hm := o_f hm h25
          refine z_aload_n (pc' := 59) hM34 rfl rfl rfl ?_
          refine z_iconst (pc' := 60) hM34 rfl rfl rfl ?_
          refine z_iload_n (pc' := 61) hM34 rfl rfl rfl ?_
          refine z_iconst (pc' := 62) hM34 rfl rfl rfl ?_
          obtain ⟨z26, ez26, h27, hm⟩ := o_z hm
          refine z_iadd (pc' := 63) hM34 rfl rfl ez26 h27 ?_
          obtain ⟨z28, s29, h30, hm⟩ := o_c hm
          refine z_cv (d := d + 2) (pc' := 66) hM34 rfl hM29 rfl rfl rfl rfl rfl rfl (z_up (by omega) (hf h30)) rfl ?_
          refine z_ifeq (pc' := 69) (t := 93) hM34 rfl rfl (fun h31 => ?_) (fun h31 => ?_)
          · replace hm := o_t hm h31
            refine z_iconst (pc' := 94) hM34 rfl rfl rfl ?_
            cases hm
            exact z_retZ hM34 rfl rfl (Or.inl rfl) ⟨rfl, rfl⟩
          · replace hm := o_f hm h31
            refine z_aload_n (pc' := 70) hM34 rfl rfl rfl ?_
            refine z_fldR (pc' := 73) hM34 rfl (zf_4_0 hG) rfl rfl ?_
            refine z_bipush (pc' := 75) hM34 rfl rfl rfl ?_
            obtain ⟨z32, s33, h34, hm⟩ := o_c hm
            refine z_cv (d := d + 2) (pc' := 78) hM34 rfl hM81 rfl rfl rfl rfl rfl rfl (c81 (d := d) hG h34) rfl ?_
            refine z_ifeq (pc' := 81) (t := 93) hM34 rfl rfl (fun h35 => ?_) (fun h35 => ?_)
            · replace hm := o_t hm h35
              refine z_iconst (pc' := 94) hM34 rfl rfl rfl ?_
              cases hm
              exact z_retZ hM34 rfl rfl (Or.inl rfl) ⟨rfl, rfl⟩
            · replace hm := o_f hm h35
              refine z_aload_n (pc' := 82) hM34 rfl rfl rfl ?_
              refine z_iload_n (pc' := 83) hM34 rfl rfl rfl ?_
              obtain ⟨z36, s37, h38, hm⟩ := o_c hm
              refine z_cv (d := d + 2) (pc' := 86) hM34 rfl hM28 rfl rfl rfl rfl rfl rfl (c28 (d := d) hG h38) rfl ?_
              refine z_ifeq (pc' := 89) (t := 93) hM34 rfl rfl (fun h39 => ?_) (fun h39 => ?_)
              · replace hm := o_t hm h39
                refine z_iconst (pc' := 94) hM34 rfl rfl rfl ?_
                cases hm
                exact z_retZ hM34 rfl rfl (Or.inl rfl) ⟨rfl, rfl⟩
              · replace hm := o_f hm h39
                refine z_iconst (pc' := 90) hM34 rfl rfl rfl ?_
                refine z_goto (t := 94) hM34 rfl ?_
                cases hm
                exact z_retZ hM34 rfl rfl (Or.inr rfl) ⟨rfl, rfl⟩
def m36  (s : zS) : Option (Int × zS) := oC (m80 19 s) fun z1 s2 => if z1 = (0 : Int) then oC (m80 20 s2) fun z5 s6 => if z5 = (0 : Int) then oC (m80 21 s6) fun z9 s10 => if z9 = (0 : Int) then oC (m80 22 s10) fun z13 s14 => if z13 = (0 : Int) then oC (m80 23 s14) fun z17 s18 => if z17 = (0 : Int) then some ((-1 : Int), s18) else some ((6 : Int), s18) else some ((2 : Int), s14) else some ((5 : Int), s10) else some ((4 : Int), s6) else some ((3 : Int), s2)
theorem c36 {G : aHp} {d : Nat} (hG : zG G) {s : zS} {r_ : Int} {s_ : zS} (hm : m36  s = some (r_, s_)) : Zp G (d + 6) 36 0 [some (zr 4 0 8)] [] s (zRet (some (zi r_)) s_) := by
  replace hm : (oC (m80 19 s) fun z1 s2 => if z1 = (0 : Int) then oC (m80 20 s2) fun z5 s6 => if z5 = (0 : Int) then oC (m80 21 s6) fun z9 s10 => if z9 = (0 : Int) then oC (m80 22 s10) fun z13 s14 => if z13 = (0 : Int) then oC (m80 23 s14) fun z17 s18 => if z17 = (0 : Int) then some ((-1 : Int), s18) else some ((6 : Int), s18) else some ((2 : Int), s14) else some ((5 : Int), s10) else some ((4 : Int), s6) else some ((3 : Int), s2)) = some (r_, s_) := hm
  refine z_aload_n (pc' := 1) hM36 rfl rfl rfl ?_
  refine z_fldR (pc' := 4) hM36 rfl (zf_4_0 hG) rfl rfl ?_
  refine z_ldcT (pc' := 6) hM36 rfl rfl rfl ?_
  obtain ⟨z1, s2, h3, hm⟩ := o_c hm
  refine z_cv (d := d + 5) (pc' := 9) hM36 rfl hM80 rfl rfl rfl rfl rfl rfl (c80 (d := d) hG h3) rfl ?_
  refine z_ifeq (pc' := 12) (t := 14) hM36 rfl rfl (fun h4 => ?_) (fun h4 => ?_)
  · replace hm := o_t hm h4
    refine z_aload_n (pc' := 15) hM36 rfl rfl rfl ?_
    refine z_fldR (pc' := 18) hM36 rfl (zf_4_0 hG) rfl rfl ?_
    refine z_ldcT (pc' := 20) hM36 rfl rfl rfl ?_
    obtain ⟨z5, s6, h7, hm⟩ := o_c hm
    refine z_cv (d := d + 5) (pc' := 23) hM36 rfl hM80 rfl rfl rfl rfl rfl rfl (c80 (d := d) hG h7) rfl ?_
    refine z_ifeq (pc' := 26) (t := 28) hM36 rfl rfl (fun h8 => ?_) (fun h8 => ?_)
    · replace hm := o_t hm h8
      refine z_aload_n (pc' := 29) hM36 rfl rfl rfl ?_
      refine z_fldR (pc' := 32) hM36 rfl (zf_4_0 hG) rfl rfl ?_
      refine z_ldcT (pc' := 34) hM36 rfl rfl rfl ?_
      obtain ⟨z9, s10, h11, hm⟩ := o_c hm
      refine z_cv (d := d + 5) (pc' := 37) hM36 rfl hM80 rfl rfl rfl rfl rfl rfl (c80 (d := d) hG h11) rfl ?_
      refine z_ifeq (pc' := 40) (t := 42) hM36 rfl rfl (fun h12 => ?_) (fun h12 => ?_)
      · replace hm := o_t hm h12
        refine z_aload_n (pc' := 43) hM36 rfl rfl rfl ?_
        refine z_fldR (pc' := 46) hM36 rfl (zf_4_0 hG) rfl rfl ?_
        refine z_ldcT (pc' := 48) hM36 rfl rfl rfl ?_
        obtain ⟨z13, s14, h15, hm⟩ := o_c hm
        refine z_cv (d := d + 5) (pc' := 51) hM36 rfl hM80 rfl rfl rfl rfl rfl rfl (c80 (d := d) hG h15) rfl ?_
        refine z_ifeq (pc' := 54) (t := 56) hM36 rfl rfl (fun h16 => ?_) (fun h16 => ?_)
        · replace hm := o_t hm h16
          refine z_aload_n (pc' := 57) hM36 rfl rfl rfl ?_
          refine z_fldR (pc' := 60) hM36 rfl (zf_4_0 hG) rfl rfl ?_
          refine z_ldcT (pc' := 62) hM36 rfl rfl rfl ?_
          obtain ⟨z17, s18, h19, hm⟩ := o_c hm
          refine z_cv (d := d + 5) (pc' := 65) hM36 rfl hM80 rfl rfl rfl rfl rfl rfl (c80 (d := d) hG h19) rfl ?_
          refine z_ifeq (pc' := 68) (t := 73) hM36 rfl rfl (fun h20 => ?_) (fun h20 => ?_)
          · replace hm := o_t hm h20
            refine z_iconst (pc' := 74) hM36 rfl rfl rfl ?_
            cases hm
            exact z_retI hM36 rfl rfl ⟨rfl, rfl⟩
          · replace hm := o_f hm h20
            refine z_bipush (pc' := 70) hM36 rfl rfl rfl ?_
            refine z_goto (t := 74) hM36 rfl ?_
            cases hm
            exact z_retI hM36 rfl rfl ⟨rfl, rfl⟩
        · replace hm := o_f hm h16
          refine z_iconst (pc' := 55) hM36 rfl rfl rfl ?_
          cases hm
          exact z_retI hM36 rfl rfl ⟨rfl, rfl⟩
      · replace hm := o_f hm h12
        refine z_iconst (pc' := 41) hM36 rfl rfl rfl ?_
        cases hm
        exact z_retI hM36 rfl rfl ⟨rfl, rfl⟩
    · replace hm := o_f hm h8
      refine z_iconst (pc' := 27) hM36 rfl rfl rfl ?_
      cases hm
      exact z_retI hM36 rfl rfl ⟨rfl, rfl⟩
  · replace hm := o_f hm h4
    refine z_iconst (pc' := 13) hM36 rfl rfl rfl ?_
    cases hm
    exact z_retI hM36 rfl rfl ⟨rfl, rfl⟩
def m37  (s : zS) : Option (Int × zS) := oC (m80 24 s) fun z1 s2 => if z1 = (0 : Int) then oC (m80 25 s2) fun z5 s6 => if z5 = (0 : Int) then oC (m80 26 s6) fun z9 s10 => if z9 = (0 : Int) then oC (m80 27 s10) fun z13 s14 => if z13 = (0 : Int) then some ((-1 : Int), s14) else some ((8 : Int), s14) else some ((7 : Int), s10) else some ((1 : Int), s6) else some ((0 : Int), s2)
theorem c37 {G : aHp} {d : Nat} (hG : zG G) {s : zS} {r_ : Int} {s_ : zS} (hm : m37  s = some (r_, s_)) : Zp G (d + 6) 37 0 [some (zr 4 0 8)] [] s (zRet (some (zi r_)) s_) := by
  replace hm : (oC (m80 24 s) fun z1 s2 => if z1 = (0 : Int) then oC (m80 25 s2) fun z5 s6 => if z5 = (0 : Int) then oC (m80 26 s6) fun z9 s10 => if z9 = (0 : Int) then oC (m80 27 s10) fun z13 s14 => if z13 = (0 : Int) then some ((-1 : Int), s14) else some ((8 : Int), s14) else some ((7 : Int), s10) else some ((1 : Int), s6) else some ((0 : Int), s2)) = some (r_, s_) := hm
  refine z_aload_n (pc' := 1) hM37 rfl rfl rfl ?_
  refine z_fldR (pc' := 4) hM37 rfl (zf_4_0 hG) rfl rfl ?_
  refine z_ldcT (pc' := 6) hM37 rfl rfl rfl ?_
  obtain ⟨z1, s2, h3, hm⟩ := o_c hm
  refine z_cv (d := d + 5) (pc' := 9) hM37 rfl hM80 rfl rfl rfl rfl rfl rfl (c80 (d := d) hG h3) rfl ?_
  refine z_ifeq (pc' := 12) (t := 14) hM37 rfl rfl (fun h4 => ?_) (fun h4 => ?_)
  · replace hm := o_t hm h4
    refine z_aload_n (pc' := 15) hM37 rfl rfl rfl ?_
    refine z_fldR (pc' := 18) hM37 rfl (zf_4_0 hG) rfl rfl ?_
    refine z_ldcT (pc' := 20) hM37 rfl rfl rfl ?_
    obtain ⟨z5, s6, h7, hm⟩ := o_c hm
    refine z_cv (d := d + 5) (pc' := 23) hM37 rfl hM80 rfl rfl rfl rfl rfl rfl (c80 (d := d) hG h7) rfl ?_
    refine z_ifeq (pc' := 26) (t := 28) hM37 rfl rfl (fun h8 => ?_) (fun h8 => ?_)
    · replace hm := o_t hm h8
      refine z_aload_n (pc' := 29) hM37 rfl rfl rfl ?_
      refine z_fldR (pc' := 32) hM37 rfl (zf_4_0 hG) rfl rfl ?_
      refine z_ldcT (pc' := 34) hM37 rfl rfl rfl ?_
      obtain ⟨z9, s10, h11, hm⟩ := o_c hm
      refine z_cv (d := d + 5) (pc' := 37) hM37 rfl hM80 rfl rfl rfl rfl rfl rfl (c80 (d := d) hG h11) rfl ?_
      refine z_ifeq (pc' := 40) (t := 43) hM37 rfl rfl (fun h12 => ?_) (fun h12 => ?_)
      · replace hm := o_t hm h12
        refine z_aload_n (pc' := 44) hM37 rfl rfl rfl ?_
        refine z_fldR (pc' := 47) hM37 rfl (zf_4_0 hG) rfl rfl ?_
        refine z_ldcT (pc' := 49) hM37 rfl rfl rfl ?_
        obtain ⟨z13, s14, h15, hm⟩ := o_c hm
        refine z_cv (d := d + 5) (pc' := 52) hM37 rfl hM80 rfl rfl rfl rfl rfl rfl (c80 (d := d) hG h15) rfl ?_
        refine z_ifeq (pc' := 55) (t := 60) hM37 rfl rfl (fun h16 => ?_) (fun h16 => ?_)
        · replace hm := o_t hm h16
          refine z_iconst (pc' := 61) hM37 rfl rfl rfl ?_
          cases hm
          exact z_retI hM37 rfl rfl ⟨rfl, rfl⟩
        · replace hm := o_f hm h16
          refine z_bipush (pc' := 57) hM37 rfl rfl rfl ?_
          refine z_goto (t := 61) hM37 rfl ?_
          cases hm
          exact z_retI hM37 rfl rfl ⟨rfl, rfl⟩
      · replace hm := o_f hm h12
        refine z_bipush (pc' := 42) hM37 rfl rfl rfl ?_
        cases hm
        exact z_retI hM37 rfl rfl ⟨rfl, rfl⟩
    · replace hm := o_f hm h8
      refine z_iconst (pc' := 27) hM37 rfl rfl rfl ?_
      cases hm
      exact z_retI hM37 rfl rfl ⟨rfl, rfl⟩
  · replace hm := o_f hm h4
    refine z_iconst (pc' := 13) hM37 rfl rfl rfl ?_
    cases hm
    exact z_retI hM37 rfl rfl ⟨rfl, rfl⟩
def m33_209 (f : Int → Int → zS → Option (Int × zS)) (x2 : Int) (s : zS) : Option (Int × zS) := if x2 = (-1 : Int) then oC (m78 s) fun z2 s3 => oD z2 (some (z2, s3)) else oC (m76 s) fun z6 s7 => oZ ((10000 : Int) + x2) fun z9 => oC (m28 z9 s7) fun z11 s12 => oD z11 (some (z11, s12))
set_option maxRecDepth 20000 in
theorem c33_209 {G : aHp} {d : Nat} {f : Int → Int → zS → Option (Int × zS)} (hf : ∀ {x1 : Int} {x2 : Int} {s : zS} {r_ : Int} {s_ : zS}, f x1 x2 s = some (r_, s_) → Zp G d 29 0 [some (zr 4 0 8), some (zi x1), some (zi x2), none, none] [] s (zRet (some (zi r_)) s_)) (hG : zG G) {x2 : Int} {d1 : Option zV} {s : zS} {r_ : Int} {s_ : zS} (hm : m33_209 f x2 s = some (r_, s_)) : Zp G (d + 7) 33 209 [some (zr 4 0 8), d1, some (zi x2)] [] s (zRet (some (zi r_)) s_) := by
  replace hm : (if x2 = (-1 : Int) then oC (m78 s) fun z2 s3 => oD z2 (some (z2, s3)) else oC (m76 s) fun z6 s7 => oZ ((10000 : Int) + x2) fun z9 => oC (m28 z9 s7) fun z11 s12 => oD z11 (some (z11, s12))) = some (r_, s_) := hm
  refine z_iload_n (pc' := 210) hM33 rfl rfl rfl ?_
  refine z_iconst (pc' := 211) hM33 rfl rfl rfl ?_
  refine z_cmpne (pc' := 214) (t := 222) hM33 rfl rfl (fun h1 => ?_) (fun h1 => ?_)
  · replace hm := o_t hm h1
    refine z_aload_n (pc' := 215) hM33 rfl rfl rfl ?_
    refine z_fldR (pc' := 218) hM33 rfl (zf_4_0 hG) rfl rfl ?_
    obtain ⟨z2, s3, h4, hm⟩ := o_c hm
    refine z_cv (d := d + 6) (pc' := 221) hM33 rfl hM78 rfl rfl rfl rfl rfl rfl (c78 (d := d + 5) hG h4) rfl ?_
    obtain ⟨h5, hm⟩ := o_d hm
    cases hm
    exact z_retZ hM33 rfl rfl h5 ⟨rfl, rfl⟩
  · replace hm := o_f hm h1
    refine z_aload_n (pc' := 223) hM33 rfl rfl rfl ?_
    refine z_fldR (pc' := 226) hM33 rfl (zf_4_0 hG) rfl rfl ?_
    obtain ⟨z6, s7, h8, hm⟩ := o_c hm
    refine z_cvV (d := d + 6) (pc' := 229) hM33 rfl hM76 rfl rfl rfl rfl rfl rfl (c76 (d := d + 5) hG h8) rfl ?_
    refine z_aload_n (pc' := 230) hM33 rfl rfl rfl ?_
    refine z_sipush (pc' := 233) hM33 rfl rfl rfl ?_
    refine z_iload_n (pc' := 234) hM33 rfl rfl rfl ?_
    obtain ⟨z9, ez9, h10, hm⟩ := o_z hm
    refine z_iadd (pc' := 235) hM33 rfl rfl ez9 h10 ?_
    obtain ⟨z11, s12, h13, hm⟩ := o_c hm
    refine z_cv (d := d + 6) (pc' := 238) hM33 rfl hM28 rfl rfl rfl rfl rfl rfl (c28 (d := d + 4) hG h13) rfl ?_
    obtain ⟨h14, hm⟩ := o_d hm
    cases hm
    exact z_retZ hM33 rfl rfl h14 ⟨rfl, rfl⟩
def m33_187 (f : Int → Int → zS → Option (Int × zS))  (s : zS) : Option (Int × zS) := oC (m36 s) fun z1 s2 => if z1 = (-1 : Int) then oV (s2.1 8 2) fun z5 => if z5 = (0 : Int) then m33_209 f z1 s2 else oC (m37 s2) fun z7 s8 => m33_209 f z7 s8 else m33_209 f z1 s2
set_option maxRecDepth 20000 in
theorem c33_187 {G : aHp} {d : Nat} {f : Int → Int → zS → Option (Int × zS)} (hf : ∀ {x1 : Int} {x2 : Int} {s : zS} {r_ : Int} {s_ : zS}, f x1 x2 s = some (r_, s_) → Zp G d 29 0 [some (zr 4 0 8), some (zi x1), some (zi x2), none, none] [] s (zRet (some (zi r_)) s_)) (hG : zG G) {d1 d2 : Option zV} {s : zS} {r_ : Int} {s_ : zS} (hm : m33_187 f  s = some (r_, s_)) : Zp G (d + 7) 33 187 [some (zr 4 0 8), d1, d2] [] s (zRet (some (zi r_)) s_) := by
  replace hm : (oC (m36 s) fun z1 s2 => if z1 = (-1 : Int) then oV (s2.1 8 2) fun z5 => if z5 = (0 : Int) then m33_209 f z1 s2 else oC (m37 s2) fun z7 s8 => m33_209 f z7 s8 else m33_209 f z1 s2) = some (r_, s_) := hm
  refine z_aload_n (pc' := 188) hM33 rfl rfl rfl ?_
  obtain ⟨z1, s2, h3, hm⟩ := o_c hm
  refine z_cv (d := d + 6) (pc' := 191) hM33 rfl hM36 rfl rfl rfl rfl rfl rfl (c36 (d := d) hG h3) rfl ?_
  refine z_istore_n (pc' := 192) (l' := [some (zr 4 0 8), zKd d1, some (zi z1)]) hM33 rfl rfl rfl rfl ?_
  refine z_iload_n (pc' := 193) hM33 rfl rfl rfl ?_
  refine z_iconst (pc' := 194) hM33 rfl rfl rfl ?_
  refine z_cmpne (pc' := 197) (t := 209) hM33 rfl rfl (fun h4 => ?_) (fun h4 => ?_)
  · replace hm := o_t hm h4
    refine z_aload_n (pc' := 198) hM33 rfl rfl rfl ?_
    obtain ⟨z5, ez5, hm⟩ := o_v hm
    refine z_fldZ (pc' := 201) hM33 rfl rfl rfl ez5 ?_
    refine z_ifeq (pc' := 204) (t := 209) hM33 rfl rfl (fun h6 => ?_) (fun h6 => ?_)
    · replace hm := o_t hm h6
      exact c33_209 hf hG hm
    · replace hm := o_f hm h6
      refine z_aload_n (pc' := 205) hM33 rfl rfl rfl ?_
      obtain ⟨z7, s8, h9, hm⟩ := o_c hm
      refine z_cv (d := d + 6) (pc' := 208) hM33 rfl hM37 rfl rfl rfl rfl rfl rfl (c37 (d := d) hG h9) rfl ?_
      refine z_istore_n (pc' := 209) (l' := [some (zr 4 0 8), zKd (zKd d1), some (zi z7)]) hM33 rfl rfl rfl rfl ?_
      exact c33_209 hf hG hm
  · replace hm := o_f hm h4
    exact c33_209 hf hG hm
def m33 (f : Int → Int → zS → Option (Int × zS)) (x1 : Int) (s : zS) : Option (Int × zS) := oV (s.1 1 3) fun z1 => if z1 = (2 : Int) then oC (m83 (0 : Int) (9999 : Int) s) fun z3 s4 => if z3 = (-1 : Int) then some ((0 : Int), s4) else oC (m28 z3 s4) fun z7 s8 => if z7 = (0 : Int) then some ((0 : Int), s8) else some ((1 : Int), s8) else oC (m79 (40 : Int) s) fun z11 s12 => if z11 = (0 : Int) then oC (m80 16 s12) fun z15 s16 => if z15 = (0 : Int) then oC (m80 17 s16) fun z19 s20 => if z19 = (0 : Int) then oV (s20.1 8 2) fun z23 => if z23 = (0 : Int) then m33_187 f s20 else oC (m80 18 s20) fun z25 s26 => if z25 = (0 : Int) then m33_187 f s26 else oC (m35 x1 s26) fun z29 s30 => if z29 = (0 : Int) then some ((0 : Int), s30) else oZ (x1 + (1 : Int)) fun z33 => oC (f (5 : Int) z33 s30) fun z35 s36 => if z35 = (0 : Int) then some ((0 : Int), s36) else oC (m28 (20012 : Int) s36) fun z39 s40 => if z39 = (0 : Int) then some ((0 : Int), s40) else some ((1 : Int), s40) else oC (m34 f (20005 : Int) x1 s20) fun z43 s44 => oD z43 (some (z43, s44)) else oC (m34 f (20004 : Int) x1 s16) fun z47 s48 => oD z47 (some (z47, s48)) else oC (m35 x1 s12) fun z51 s52 => if z51 = (0 : Int) then some ((0 : Int), s52) else oZ (x1 + (1 : Int)) fun z55 => oC (f (3 : Int) z55 s52) fun z57 s58 => if z57 = (0 : Int) then some ((0 : Int), s58) else oC (m81 (41 : Int) s58) fun z61 s62 => if z61 = (0 : Int) then some ((0 : Int), s62) else some ((1 : Int), s62)
set_option maxRecDepth 20000 in
theorem c33 {G : aHp} {d : Nat} {f : Int → Int → zS → Option (Int × zS)} (hf : ∀ {x1 : Int} {x2 : Int} {s : zS} {r_ : Int} {s_ : zS}, f x1 x2 s = some (r_, s_) → Zp G d 29 0 [some (zr 4 0 8), some (zi x1), some (zi x2), none, none] [] s (zRet (some (zi r_)) s_)) (hG : zG G) {x1 : Int} {s : zS} {r_ : Int} {s_ : zS} (hm : m33 f x1 s = some (r_, s_)) : Zp G (d + 7) 33 0 [some (zr 4 0 8), some (zi x1), none] [] s (zRet (some (zi r_)) s_) := by
  replace hm : (oV (s.1 1 3) fun z1 => if z1 = (2 : Int) then oC (m83 (0 : Int) (9999 : Int) s) fun z3 s4 => if z3 = (-1 : Int) then some ((0 : Int), s4) else oC (m28 z3 s4) fun z7 s8 => if z7 = (0 : Int) then some ((0 : Int), s8) else some ((1 : Int), s8) else oC (m79 (40 : Int) s) fun z11 s12 => if z11 = (0 : Int) then oC (m80 16 s12) fun z15 s16 => if z15 = (0 : Int) then oC (m80 17 s16) fun z19 s20 => if z19 = (0 : Int) then oV (s20.1 8 2) fun z23 => if z23 = (0 : Int) then m33_187 f s20 else oC (m80 18 s20) fun z25 s26 => if z25 = (0 : Int) then m33_187 f s26 else oC (m35 x1 s26) fun z29 s30 => if z29 = (0 : Int) then some ((0 : Int), s30) else oZ (x1 + (1 : Int)) fun z33 => oC (f (5 : Int) z33 s30) fun z35 s36 => if z35 = (0 : Int) then some ((0 : Int), s36) else oC (m28 (20012 : Int) s36) fun z39 s40 => if z39 = (0 : Int) then some ((0 : Int), s40) else some ((1 : Int), s40) else oC (m34 f (20005 : Int) x1 s20) fun z43 s44 => oD z43 (some (z43, s44)) else oC (m34 f (20004 : Int) x1 s16) fun z47 s48 => oD z47 (some (z47, s48)) else oC (m35 x1 s12) fun z51 s52 => if z51 = (0 : Int) then some ((0 : Int), s52) else oZ (x1 + (1 : Int)) fun z55 => oC (f (3 : Int) z55 s52) fun z57 s58 => if z57 = (0 : Int) then some ((0 : Int), s58) else oC (m81 (41 : Int) s58) fun z61 s62 => if z61 = (0 : Int) then some ((0 : Int), s62) else some ((1 : Int), s62)) = some (r_, s_) := hm
  refine z_aload_n (pc' := 1) hM33 rfl rfl rfl ?_
  refine z_fldR (pc' := 4) hM33 rfl (zf_4_0 hG) rfl rfl ?_
  obtain ⟨z1, ez1, hm⟩ := o_v hm
  refine z_fldI (pc' := 7) hM33 rfl rfl rfl ez1 ?_
  refine z_iconst (pc' := 8) hM33 rfl rfl rfl ?_
  refine z_cmpne (pc' := 11) (t := 42) hM33 rfl rfl (fun h2 => ?_) (fun h2 => ?_)
  · replace hm := o_t hm h2
    refine z_aload_n (pc' := 12) hM33 rfl rfl rfl ?_
    refine z_fldR (pc' := 15) hM33 rfl (zf_4_0 hG) rfl rfl ?_
    refine z_iconst (pc' := 16) hM33 rfl rfl rfl ?_
    refine z_sipush (pc' := 19) hM33 rfl rfl rfl ?_
    obtain ⟨z3, s4, h5, hm⟩ := o_c hm
    refine z_cv (d := d + 6) (pc' := 22) hM33 rfl hM83 rfl rfl rfl rfl rfl rfl (c83 (d := d + 4) hG h5) rfl ?_
    refine z_istore_n (pc' := 23) (l' := [some (zr 4 0 8), some (zi x1), some (zi z3)]) hM33 rfl rfl rfl rfl ?_
    refine z_iload_n (pc' := 24) hM33 rfl rfl rfl ?_
    refine z_iconst (pc' := 25) hM33 rfl rfl rfl ?_
    refine z_cmpeq (pc' := 28) (t := 40) hM33 rfl rfl (fun h6 => ?_) (fun h6 => ?_)
    · replace hm := o_t hm h6
      refine z_iconst (pc' := 41) hM33 rfl rfl rfl ?_
      cases hm
      exact z_retZ hM33 rfl rfl (Or.inl rfl) ⟨rfl, rfl⟩
    · replace hm := o_f hm h6
      refine z_aload_n (pc' := 29) hM33 rfl rfl rfl ?_
      refine z_iload_n (pc' := 30) hM33 rfl rfl rfl ?_
      obtain ⟨z7, s8, h9, hm⟩ := o_c hm
      refine z_cv (d := d + 6) (pc' := 33) hM33 rfl hM28 rfl rfl rfl rfl rfl rfl (c28 (d := d + 4) hG h9) rfl ?_
      refine z_ifeq (pc' := 36) (t := 40) hM33 rfl rfl (fun h10 => ?_) (fun h10 => ?_)
      · replace hm := o_t hm h10
        refine z_iconst (pc' := 41) hM33 rfl rfl rfl ?_
        cases hm
        exact z_retZ hM33 rfl rfl (Or.inl rfl) ⟨rfl, rfl⟩
      · replace hm := o_f hm h10
        refine z_iconst (pc' := 37) hM33 rfl rfl rfl ?_
        refine z_goto (t := 41) hM33 rfl ?_
        cases hm
        exact z_retZ hM33 rfl rfl (Or.inr rfl) ⟨rfl, rfl⟩
  · replace hm := o_f hm h2
    refine z_aload_n (pc' := 43) hM33 rfl rfl rfl ?_
    refine z_fldR (pc' := 46) hM33 rfl (zf_4_0 hG) rfl rfl ?_
    refine z_bipush (pc' := 48) hM33 rfl rfl rfl ?_
    obtain ⟨z11, s12, h13, hm⟩ := o_c hm
    refine z_cv (d := d + 6) (pc' := 51) hM33 rfl hM79 rfl rfl rfl rfl rfl rfl (c79 (d := d + 5) hG h13) rfl ?_
    refine z_ifeq (pc' := 54) (t := 91) hM33 rfl rfl (fun h14 => ?_) (fun h14 => ?_)
    · replace hm := o_t hm h14
      refine z_aload_n (pc' := 92) hM33 rfl rfl rfl ?_
      refine z_fldR (pc' := 95) hM33 rfl (zf_4_0 hG) rfl rfl ?_
      refine z_ldcT (pc' := 97) hM33 rfl rfl rfl ?_
      obtain ⟨z15, s16, h17, hm⟩ := o_c hm
      refine z_cv (d := d + 6) (pc' := 100) hM33 rfl hM80 rfl rfl rfl rfl rfl rfl (c80 (d := d + 1) hG h17) rfl ?_
      refine z_ifeq (pc' := 103) (t := 112) hM33 rfl rfl (fun h18 => ?_) (fun h18 => ?_)
      · replace hm := o_t hm h18
        refine z_aload_n (pc' := 113) hM33 rfl rfl rfl ?_
        refine z_fldR (pc' := 116) hM33 rfl (zf_4_0 hG) rfl rfl ?_
        refine z_ldcT (pc' := 118) hM33 rfl rfl rfl ?_
        obtain ⟨z19, s20, h21, hm⟩ := o_c hm
        refine z_cv (d := d + 6) (pc' := 121) hM33 rfl hM80 rfl rfl rfl rfl rfl rfl (c80 (d := d + 1) hG h21) rfl ?_
        refine z_ifeq (pc' := 124) (t := 133) hM33 rfl rfl (fun h22 => ?_) (fun h22 => ?_)
        · replace hm := o_t hm h22
          refine z_aload_n (pc' := 134) hM33 rfl rfl rfl ?_
          obtain ⟨z23, ez23, hm⟩ := o_v hm
          refine z_fldZ (pc' := 137) hM33 rfl rfl rfl ez23 ?_
          refine z_ifeq (pc' := 140) (t := 187) hM33 rfl rfl (fun h24 => ?_) (fun h24 => ?_)
          · replace hm := o_t hm h24
            exact c33_187 hf hG hm
          · replace hm := o_f hm h24
            refine z_aload_n (pc' := 141) hM33 rfl rfl rfl ?_
            refine z_fldR (pc' := 144) hM33 rfl (zf_4_0 hG) rfl rfl ?_
            refine z_ldcT (pc' := 146) hM33 rfl rfl rfl ?_
            obtain ⟨z25, s26, h27, hm⟩ := o_c hm
            refine z_cv (d := d + 6) (pc' := 149) hM33 rfl hM80 rfl rfl rfl rfl rfl rfl (c80 (d := d + 1) hG h27) rfl ?_
            refine z_ifeq (pc' := 152) (t := 187) hM33 rfl rfl (fun h28 => ?_) (fun h28 => ?_)
            · replace hm := o_t hm h28
              exact c33_187 hf hG hm
            · replace hm := o_f hm h28
              refine z_aload_n (pc' := 153) hM33 rfl rfl rfl ?_
              refine z_iload_n (pc' := 154) hM33 rfl rfl rfl ?_
              obtain ⟨z29, s30, h31, hm⟩ := o_c hm
              refine z_cv (d := d + 6) (pc' := 157) hM33 rfl hM35 rfl rfl rfl rfl rfl rfl (c35 (d := d + 4) hG h31) rfl ?_
              refine z_ifeq (pc' := 160) (t := 185) hM33 rfl rfl (fun h32 => ?_) (fun h32 => ?_)
              · replace hm := o_t hm h32
                refine z_iconst (pc' := 186) hM33 rfl rfl rfl ?_
                cases hm
                exact z_retZ hM33 rfl rfl (Or.inl rfl) ⟨rfl, rfl⟩
              · replace hm := o_f hm h32
                refine z_aload_n (pc' := 161) hM33 rfl rfl rfl ?_
                refine z_iconst (pc' := 162) hM33 rfl rfl rfl ?_
                refine z_iload_n (pc' := 163) hM33 rfl rfl rfl ?_
                refine z_iconst (pc' := 164) hM33 rfl rfl rfl ?_
                obtain ⟨z33, ez33, h34, hm⟩ := o_z hm
                refine z_iadd (pc' := 165) hM33 rfl rfl ez33 h34 ?_
                obtain ⟨z35, s36, h37, hm⟩ := o_c hm
                refine z_cv (d := d + 6) (pc' := 168) hM33 rfl hM29 rfl rfl rfl rfl rfl rfl (z_up (by omega) (hf h37)) rfl ?_
                refine z_ifeq (pc' := 171) (t := 185) hM33 rfl rfl (fun h38 => ?_) (fun h38 => ?_)
                · replace hm := o_t hm h38
                  refine z_iconst (pc' := 186) hM33 rfl rfl rfl ?_
                  cases hm
                  exact z_retZ hM33 rfl rfl (Or.inl rfl) ⟨rfl, rfl⟩
                · replace hm := o_f hm h38
                  refine z_aload_n (pc' := 172) hM33 rfl rfl rfl ?_
                  refine z_sipush (pc' := 175) hM33 rfl rfl rfl ?_
                  obtain ⟨z39, s40, h41, hm⟩ := o_c hm
                  refine z_cv (d := d + 6) (pc' := 178) hM33 rfl hM28 rfl rfl rfl rfl rfl rfl (c28 (d := d + 4) hG h41) rfl ?_
                  refine z_ifeq (pc' := 181) (t := 185) hM33 rfl rfl (fun h42 => ?_) (fun h42 => ?_)
                  · replace hm := o_t hm h42
                    refine z_iconst (pc' := 186) hM33 rfl rfl rfl ?_
                    cases hm
                    exact z_retZ hM33 rfl rfl (Or.inl rfl) ⟨rfl, rfl⟩
                  · replace hm := o_f hm h42
                    refine z_iconst (pc' := 182) hM33 rfl rfl rfl ?_
                    refine z_goto (t := 186) hM33 rfl ?_
                    cases hm
                    exact z_retZ hM33 rfl rfl (Or.inr rfl) ⟨rfl, rfl⟩
        · replace hm := o_f hm h22
          refine z_aload_n (pc' := 125) hM33 rfl rfl rfl ?_
          refine z_sipush (pc' := 128) hM33 rfl rfl rfl ?_
          refine z_iload_n (pc' := 129) hM33 rfl rfl rfl ?_
          obtain ⟨z43, s44, h45, hm⟩ := o_c hm
          refine z_cv (d := d + 6) (pc' := 132) hM33 rfl hM34 rfl rfl rfl rfl rfl rfl (z_up (by omega) (c34 hf hG h45)) rfl ?_
          obtain ⟨h46, hm⟩ := o_d hm
          cases hm
          exact z_retZ hM33 rfl rfl h46 ⟨rfl, rfl⟩
      · replace hm := o_f hm h18
        refine z_aload_n (pc' := 104) hM33 rfl rfl rfl ?_
        refine z_sipush (pc' := 107) hM33 rfl rfl rfl ?_
        refine z_iload_n (pc' := 108) hM33 rfl rfl rfl ?_
        obtain ⟨z47, s48, h49, hm⟩ := o_c hm
        refine z_cv (d := d + 6) (pc' := 111) hM33 rfl hM34 rfl rfl rfl rfl rfl rfl (z_up (by omega) (c34 hf hG h49)) rfl ?_
        obtain ⟨h50, hm⟩ := o_d hm
        cases hm
        exact z_retZ hM33 rfl rfl h50 ⟨rfl, rfl⟩
    · replace hm := o_f hm h14
      refine z_aload_n (pc' := 55) hM33 rfl rfl rfl ?_
      refine z_iload_n (pc' := 56) hM33 rfl rfl rfl ?_
      obtain ⟨z51, s52, h53, hm⟩ := o_c hm
      refine z_cv (d := d + 6) (pc' := 59) hM33 rfl hM35 rfl rfl rfl rfl rfl rfl (c35 (d := d + 4) hG h53) rfl ?_
      refine z_ifeq (pc' := 62) (t := 89) hM33 rfl rfl (fun h54 => ?_) (fun h54 => ?_)
      · replace hm := o_t hm h54
        refine z_iconst (pc' := 90) hM33 rfl rfl rfl ?_
        cases hm
        exact z_retZ hM33 rfl rfl (Or.inl rfl) ⟨rfl, rfl⟩
      · replace hm := o_f hm h54
        refine z_aload_n (pc' := 63) hM33 rfl rfl rfl ?_
        refine z_iconst (pc' := 64) hM33 rfl rfl rfl ?_
        refine z_iload_n (pc' := 65) hM33 rfl rfl rfl ?_
        refine z_iconst (pc' := 66) hM33 rfl rfl rfl ?_
        obtain ⟨z55, ez55, h56, hm⟩ := o_z hm
        refine z_iadd (pc' := 67) hM33 rfl rfl ez55 h56 ?_
        obtain ⟨z57, s58, h59, hm⟩ := o_c hm
        refine z_cv (d := d + 6) (pc' := 70) hM33 rfl hM29 rfl rfl rfl rfl rfl rfl (z_up (by omega) (hf h59)) rfl ?_
        refine z_ifeq (pc' := 73) (t := 89) hM33 rfl rfl (fun h60 => ?_) (fun h60 => ?_)
        · replace hm := o_t hm h60
          refine z_iconst (pc' := 90) hM33 rfl rfl rfl ?_
          cases hm
          exact z_retZ hM33 rfl rfl (Or.inl rfl) ⟨rfl, rfl⟩
        · replace hm := o_f hm h60
          refine z_aload_n (pc' := 74) hM33 rfl rfl rfl ?_
          refine z_fldR (pc' := 77) hM33 rfl (zf_4_0 hG) rfl rfl ?_
          refine z_bipush (pc' := 79) hM33 rfl rfl rfl ?_
          obtain ⟨z61, s62, h63, hm⟩ := o_c hm
          refine z_cv (d := d + 6) (pc' := 82) hM33 rfl hM81 rfl rfl rfl rfl rfl rfl (c81 (d := d + 4) hG h63) rfl ?_
          refine z_ifeq (pc' := 85) (t := 89) hM33 rfl rfl (fun h64 => ?_) (fun h64 => ?_)
          · replace hm := o_t hm h64
            refine z_iconst (pc' := 90) hM33 rfl rfl rfl ?_
            cases hm
            exact z_retZ hM33 rfl rfl (Or.inl rfl) ⟨rfl, rfl⟩
          · replace hm := o_f hm h64
            refine z_iconst (pc' := 86) hM33 rfl rfl rfl ?_
            refine z_goto (t := 90) hM33 rfl ?_
            cases hm
            exact z_retZ hM33 rfl rfl (Or.inr rfl) ⟨rfl, rfl⟩
def m30 (x1 : Int) (s : zS) : Option (Int × zS) := if x1 = (0 : Int) then oC (m80 28 s) fun z2 s3 => if z2 = (0 : Int) then some ((-1 : Int), s3) else some ((20010 : Int), s3) else if x1 = (1 : Int) then oC (m80 29 s) fun z7 s8 => if z7 = (0 : Int) then some ((-1 : Int), s8) else some ((20009 : Int), s8) else if x1 = (3 : Int) then oC (m79 (43 : Int) s) fun z12 s13 => if z12 = (0 : Int) then oC (m79 (45 : Int) s13) fun z16 s17 => if z16 = (0 : Int) then some ((-1 : Int), s17) else some ((20001 : Int), s17) else some ((20000 : Int), s13) else oC (m79 (42 : Int) s) fun z20 s21 => if z20 = (0 : Int) then oC (m79 (47 : Int) s21) fun z24 s25 => if z24 = (0 : Int) then some ((-1 : Int), s25) else some ((20003 : Int), s25) else some ((20002 : Int), s21)
theorem c30 {G : aHp} {d : Nat} (hG : zG G) {x1 : Int} {s : zS} {r_ : Int} {s_ : zS} (hm : m30 x1 s = some (r_, s_)) : Zp G (d + 6) 30 0 [some (zr 4 0 8), some (zi x1)] [] s (zRet (some (zi r_)) s_) := by
  replace hm : (if x1 = (0 : Int) then oC (m80 28 s) fun z2 s3 => if z2 = (0 : Int) then some ((-1 : Int), s3) else some ((20010 : Int), s3) else if x1 = (1 : Int) then oC (m80 29 s) fun z7 s8 => if z7 = (0 : Int) then some ((-1 : Int), s8) else some ((20009 : Int), s8) else if x1 = (3 : Int) then oC (m79 (43 : Int) s) fun z12 s13 => if z12 = (0 : Int) then oC (m79 (45 : Int) s13) fun z16 s17 => if z16 = (0 : Int) then some ((-1 : Int), s17) else some ((20001 : Int), s17) else some ((20000 : Int), s13) else oC (m79 (42 : Int) s) fun z20 s21 => if z20 = (0 : Int) then oC (m79 (47 : Int) s21) fun z24 s25 => if z24 = (0 : Int) then some ((-1 : Int), s25) else some ((20003 : Int), s25) else some ((20002 : Int), s21)) = some (r_, s_) := hm
  refine z_iload_n (pc' := 1) hM30 rfl rfl rfl ?_
  refine z_ifne (pc' := 4) (t := 24) hM30 rfl rfl (fun h1 => ?_) (fun h1 => ?_)
  · replace hm := o_t hm h1
    refine z_aload_n (pc' := 5) hM30 rfl rfl rfl ?_
    refine z_fldR (pc' := 8) hM30 rfl (zf_4_0 hG) rfl rfl ?_
    refine z_ldcT (pc' := 10) hM30 rfl rfl rfl ?_
    obtain ⟨z2, s3, h4, hm⟩ := o_c hm
    refine z_cv (d := d + 5) (pc' := 13) hM30 rfl hM80 rfl rfl rfl rfl rfl rfl (c80 (d := d) hG h4) rfl ?_
    refine z_ifeq (pc' := 16) (t := 22) hM30 rfl rfl (fun h5 => ?_) (fun h5 => ?_)
    · replace hm := o_t hm h5
      refine z_iconst (pc' := 23) hM30 rfl rfl rfl ?_
      cases hm
      exact z_retI hM30 rfl rfl ⟨rfl, rfl⟩
    · replace hm := o_f hm h5
      refine z_sipush (pc' := 19) hM30 rfl rfl rfl ?_
      refine z_goto (t := 23) hM30 rfl ?_
      cases hm
      exact z_retI hM30 rfl rfl ⟨rfl, rfl⟩
  · replace hm := o_f hm h1
    refine z_iload_n (pc' := 25) hM30 rfl rfl rfl ?_
    refine z_iconst (pc' := 26) hM30 rfl rfl rfl ?_
    refine z_cmpne (pc' := 29) (t := 49) hM30 rfl rfl (fun h6 => ?_) (fun h6 => ?_)
    · replace hm := o_t hm h6
      refine z_aload_n (pc' := 30) hM30 rfl rfl rfl ?_
      refine z_fldR (pc' := 33) hM30 rfl (zf_4_0 hG) rfl rfl ?_
      refine z_ldcT (pc' := 35) hM30 rfl rfl rfl ?_
      obtain ⟨z7, s8, h9, hm⟩ := o_c hm
      refine z_cv (d := d + 5) (pc' := 38) hM30 rfl hM80 rfl rfl rfl rfl rfl rfl (c80 (d := d) hG h9) rfl ?_
      refine z_ifeq (pc' := 41) (t := 47) hM30 rfl rfl (fun h10 => ?_) (fun h10 => ?_)
      · replace hm := o_t hm h10
        refine z_iconst (pc' := 48) hM30 rfl rfl rfl ?_
        cases hm
        exact z_retI hM30 rfl rfl ⟨rfl, rfl⟩
      · replace hm := o_f hm h10
        refine z_sipush (pc' := 44) hM30 rfl rfl rfl ?_
        refine z_goto (t := 48) hM30 rfl ?_
        cases hm
        exact z_retI hM30 rfl rfl ⟨rfl, rfl⟩
    · replace hm := o_f hm h6
      refine z_iload_n (pc' := 50) hM30 rfl rfl rfl ?_
      refine z_iconst (pc' := 51) hM30 rfl rfl rfl ?_
      refine z_cmpne (pc' := 54) (t := 92) hM30 rfl rfl (fun h11 => ?_) (fun h11 => ?_)
      · replace hm := o_t hm h11
        refine z_aload_n (pc' := 55) hM30 rfl rfl rfl ?_
        refine z_fldR (pc' := 58) hM30 rfl (zf_4_0 hG) rfl rfl ?_
        refine z_bipush (pc' := 60) hM30 rfl rfl rfl ?_
        obtain ⟨z12, s13, h14, hm⟩ := o_c hm
        refine z_cv (d := d + 5) (pc' := 63) hM30 rfl hM79 rfl rfl rfl rfl rfl rfl (c79 (d := d + 4) hG h14) rfl ?_
        refine z_ifeq (pc' := 66) (t := 72) hM30 rfl rfl (fun h15 => ?_) (fun h15 => ?_)
        · replace hm := o_t hm h15
          refine z_aload_n (pc' := 73) hM30 rfl rfl rfl ?_
          refine z_fldR (pc' := 76) hM30 rfl (zf_4_0 hG) rfl rfl ?_
          refine z_bipush (pc' := 78) hM30 rfl rfl rfl ?_
          obtain ⟨z16, s17, h18, hm⟩ := o_c hm
          refine z_cv (d := d + 5) (pc' := 81) hM30 rfl hM79 rfl rfl rfl rfl rfl rfl (c79 (d := d + 4) hG h18) rfl ?_
          refine z_ifeq (pc' := 84) (t := 90) hM30 rfl rfl (fun h19 => ?_) (fun h19 => ?_)
          · replace hm := o_t hm h19
            refine z_iconst (pc' := 91) hM30 rfl rfl rfl ?_
            cases hm
            exact z_retI hM30 rfl rfl ⟨rfl, rfl⟩
          · replace hm := o_f hm h19
            refine z_sipush (pc' := 87) hM30 rfl rfl rfl ?_
            refine z_goto (t := 91) hM30 rfl ?_
            cases hm
            exact z_retI hM30 rfl rfl ⟨rfl, rfl⟩
        · replace hm := o_f hm h15
          refine z_sipush (pc' := 69) hM30 rfl rfl rfl ?_
          refine z_goto (t := 91) hM30 rfl ?_
          cases hm
          exact z_retI hM30 rfl rfl ⟨rfl, rfl⟩
      · replace hm := o_f hm h11
        refine z_aload_n (pc' := 93) hM30 rfl rfl rfl ?_
        refine z_fldR (pc' := 96) hM30 rfl (zf_4_0 hG) rfl rfl ?_
        refine z_bipush (pc' := 98) hM30 rfl rfl rfl ?_
        obtain ⟨z20, s21, h22, hm⟩ := o_c hm
        refine z_cv (d := d + 5) (pc' := 101) hM30 rfl hM79 rfl rfl rfl rfl rfl rfl (c79 (d := d + 4) hG h22) rfl ?_
        refine z_ifeq (pc' := 104) (t := 110) hM30 rfl rfl (fun h23 => ?_) (fun h23 => ?_)
        · replace hm := o_t hm h23
          refine z_aload_n (pc' := 111) hM30 rfl rfl rfl ?_
          refine z_fldR (pc' := 114) hM30 rfl (zf_4_0 hG) rfl rfl ?_
          refine z_bipush (pc' := 116) hM30 rfl rfl rfl ?_
          obtain ⟨z24, s25, h26, hm⟩ := o_c hm
          refine z_cv (d := d + 5) (pc' := 119) hM30 rfl hM79 rfl rfl rfl rfl rfl rfl (c79 (d := d + 4) hG h26) rfl ?_
          refine z_ifeq (pc' := 122) (t := 128) hM30 rfl rfl (fun h27 => ?_) (fun h27 => ?_)
          · replace hm := o_t hm h27
            refine z_iconst (pc' := 129) hM30 rfl rfl rfl ?_
            cases hm
            exact z_retI hM30 rfl rfl ⟨rfl, rfl⟩
          · replace hm := o_f hm h27
            refine z_sipush (pc' := 125) hM30 rfl rfl rfl ?_
            refine z_goto (t := 129) hM30 rfl ?_
            cases hm
            exact z_retI hM30 rfl rfl ⟨rfl, rfl⟩
        · replace hm := o_f hm h23
          refine z_sipush (pc' := 107) hM30 rfl rfl rfl ?_
          refine z_goto (t := 129) hM30 rfl ?_
          cases hm
          exact z_retI hM30 rfl rfl ⟨rfl, rfl⟩
def m29_37 (f : Int → Int → zS → Option (Int × zS)) : Nat → Int → Int → Int → zS → Option (Int × zS)
  | 0, _, _, _, _ => none
  | n + 1, x1, x2, x3, s => if x3 < (1600 : Int) then oC (m30 x1 s) fun z2 s3 => if z2 = (-1 : Int) then some ((1 : Int), s3) else oC (m76 s3) fun z6 s7 => oZ (x1 + (1 : Int)) fun z9 => oC (f z9 x2 s7) fun z11 s12 => if z11 = (0 : Int) then some ((0 : Int), s12) else oC (m28 z2 s12) fun z15 s16 => oZ (x3 + (1 : Int)) fun z18 => m29_37 f n x1 x2 z18 s16 else some ((1 : Int), s)
theorem c29_37 {G : aHp} {d : Nat} {f : Int → Int → zS → Option (Int × zS)} (hf : ∀ {x1 : Int} {x2 : Int} {s : zS} {r_ : Int} {s_ : zS}, f x1 x2 s = some (r_, s_) → Zp G d 29 0 [some (zr 4 0 8), some (zi x1), some (zi x2), none, none] [] s (zRet (some (zi r_)) s_)) (hG : zG G) : ∀ {n : Nat} {x1 : Int} {x2 : Int} {x3 : Int} {d4 : Option zV} {s : zS} {r_ : Int} {s_ : zS}, m29_37 f n x1 x2 x3 s = some (r_, s_) → Zp G (d + 8) 29 37 [some (zr 4 0 8), some (zi x1), some (zi x2), some (zi x3), d4] [] s (zRet (some (zi r_)) s_) := by
  intro n
  induction n with
  | zero => intro x1 x2 x3 d4 s r_ s_ hm; cases hm
  | succ n ih =>
  intro x1 x2 x3 d4 s r_ s_ hm
  replace hm : (if x3 < (1600 : Int) then oC (m30 x1 s) fun z2 s3 => if z2 = (-1 : Int) then some ((1 : Int), s3) else oC (m76 s3) fun z6 s7 => oZ (x1 + (1 : Int)) fun z9 => oC (f z9 x2 s7) fun z11 s12 => if z11 = (0 : Int) then some ((0 : Int), s12) else oC (m28 z2 s12) fun z15 s16 => oZ (x3 + (1 : Int)) fun z18 => m29_37 f n x1 x2 z18 s16 else some ((1 : Int), s)) = some (r_, s_) := hm
  refine z_iload_n (pc' := 38) hM29 rfl rfl rfl ?_
  refine z_sipush (pc' := 41) hM29 rfl rfl rfl ?_
  refine z_cmpge (pc' := 44) (t := 92) hM29 rfl rfl (fun h1 => ?_) (fun h1 => ?_)
  · replace hm := o_t hm h1
    refine z_aload_n (pc' := 45) hM29 rfl rfl rfl ?_
    refine z_iload_n (pc' := 46) hM29 rfl rfl rfl ?_
    obtain ⟨z2, s3, h4, hm⟩ := o_c hm
    refine z_cv (d := d + 7) (pc' := 49) hM29 rfl hM30 rfl rfl rfl rfl rfl rfl (c30 (d := d + 1) hG h4) rfl ?_
    refine z_istore (pc' := 51) (l' := [some (zr 4 0 8), some (zi x1), some (zi x2), some (zi x3), some (zi z2)]) hM29 rfl rfl rfl rfl ?_
    refine z_iload (pc' := 53) hM29 rfl rfl rfl ?_
    refine z_iconst (pc' := 54) hM29 rfl rfl rfl ?_
    refine z_cmpne (pc' := 57) (t := 59) hM29 rfl rfl (fun h5 => ?_) (fun h5 => ?_)
    · replace hm := o_t hm h5
      refine z_iconst (pc' := 58) hM29 rfl rfl rfl ?_
      cases hm
      exact z_retZ hM29 rfl rfl (Or.inr rfl) ⟨rfl, rfl⟩
    · replace hm := o_f hm h5
      refine z_aload_n (pc' := 60) hM29 rfl rfl rfl ?_
      refine z_fldR (pc' := 63) hM29 rfl (zf_4_0 hG) rfl rfl ?_
      obtain ⟨z6, s7, h8, hm⟩ := o_c hm
      refine z_cvV (d := d + 7) (pc' := 66) hM29 rfl hM76 rfl rfl rfl rfl rfl rfl (c76 (d := d + 6) hG h8) rfl ?_
      refine z_aload_n (pc' := 67) hM29 rfl rfl rfl ?_
      refine z_iload_n (pc' := 68) hM29 rfl rfl rfl ?_
      refine z_iconst (pc' := 69) hM29 rfl rfl rfl ?_
      obtain ⟨z9, ez9, h10, hm⟩ := o_z hm
      refine z_iadd (pc' := 70) hM29 rfl rfl ez9 h10 ?_
      refine z_iload_n (pc' := 71) hM29 rfl rfl rfl ?_
      obtain ⟨z11, s12, h13, hm⟩ := o_c hm
      refine z_cv (d := d + 7) (pc' := 74) hM29 rfl hM29 rfl rfl rfl rfl rfl rfl (z_up (by omega) (hf h13)) rfl ?_
      refine z_ifne (pc' := 77) (t := 79) hM29 rfl rfl (fun h14 => ?_) (fun h14 => ?_)
      · replace hm := o_t hm h14
        refine z_iconst (pc' := 78) hM29 rfl rfl rfl ?_
        cases hm
        exact z_retZ hM29 rfl rfl (Or.inl rfl) ⟨rfl, rfl⟩
      · replace hm := o_f hm h14
        refine z_aload_n (pc' := 80) hM29 rfl rfl rfl ?_
        refine z_iload (pc' := 82) hM29 rfl rfl rfl ?_
        obtain ⟨z15, s16, h17, hm⟩ := o_c hm
        refine z_cv (d := d + 7) (pc' := 85) hM29 rfl hM28 rfl rfl rfl rfl rfl rfl (c28 (d := d + 5) hG h17) rfl ?_
        refine z_pop (pc' := 86) hM29 rfl rfl ?_
        obtain ⟨z18, ez18, h19, hm⟩ := o_z hm
        refine z_iinc (pc' := 89) (l' := [some (zr 4 0 8), some (zi x1), some (zi x2), some (zi z18), some (zi z2)]) hM29 rfl rfl rfl ez18 h19 rfl rfl ?_
        refine z_goto (t := 37) hM29 rfl ?_
        exact ih hm
  · replace hm := o_f hm h1
    refine z_iconst (pc' := 93) hM29 rfl rfl rfl ?_
    cases hm
    exact z_retZ hM29 rfl rfl (Or.inr rfl) ⟨rfl, rfl⟩
def m29 (f : Int → Int → zS → Option (Int × zS)) (x1 : Int) (x2 : Int) (s : zS) : Option (Int × zS) := if x1 = (2 : Int) then oC (m31 f x2 s) fun z2 s3 => oD z2 (some (z2, s3)) else if x1 < (5 : Int) then oZ (x1 + (1 : Int)) fun z7 => oC (f z7 x2 s) fun z9 s10 => if z9 = (0 : Int) then some ((0 : Int), s10) else m29_37 f zFu x1 x2 (0 : Int) s10 else oC (m33 f x2 s) fun z13 s14 => oD z13 (some (z13, s14))
theorem c29 {G : aHp} {d : Nat} {f : Int → Int → zS → Option (Int × zS)} (hf : ∀ {x1 : Int} {x2 : Int} {s : zS} {r_ : Int} {s_ : zS}, f x1 x2 s = some (r_, s_) → Zp G d 29 0 [some (zr 4 0 8), some (zi x1), some (zi x2), none, none] [] s (zRet (some (zi r_)) s_)) (hG : zG G) {x1 : Int} {x2 : Int} {s : zS} {r_ : Int} {s_ : zS} (hm : m29 f x1 x2 s = some (r_, s_)) : Zp G (d + 8) 29 0 [some (zr 4 0 8), some (zi x1), some (zi x2), none, none] [] s (zRet (some (zi r_)) s_) := by
  replace hm : (if x1 = (2 : Int) then oC (m31 f x2 s) fun z2 s3 => oD z2 (some (z2, s3)) else if x1 < (5 : Int) then oZ (x1 + (1 : Int)) fun z7 => oC (f z7 x2 s) fun z9 s10 => if z9 = (0 : Int) then some ((0 : Int), s10) else m29_37 f zFu x1 x2 (0 : Int) s10 else oC (m33 f x2 s) fun z13 s14 => oD z13 (some (z13, s14))) = some (r_, s_) := hm
  refine z_iload_n (pc' := 1) hM29 rfl rfl rfl ?_
  refine z_iconst (pc' := 2) hM29 rfl rfl rfl ?_
  refine z_cmpne (pc' := 5) (t := 11) hM29 rfl rfl (fun h1 => ?_) (fun h1 => ?_)
  · replace hm := o_t hm h1
    refine z_aload_n (pc' := 6) hM29 rfl rfl rfl ?_
    refine z_iload_n (pc' := 7) hM29 rfl rfl rfl ?_
    obtain ⟨z2, s3, h4, hm⟩ := o_c hm
    refine z_cv (d := d + 7) (pc' := 10) hM29 rfl hM31 rfl rfl rfl rfl rfl rfl (z_up (by omega) (c31 hf hG h4)) rfl ?_
    obtain ⟨h5, hm⟩ := o_d hm
    cases hm
    exact z_retZ hM29 rfl rfl h5 ⟨rfl, rfl⟩
  · replace hm := o_f hm h1
    refine z_iload_n (pc' := 12) hM29 rfl rfl rfl ?_
    refine z_iconst (pc' := 13) hM29 rfl rfl rfl ?_
    refine z_cmplt (pc' := 16) (t := 22) hM29 rfl rfl (fun h6 => ?_) (fun h6 => ?_)
    · replace hm := o_t hm h6
      refine z_aload_n (pc' := 23) hM29 rfl rfl rfl ?_
      refine z_iload_n (pc' := 24) hM29 rfl rfl rfl ?_
      refine z_iconst (pc' := 25) hM29 rfl rfl rfl ?_
      obtain ⟨z7, ez7, h8, hm⟩ := o_z hm
      refine z_iadd (pc' := 26) hM29 rfl rfl ez7 h8 ?_
      refine z_iload_n (pc' := 27) hM29 rfl rfl rfl ?_
      obtain ⟨z9, s10, h11, hm⟩ := o_c hm
      refine z_cv (d := d + 7) (pc' := 30) hM29 rfl hM29 rfl rfl rfl rfl rfl rfl (z_up (by omega) (hf h11)) rfl ?_
      refine z_ifne (pc' := 33) (t := 35) hM29 rfl rfl (fun h12 => ?_) (fun h12 => ?_)
      · replace hm := o_t hm h12
        refine z_iconst (pc' := 34) hM29 rfl rfl rfl ?_
        cases hm
        exact z_retZ hM29 rfl rfl (Or.inl rfl) ⟨rfl, rfl⟩
      · replace hm := o_f hm h12
        refine z_iconst (pc' := 36) hM29 rfl rfl rfl ?_
        refine z_istore_n (pc' := 37) (l' := [some (zr 4 0 8), some (zi x1), some (zi x2), some (zi (0 : Int)), none]) hM29 rfl rfl rfl rfl ?_
        exact c29_37 hf hG hm
    · replace hm := o_f hm h6
      refine z_aload_n (pc' := 17) hM29 rfl rfl rfl ?_
      refine z_iload_n (pc' := 18) hM29 rfl rfl rfl ?_
      obtain ⟨z13, s14, h15, hm⟩ := o_c hm
      refine z_cv (d := d + 7) (pc' := 21) hM29 rfl hM33 rfl rfl rfl rfl rfl rfl (z_up (by omega) (c33 hf hG h15)) rfl ?_
      obtain ⟨h16, hm⟩ := o_d hm
      cases hm
      exact z_retZ hM29 rfl rfl h16 ⟨rfl, rfl⟩
def M29 : Nat → Int → Int → zS → Option (Int × zS)
  | 0 => fun _ _ _ => none
  | n + 1 => m29 (M29 n)
theorem C29 {G : aHp} (hG : zG G) : ∀ (n : Nat) {x1 : Int} {x2 : Int} {s : zS} {r_ : Int} {s_ : zS}, M29 n x1 x2 s = some (r_, s_) → Zp G (8 + 8 * n) 29 0 [some (zr 4 0 8), some (zi x1), some (zi x2), none, none] [] s (zRet (some (zi r_)) s_) := by
  intro n
  induction n with
  | zero => intro x1 x2 s r_ s_ hm; cases hm
  | succ n ih =>
  intro x1 x2 s r_ s_ hm
  exact c29 ih hG hm
