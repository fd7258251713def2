/-! ===== methods (by gen_mir.py) ===== -/
def m293_5 : Nat → Nat → Nat → Int → Int → Int → zS → Option (Int × zS)
  | 0, _, _, _, _, _, _ => none
  | n + 1, n0, a0, x1, x2, x3, s => if x2 < x3 then oX x2 n0 (oV (sI s a0 x2 x1) fun s2 => oZ (x2 + (1 : Int)) fun z4 => m293_5 n n0 a0 x1 z4 x3 s2) else some (0, s)
theorem c293_5 {G : aHp} {d : Nat} (hG : zG G) : ∀ {n : Nat} {n0 : Nat} {a0 : Nat} {x1 : Int} {x2 : Int} {x3 : Int} {s : zS} {r_ : Int} {s_ : zS}, m293_5 n n0 a0 x1 x2 x3 s = some (r_, s_) → Zp G (d + 1) 293 5 [some (zr 100 n0 a0), some (zi x1), some (zi x2), some (zi x3)] [] s (zRet none s_) := by
  intro n
  induction n with
  | zero => intro n0 a0 x1 x2 x3 s r_ s_ hm; cases hm
  | succ n ih =>
  intro n0 a0 x1 x2 x3 s r_ s_ hm
  replace hm : (if x2 < x3 then oX x2 n0 (oV (sI s a0 x2 x1) fun s2 => oZ (x2 + (1 : Int)) fun z4 => m293_5 n n0 a0 x1 z4 x3 s2) else some (0, s)) = some (r_, s_) := hm
  refine z_iload_n (pc' := 6) hM293 rfl rfl rfl ?_
  refine z_iload_n (pc' := 7) hM293 rfl rfl rfl ?_
  refine z_cmpge (pc' := 10) (t := 20) hM293 rfl rfl (fun h1 => ?_) (fun h1 => ?_)
  · replace hm := o_t hm h1
    refine z_aload_n (pc' := 11) hM293 rfl rfl rfl ?_
    refine z_iload_n (pc' := 12) hM293 rfl rfl rfl ?_
    refine z_iload_n (pc' := 13) hM293 rfl rfl rfl ?_
    obtain ⟨h3, hm⟩ := o_x hm
    obtain ⟨s2, es2, hm⟩ := o_v hm
    refine z_iast (pc' := 14) hM293 rfl rfl h3 es2 ?_
    obtain ⟨z4, ez4, h5, hm⟩ := o_z hm
    refine z_iinc (pc' := 17) (l' := [some (zr 100 n0 a0), some (zi x1), some (zi z4), some (zi x3)]) hM293 rfl rfl rfl ez4 h5 rfl rfl ?_
    refine z_goto (t := 5) hM293 rfl ?_
    exact ih hm
  · replace hm := o_f hm h1
    cases hm
    exact z_retV hM293 rfl rfl ⟨rfl, rfl⟩
def m293 (n0 : Nat) (a0 : Nat) (x1 : Int) (s : zS) : Option (Int × zS) := oZ (n0 : Nat) fun z1 => m293_5 zFu n0 a0 x1 (0 : Int) z1 s
theorem c293 {G : aHp} {d : Nat} (hG : zG G) {n0 : Nat} {a0 : Nat} {x1 : Int} {s : zS} {r_ : Int} {s_ : zS} (hm : m293 n0 a0 x1 s = some (r_, s_)) : Zp G (d + 1) 293 0 [some (zr 100 n0 a0), some (zi x1), none, none] [] s (zRet none s_) := by
  replace hm : (oZ (n0 : Nat) fun z1 => m293_5 zFu n0 a0 x1 (0 : Int) z1 s) = some (r_, s_) := hm
  refine z_iconst (pc' := 1) hM293 rfl rfl rfl ?_
  refine z_istore_n (pc' := 2) (l' := [some (zr 100 n0 a0), some (zi x1), some (zi (0 : Int)), none]) hM293 rfl rfl rfl rfl ?_
  refine z_aload_n (pc' := 3) hM293 rfl rfl rfl ?_
  obtain ⟨z1, ez1, h2, hm⟩ := o_z hm
  refine z_alen (pc' := 4) (zGN hG) hM293 rfl (Or.inl rfl) rfl ez1 h2 ?_
  refine z_istore_n (pc' := 5) (l' := [some (zr 100 n0 a0), some (zi x1), some (zi (0 : Int)), some (zi z1)]) hM293 rfl rfl rfl rfl ?_
  exact c293_5 hG hm
def m56 (a0 : Nat) (a1 : Nat) (s : zS) : Option (Int × zS) := oY 8 8 (0 : Int) (0 : Int) (8 : Int) (oV (sC s (a1 + 1) (a0 + 1) (0 : Int) (0 : Int) (8 : Int)) fun s1 => oY 6 6 (0 : Int) (0 : Int) (6 : Int) (oV (sC s1 (a1 + 2) (a0 + 2) (0 : Int) (0 : Int) (6 : Int)) fun s3 => oY 6 6 (0 : Int) (0 : Int) (6 : Int) (oV (sC s3 (a1 + 3) (a0 + 3) (0 : Int) (0 : Int) (6 : Int)) fun s5 => oY 6 6 (0 : Int) (0 : Int) (6 : Int) (oV (sC s5 (a1 + 4) (a0 + 4) (0 : Int) (0 : Int) (6 : Int)) fun s7 => oY 8 8 (0 : Int) (0 : Int) (8 : Int) (oV (sC s7 (a1 + 5) (a0 + 5) (0 : Int) (0 : Int) (8 : Int)) fun s9 => oV (s9.1 a1 5) fun z11 => oV (sI s9 a0 5 z11) fun s12 => oV (s12.1 a1 6) fun z13 => oV (sI s12 a0 6 z13) fun s14 => oV (s14.1 a1 7) fun z15 => oV (sI s14 a0 7 z15) fun s16 => some (0, s16))))))
theorem c56 {G : aHp} {d : Nat} (hG : zG G) {a0 : Nat} {a1 : Nat} {s : zS} {r_ : Int} {s_ : zS} (hm : m56 a0 a1 s = some (r_, s_)) : Zp G (d + 5) 56 0 [some (zr 7 0 a0), some (zr 7 0 a1)] [] s (zRet none s_) := by
  replace hm : (oY 8 8 (0 : Int) (0 : Int) (8 : Int) (oV (sC s (a1 + 1) (a0 + 1) (0 : Int) (0 : Int) (8 : Int)) fun s1 => oY 6 6 (0 : Int) (0 : Int) (6 : Int) (oV (sC s1 (a1 + 2) (a0 + 2) (0 : Int) (0 : Int) (6 : Int)) fun s3 => oY 6 6 (0 : Int) (0 : Int) (6 : Int) (oV (sC s3 (a1 + 3) (a0 + 3) (0 : Int) (0 : Int) (6 : Int)) fun s5 => oY 6 6 (0 : Int) (0 : Int) (6 : Int) (oV (sC s5 (a1 + 4) (a0 + 4) (0 : Int) (0 : Int) (6 : Int)) fun s7 => oY 8 8 (0 : Int) (0 : Int) (8 : Int) (oV (sC s7 (a1 + 5) (a0 + 5) (0 : Int) (0 : Int) (8 : Int)) fun s9 => oV (s9.1 a1 5) fun z11 => oV (sI s9 a0 5 z11) fun s12 => oV (s12.1 a1 6) fun z13 => oV (sI s12 a0 6 z13) fun s14 => oV (s14.1 a1 7) fun z15 => oV (sI s14 a0 7 z15) fun s16 => some (0, s16))))))) = some (r_, s_) := hm
  refine z_aload_n (pc' := 1) hM56 rfl rfl rfl ?_
  refine z_fldR (pc' := 4) hM56 rfl (zf_7_0 hG) rfl rfl ?_
  refine z_iconst (pc' := 5) hM56 rfl rfl rfl ?_
  refine z_aload_n (pc' := 6) hM56 rfl rfl rfl ?_
  refine z_fldR (pc' := 9) hM56 rfl (zf_7_0 hG) rfl rfl ?_
  refine z_iconst (pc' := 10) hM56 rfl rfl rfl ?_
  refine z_bipush (pc' := 12) hM56 rfl rfl rfl ?_
  obtain ⟨h2, hm⟩ := o_y hm
  obtain ⟨s1, es1, hm⟩ := o_v hm
  refine z_copy (pc' := 15) hM56 rfl (by omega) rfl rfl h2 es1 ?_
  refine z_aload_n (pc' := 16) hM56 rfl rfl rfl ?_
  refine z_fldR (pc' := 19) hM56 rfl (zf_7_1 hG) rfl rfl ?_
  refine z_iconst (pc' := 20) hM56 rfl rfl rfl ?_
  refine z_aload_n (pc' := 21) hM56 rfl rfl rfl ?_
  refine z_fldR (pc' := 24) hM56 rfl (zf_7_1 hG) rfl rfl ?_
  refine z_iconst (pc' := 25) hM56 rfl rfl rfl ?_
  refine z_bipush (pc' := 27) hM56 rfl rfl rfl ?_
  obtain ⟨h4, hm⟩ := o_y hm
  obtain ⟨s3, es3, hm⟩ := o_v hm
  refine z_copy (pc' := 30) hM56 rfl (by omega) rfl rfl h4 es3 ?_
  refine z_aload_n (pc' := 31) hM56 rfl rfl rfl ?_
  refine z_fldR (pc' := 34) hM56 rfl (zf_7_2 hG) rfl rfl ?_
  refine z_iconst (pc' := 35) hM56 rfl rfl rfl ?_
  refine z_aload_n (pc' := 36) hM56 rfl rfl rfl ?_
  refine z_fldR (pc' := 39) hM56 rfl (zf_7_2 hG) rfl rfl ?_
  refine z_iconst (pc' := 40) hM56 rfl rfl rfl ?_
  refine z_bipush (pc' := 42) hM56 rfl rfl rfl ?_
  obtain ⟨h6, hm⟩ := o_y hm
  obtain ⟨s5, es5, hm⟩ := o_v hm
  refine z_copy (pc' := 45) hM56 rfl (by omega) rfl rfl h6 es5 ?_
  refine z_aload_n (pc' := 46) hM56 rfl rfl rfl ?_
  refine z_fldR (pc' := 49) hM56 rfl (zf_7_3 hG) rfl rfl ?_
  refine z_iconst (pc' := 50) hM56 rfl rfl rfl ?_
  refine z_aload_n (pc' := 51) hM56 rfl rfl rfl ?_
  refine z_fldR (pc' := 54) hM56 rfl (zf_7_3 hG) rfl rfl ?_
  refine z_iconst (pc' := 55) hM56 rfl rfl rfl ?_
  refine z_bipush (pc' := 57) hM56 rfl rfl rfl ?_
  obtain ⟨h8, hm⟩ := o_y hm
  obtain ⟨s7, es7, hm⟩ := o_v hm
  refine z_copy (pc' := 60) hM56 rfl (by omega) rfl rfl h8 es7 ?_
  refine z_aload_n (pc' := 61) hM56 rfl rfl rfl ?_
  refine z_fldR (pc' := 64) hM56 rfl (zf_7_4 hG) rfl rfl ?_
  refine z_iconst (pc' := 65) hM56 rfl rfl rfl ?_
  refine z_aload_n (pc' := 66) hM56 rfl rfl rfl ?_
  refine z_fldR (pc' := 69) hM56 rfl (zf_7_4 hG) rfl rfl ?_
  refine z_iconst (pc' := 70) hM56 rfl rfl rfl ?_
  refine z_bipush (pc' := 72) hM56 rfl rfl rfl ?_
  obtain ⟨h10, hm⟩ := o_y hm
  obtain ⟨s9, es9, hm⟩ := o_v hm
  refine z_copy (pc' := 75) hM56 rfl (by omega) rfl rfl h10 es9 ?_
  refine z_aload_n (pc' := 76) hM56 rfl rfl rfl ?_
  refine z_aload_n (pc' := 77) hM56 rfl rfl rfl ?_
  obtain ⟨z11, ez11, hm⟩ := o_v hm
  refine z_fldI (pc' := 80) hM56 rfl rfl rfl ez11 ?_
  obtain ⟨s12, es12, hm⟩ := o_v hm
  refine z_putI (pc' := 83) hM56 rfl rfl rfl es12 ?_
  refine z_aload_n (pc' := 84) hM56 rfl rfl rfl ?_
  refine z_aload_n (pc' := 85) hM56 rfl rfl rfl ?_
  obtain ⟨z13, ez13, hm⟩ := o_v hm
  refine z_fldI (pc' := 88) hM56 rfl rfl rfl ez13 ?_
  obtain ⟨s14, es14, hm⟩ := o_v hm
  refine z_putI (pc' := 91) hM56 rfl rfl rfl es14 ?_
  refine z_aload_n (pc' := 92) hM56 rfl rfl rfl ?_
  refine z_aload_n (pc' := 93) hM56 rfl rfl rfl ?_
  obtain ⟨z15, ez15, hm⟩ := o_v hm
  refine z_fldI (pc' := 96) hM56 rfl rfl rfl ez15 ?_
  obtain ⟨s16, es16, hm⟩ := o_v hm
  refine z_putI (pc' := 99) hM56 rfl rfl rfl es16 ?_
  cases hm
  exact z_retV hM56 rfl rfl ⟨rfl, rfl⟩
def m5 (a1 : Nat) (x2 : Int) (s : zS) : Option (Int × zS) := oV (s.2.2 3) fun w1 => oX x2 6 (oV (s.1 (a1 + 3) x2) fun z2 => oV (s.2.2 3) fun w4 => oX x2 6 (oV (s.1 (w4 + 15) x2) fun z5 => if z2 = z5 then some ((1 : Int), s) else some ((0 : Int), s)))
theorem c5 {G : aHp} {d : Nat} (hG : zG G) {a1 : Nat} {x2 : Int} {s : zS} {r_ : Int} {s_ : zS} (hm : m5 a1 x2 s = some (r_, s_)) : Zp G (d + 1) 5 0 [some (zr 1 0 10), some (zr 7 0 a1), some (zi x2)] [] s (zRet (some (zi r_)) s_) := by
  replace hm : (oV (s.2.2 3) fun w1 => oX x2 6 (oV (s.1 (a1 + 3) x2) fun z2 => oV (s.2.2 3) fun w4 => oX x2 6 (oV (s.1 (w4 + 15) x2) fun z5 => if z2 = z5 then some ((1 : Int), s) else some ((0 : Int), s)))) = some (r_, s_) := hm
  refine z_aload_n (pc' := 1) hM5 rfl rfl rfl ?_
  obtain ⟨w1, ew1, hm⟩ := o_v hm
  refine z_fldM (pc' := 4) (q := 2) hG.2.1 hM5 rfl rfl (Or.inr (Or.inr rfl)) rfl rfl ew1 ?_
  refine z_ifnull (pc' := 7) hM5 rfl rfl ?_
  refine z_aload_n (pc' := 8) hM5 rfl rfl rfl ?_
  refine z_fldR (pc' := 11) hM5 rfl (zf_7_2 hG) rfl rfl ?_
  refine z_iload_n (pc' := 12) hM5 rfl rfl rfl ?_
  obtain ⟨h3, hm⟩ := o_x hm
  obtain ⟨z2, ez2, hm⟩ := o_v hm
  refine z_iald (pc' := 13) (zGN hG) hM5 rfl rfl h3 ez2 ?_
  refine z_aload_n (pc' := 14) hM5 rfl rfl rfl ?_
  obtain ⟨w4, ew4, hm⟩ := o_v hm
  refine z_fldM (pc' := 17) (q := 2) hG.2.1 hM5 rfl rfl (Or.inr (Or.inr rfl)) rfl rfl ew4 ?_
  refine z_fldR (pc' := 20) hM5 rfl (zf_5_11 hG) rfl rfl ?_
  refine z_iload_n (pc' := 21) hM5 rfl rfl rfl ?_
  obtain ⟨h6, hm⟩ := o_x hm
  obtain ⟨z5, ez5, hm⟩ := o_v hm
  refine z_iald (pc' := 22) (zGN hG) hM5 rfl rfl h6 ez5 ?_
  refine z_cmpne (pc' := 25) (t := 29) hM5 rfl rfl (fun h7 => ?_) (fun h7 => ?_)
  · replace hm := o_t hm h7
    refine z_iconst (pc' := 26) hM5 rfl rfl rfl ?_
    refine z_goto (t := 30) hM5 rfl ?_
    cases hm
    exact z_retZ hM5 rfl rfl (Or.inr rfl) ⟨rfl, rfl⟩
  · replace hm := o_f hm h7
    refine z_iconst (pc' := 30) hM5 rfl rfl rfl ?_
    cases hm
    exact z_retZ hM5 rfl rfl (Or.inl rfl) ⟨rfl, rfl⟩
def m50 (a0 : Nat) (x1 : Int) (s : zS) : Option (Int × zS) := if x1 < (0 : Int) then some ((0 : Int), s) else oV (s.1 a0 0) fun z2 => if x1 < z2 then some ((1 : Int), s) else some ((0 : Int), s)
theorem c50 {G : aHp} {d : Nat} (hG : zG G) {a0 : Nat} {x1 : Int} {s : zS} {r_ : Int} {s_ : zS} (hm : m50 a0 x1 s = some (r_, s_)) : Zp G (d + 1) 50 0 [some (zr 6 0 a0), some (zi x1)] [] s (zRet (some (zi r_)) s_) := by
  replace hm : (if x1 < (0 : Int) then some ((0 : Int), s) else oV (s.1 a0 0) fun z2 => if x1 < z2 then some ((1 : Int), s) else some ((0 : Int), s)) = some (r_, s_) := hm
  refine z_iload_n (pc' := 1) hM50 rfl rfl rfl ?_
  refine z_iflt (pc' := 4) (t := 16) hM50 rfl rfl (fun h1 => ?_) (fun h1 => ?_)
  · replace hm := o_t hm h1
    refine z_iconst (pc' := 17) hM50 rfl rfl rfl ?_
    cases hm
    exact z_retZ hM50 rfl rfl (Or.inl rfl) ⟨rfl, rfl⟩
  · replace hm := o_f hm h1
    refine z_iload_n (pc' := 5) hM50 rfl rfl rfl ?_
    refine z_aload_n (pc' := 6) hM50 rfl rfl rfl ?_
    obtain ⟨z2, ez2, hm⟩ := o_v hm
    refine z_fldI (pc' := 9) hM50 rfl rfl rfl ez2 ?_
    refine z_cmpge (pc' := 12) (t := 16) hM50 rfl rfl (fun h3 => ?_) (fun h3 => ?_)
    · replace hm := o_t hm h3
      refine z_iconst (pc' := 13) hM50 rfl rfl rfl ?_
      refine z_goto (t := 17) hM50 rfl ?_
      cases hm
      exact z_retZ hM50 rfl rfl (Or.inr rfl) ⟨rfl, rfl⟩
    · replace hm := o_f hm h3
      refine z_iconst (pc' := 17) hM50 rfl rfl rfl ?_
      cases hm
      exact z_retZ hM50 rfl rfl (Or.inl rfl) ⟨rfl, rfl⟩
def m48 (a0 : Nat) (x1 : Int) (x2 : Int) (s : zS) : Option (Int × zS) := oC (m50 (a0 + 1) x1 s) fun z1 s2 => if z1 = (0 : Int) then some ((-1 : Int), s2) else oC (m50 (a0 + 1) x2 s2) fun z5 s6 => if z5 = (0 : Int) then some ((-1 : Int), s6) else oZ (x1 * (7 : Int)) fun z9 => oZ (z9 + x2) fun z11 => oX z11 49 (oV (s6.1 (a0 + 9) z11) fun z13 => some (z13, s6))
theorem c48 {G : aHp} {d : Nat} (hG : zG G) {a0 : Nat} {x1 : Int} {x2 : Int} {s : zS} {r_ : Int} {s_ : zS} (hm : m48 a0 x1 x2 s = some (r_, s_)) : Zp G (d + 2) 48 0 [some (zr 5 0 a0), some (zi x1), some (zi x2)] [] s (zRet (some (zi r_)) s_) := by
  replace hm : (oC (m50 (a0 + 1) x1 s) fun z1 s2 => if z1 = (0 : Int) then some ((-1 : Int), s2) else oC (m50 (a0 + 1) x2 s2) fun z5 s6 => if z5 = (0 : Int) then some ((-1 : Int), s6) else oZ (x1 * (7 : Int)) fun z9 => oZ (z9 + x2) fun z11 => oX z11 49 (oV (s6.1 (a0 + 9) z11) fun z13 => some (z13, s6))) = some (r_, s_) := hm
  refine z_aload_n (pc' := 1) hM48 rfl rfl rfl ?_
  refine z_fldR (pc' := 4) hM48 rfl (zf_5_0 hG) rfl rfl ?_
  refine z_iload_n (pc' := 5) hM48 rfl rfl rfl ?_
  obtain ⟨z1, s2, h3, hm⟩ := o_c hm
  refine z_cv (d := d + 1) (pc' := 8) hM48 rfl hM50 rfl rfl rfl rfl rfl rfl (c50 (d := d) hG h3) rfl ?_
  refine z_ifeq (pc' := 11) (t := 36) hM48 rfl rfl (fun h4 => ?_) (fun h4 => ?_)
  · replace hm := o_t hm h4
    refine z_iconst (pc' := 37) hM48 rfl rfl rfl ?_
    cases hm
    exact z_retI hM48 rfl rfl ⟨rfl, rfl⟩
  · replace hm := o_f hm h4
    refine z_aload_n (pc' := 12) hM48 rfl rfl rfl ?_
    refine z_fldR (pc' := 15) hM48 rfl (zf_5_0 hG) rfl rfl ?_
    refine z_iload_n (pc' := 16) hM48 rfl rfl rfl ?_
    obtain ⟨z5, s6, h7, hm⟩ := o_c hm
    refine z_cv (d := d + 1) (pc' := 19) hM48 rfl hM50 rfl rfl rfl rfl rfl rfl (c50 (d := d) hG h7) rfl ?_
    refine z_ifeq (pc' := 22) (t := 36) hM48 rfl rfl (fun h8 => ?_) (fun h8 => ?_)
    · replace hm := o_t hm h8
      refine z_iconst (pc' := 37) hM48 rfl rfl rfl ?_
      cases hm
      exact z_retI hM48 rfl rfl ⟨rfl, rfl⟩
    · replace hm := o_f hm h8
      refine z_aload_n (pc' := 23) hM48 rfl rfl rfl ?_
      refine z_fldR (pc' := 26) hM48 rfl (zf_5_5 hG) rfl rfl ?_
      refine z_iload_n (pc' := 27) hM48 rfl rfl rfl ?_
      refine z_bipush (pc' := 29) hM48 rfl rfl rfl ?_
      obtain ⟨z9, ez9, h10, hm⟩ := o_z hm
      refine z_imul (pc' := 30) hM48 rfl rfl ez9 h10 ?_
      refine z_iload_n (pc' := 31) hM48 rfl rfl rfl ?_
      obtain ⟨z11, ez11, h12, hm⟩ := o_z hm
      refine z_iadd (pc' := 32) hM48 rfl rfl ez11 h12 ?_
      obtain ⟨h14, hm⟩ := o_x hm
      obtain ⟨z13, ez13, hm⟩ := o_v hm
      refine z_iald (pc' := 33) (zGN hG) hM48 rfl rfl h14 ez13 ?_
      refine z_goto (t := 37) hM48 rfl ?_
      cases hm
      exact z_retI hM48 rfl rfl ⟨rfl, rfl⟩
def m287 (x0 : Int) (s : zS) : Option (Int × zS) := if x0 < (0 : Int) then oZ (-x0) fun z2 => some (z2, s) else some (x0, s)
theorem c287 {G : aHp} {d : Nat} (hG : zG G) {x0 : Int} {s : zS} {r_ : Int} {s_ : zS} (hm : m287 x0 s = some (r_, s_)) : Zp G (d + 1) 287 0 [some (zi x0)] [] s (zRet (some (zi r_)) s_) := by
  replace hm : (if x0 < (0 : Int) then oZ (-x0) fun z2 => some (z2, s) else some (x0, s)) = some (r_, s_) := hm
  refine z_iload_n (pc' := 1) hM287 rfl rfl rfl ?_
  refine z_ifge (pc' := 4) (t := 9) hM287 rfl rfl (fun h1 => ?_) (fun h1 => ?_)
  · replace hm := o_t hm h1
    refine z_iload_n (pc' := 5) hM287 rfl rfl rfl ?_
    obtain ⟨z2, ez2, h3, hm⟩ := o_z hm
    refine z_ineg (pc' := 6) hM287 rfl rfl ez2 h3 ?_
    refine z_goto (t := 10) hM287 rfl ?_
    cases hm
    exact z_retI hM287 rfl rfl ⟨rfl, rfl⟩
  · replace hm := o_f hm h1
    refine z_iload_n (pc' := 10) hM287 rfl rfl rfl ?_
    cases hm
    exact z_retI hM287 rfl rfl ⟨rfl, rfl⟩
def m42 (a0 : Nat) (x1 : Int) (x2 : Int) (s : zS) : Option (Int × zS) := oX x2 8 (oV (s.1 (a0 + 10) x2) fun z1 => oX x1 6 (oV (s.1 (a0 + 13) x1) fun z3 => oZ (z1 - z3) fun z5 => oC (m287 z5 s) fun z7 s8 => some (z7, s8)))
theorem c42 {G : aHp} {d : Nat} (hG : zG G) {a0 : Nat} {x1 : Int} {x2 : Int} {s : zS} {r_ : Int} {s_ : zS} (hm : m42 a0 x1 x2 s = some (r_, s_)) : Zp G (d + 2) 42 0 [some (zr 5 0 a0), some (zi x1), some (zi x2)] [] s (zRet (some (zi r_)) s_) := by
  replace hm : (oX x2 8 (oV (s.1 (a0 + 10) x2) fun z1 => oX x1 6 (oV (s.1 (a0 + 13) x1) fun z3 => oZ (z1 - z3) fun z5 => oC (m287 z5 s) fun z7 s8 => some (z7, s8)))) = some (r_, s_) := hm
  refine z_aload_n (pc' := 1) hM42 rfl rfl rfl ?_
  refine z_fldR (pc' := 4) hM42 rfl (zf_5_6 hG) rfl rfl ?_
  refine z_iload_n (pc' := 5) hM42 rfl rfl rfl ?_
  obtain ⟨h2, hm⟩ := o_x hm
  obtain ⟨z1, ez1, hm⟩ := o_v hm
  refine z_iald (pc' := 6) (zGN hG) hM42 rfl rfl h2 ez1 ?_
  refine z_aload_n (pc' := 7) hM42 rfl rfl rfl ?_
  refine z_fldR (pc' := 10) hM42 rfl (zf_5_9 hG) rfl rfl ?_
  refine z_iload_n (pc' := 11) hM42 rfl rfl rfl ?_
  obtain ⟨h4, hm⟩ := o_x hm
  obtain ⟨z3, ez3, hm⟩ := o_v hm
  refine z_iald (pc' := 12) (zGN hG) hM42 rfl rfl h4 ez3 ?_
  obtain ⟨z5, ez5, h6, hm⟩ := o_z hm
  refine z_isub (pc' := 13) hM42 rfl rfl ez5 h6 ?_
  obtain ⟨z7, s8, h9, hm⟩ := o_c hm
  refine z_cs (d := d + 1) (pc' := 16) hM42 rfl hM287 rfl rfl rfl rfl (c287 (d := d) hG h9) rfl ?_
  cases hm
  exact z_retI hM42 rfl rfl ⟨rfl, rfl⟩
def m21 (x0 : Int) (s : zS) : Option (Int × zS) := oZ (x0 - (10000 : Int)) fun z1 => if z1 < (0 : Int) then some (x0, s) else if z1 < (10 : Int) then oX z1 10 (oV (s.1 11 z1) fun z5 => some (z5, s)) else some ((0 : Int), s)
theorem c21 {G : aHp} {d : Nat} (hG : zG G) {x0 : Int} {s : zS} {r_ : Int} {s_ : zS} (hm : m21 x0 s = some (r_, s_)) : Zp G (d + 1) 21 0 [some (zi x0), some (zr 100 10 11), none] [] s (zRet (some (zi r_)) s_) := by
  replace hm : (oZ (x0 - (10000 : Int)) fun z1 => if z1 < (0 : Int) then some (x0, s) else if z1 < (10 : Int) then oX z1 10 (oV (s.1 11 z1) fun z5 => some (z5, s)) else some ((0 : Int), s)) = some (r_, s_) := hm
  refine z_iload_n (pc' := 1) hM21 rfl rfl rfl ?_
  refine z_sipush (pc' := 4) hM21 rfl rfl rfl ?_
  obtain ⟨z1, ez1, h2, hm⟩ := o_z hm
  refine z_isub (pc' := 5) hM21 rfl rfl ez1 h2 ?_
  refine z_istore_n (pc' := 6) (l' := [some (zi x0), some (zr 100 10 11), some (zi z1)]) hM21 rfl rfl rfl rfl ?_
  refine z_iload_n (pc' := 7) hM21 rfl rfl rfl ?_
  refine z_ifge (pc' := 10) (t := 12) hM21 rfl rfl (fun h3 => ?_) (fun h3 => ?_)
  · replace hm := o_t hm h3
    refine z_iload_n (pc' := 11) hM21 rfl rfl rfl ?_
    cases hm
    exact z_retI hM21 rfl rfl ⟨rfl, rfl⟩
  · replace hm := o_f hm h3
    refine z_iload_n (pc' := 13) hM21 rfl rfl rfl ?_
    refine z_bipush (pc' := 15) hM21 rfl rfl rfl ?_
    refine z_cmpge (pc' := 18) (t := 24) hM21 rfl rfl (fun h4 => ?_) (fun h4 => ?_)
    · replace hm := o_t hm h4
      refine z_aload_n (pc' := 19) hM21 rfl rfl rfl ?_
      refine z_iload_n (pc' := 20) hM21 rfl rfl rfl ?_
      obtain ⟨h6, hm⟩ := o_x hm
      obtain ⟨z5, ez5, hm⟩ := o_v hm
      refine z_iald (pc' := 21) (zGN hG) hM21 rfl rfl h6 ez5 ?_
      refine z_goto (t := 25) hM21 rfl ?_
      cases hm
      exact z_retI hM21 rfl rfl ⟨rfl, rfl⟩
    · replace hm := o_f hm h4
      refine z_iconst (pc' := 25) hM21 rfl rfl rfl ?_
      cases hm
      exact z_retI hM21 rfl rfl ⟨rfl, rfl⟩
def m47 (a0 : Nat) (x1 : Int) (x2 : Int) (s : zS) : Option (Int × zS) := oV (s.1 (a0 + 1) 0) fun z1 => if x1 < (0 : Int) then some ((-1 : Int), s) else if x1 < z1 then if x2 < (0 : Int) then some ((-1 : Int), s) else if x2 < z1 then oZ (x1 * (7 : Int)) fun z6 => oZ (z6 + x2) fun z8 => oX z8 49 (oV (s.1 (a0 + 8) z8) fun z10 => if z10 < (1000 : Int) then some (z10, s) else some ((-1 : Int), s)) else some ((-1 : Int), s) else some ((-1 : Int), s)
theorem c47 {G : aHp} {d : Nat} (hG : zG G) {a0 : Nat} {x1 : Int} {x2 : Int} {s : zS} {r_ : Int} {s_ : zS} (hm : m47 a0 x1 x2 s = some (r_, s_)) : Zp G (d + 1) 47 0 [some (zr 5 0 a0), some (zi x1), some (zi x2), none, none] [] s (zRet (some (zi r_)) s_) := by
  replace hm : (oV (s.1 (a0 + 1) 0) fun z1 => if x1 < (0 : Int) then some ((-1 : Int), s) else if x1 < z1 then if x2 < (0 : Int) then some ((-1 : Int), s) else if x2 < z1 then oZ (x1 * (7 : Int)) fun z6 => oZ (z6 + x2) fun z8 => oX z8 49 (oV (s.1 (a0 + 8) z8) fun z10 => if z10 < (1000 : Int) then some (z10, s) else some ((-1 : Int), s)) else some ((-1 : Int), s) else some ((-1 : Int), s)) = some (r_, s_) := hm
  refine z_aload_n (pc' := 1) hM47 rfl rfl rfl ?_
  refine z_fldR (pc' := 4) hM47 rfl (zf_5_0 hG) rfl rfl ?_
  obtain ⟨z1, ez1, hm⟩ := o_v hm
  refine z_fldI (pc' := 7) hM47 rfl rfl rfl ez1 ?_
  refine z_istore_n (pc' := 8) (l' := [some (zr 5 0 a0), some (zi x1), some (zi x2), some (zi z1), none]) hM47 rfl rfl rfl rfl ?_
  refine z_iload_n (pc' := 9) hM47 rfl rfl rfl ?_
  refine z_iflt (pc' := 12) (t := 26) hM47 rfl rfl (fun h2 => ?_) (fun h2 => ?_)
  · replace hm := o_t hm h2
    refine z_iconst (pc' := 27) hM47 rfl rfl rfl ?_
    cases hm
    exact z_retI hM47 rfl rfl ⟨rfl, rfl⟩
  · replace hm := o_f hm h2
    refine z_iload_n (pc' := 13) hM47 rfl rfl rfl ?_
    refine z_iload_n (pc' := 14) hM47 rfl rfl rfl ?_
    refine z_cmpge (pc' := 17) (t := 26) hM47 rfl rfl (fun h3 => ?_) (fun h3 => ?_)
    · replace hm := o_t hm h3
      refine z_iload_n (pc' := 18) hM47 rfl rfl rfl ?_
      refine z_iflt (pc' := 21) (t := 26) hM47 rfl rfl (fun h4 => ?_) (fun h4 => ?_)
      · replace hm := o_t hm h4
        refine z_iconst (pc' := 27) hM47 rfl rfl rfl ?_
        cases hm
        exact z_retI hM47 rfl rfl ⟨rfl, rfl⟩
      · replace hm := o_f hm h4
        refine z_iload_n (pc' := 22) hM47 rfl rfl rfl ?_
        refine z_iload_n (pc' := 23) hM47 rfl rfl rfl ?_
        refine z_cmplt (pc' := 26) (t := 28) hM47 rfl rfl (fun h5 => ?_) (fun h5 => ?_)
        · replace hm := o_t hm h5
          refine z_aload_n (pc' := 29) hM47 rfl rfl rfl ?_
          refine z_fldR (pc' := 32) hM47 rfl (zf_5_4 hG) rfl rfl ?_
          refine z_iload_n (pc' := 33) hM47 rfl rfl rfl ?_
          refine z_bipush (pc' := 35) hM47 rfl rfl rfl ?_
          obtain ⟨z6, ez6, h7, hm⟩ := o_z hm
          refine z_imul (pc' := 36) hM47 rfl rfl ez6 h7 ?_
          refine z_iload_n (pc' := 37) hM47 rfl rfl rfl ?_
          obtain ⟨z8, ez8, h9, hm⟩ := o_z hm
          refine z_iadd (pc' := 38) hM47 rfl rfl ez8 h9 ?_
          obtain ⟨h11, hm⟩ := o_x hm
          obtain ⟨z10, ez10, hm⟩ := o_v hm
          refine z_iald (pc' := 39) (zGN hG) hM47 rfl rfl h11 ez10 ?_
          refine z_istore (pc' := 41) (l' := [some (zr 5 0 a0), some (zi x1), some (zi x2), some (zi z1), some (zi z10)]) hM47 rfl rfl rfl rfl ?_
          refine z_iload (pc' := 43) hM47 rfl rfl rfl ?_
          refine z_sipush (pc' := 46) hM47 rfl rfl rfl ?_
          refine z_cmplt (pc' := 49) (t := 53) hM47 rfl rfl (fun h12 => ?_) (fun h12 => ?_)
          · replace hm := o_t hm h12
            refine z_iload (pc' := 55) hM47 rfl rfl rfl ?_
            cases hm
            exact z_retI hM47 rfl rfl ⟨rfl, rfl⟩
          · replace hm := o_f hm h12
            refine z_iconst (pc' := 50) hM47 rfl rfl rfl ?_
            refine z_goto (t := 55) hM47 rfl ?_
            cases hm
            exact z_retI hM47 rfl rfl ⟨rfl, rfl⟩
        · replace hm := o_f hm h5
          refine z_iconst (pc' := 27) hM47 rfl rfl rfl ?_
          cases hm
          exact z_retI hM47 rfl rfl ⟨rfl, rfl⟩
    · replace hm := o_f hm h3
      refine z_iconst (pc' := 27) hM47 rfl rfl rfl ?_
      cases hm
      exact z_retI hM47 rfl rfl ⟨rfl, rfl⟩
def m290 (x0 : Int) (x1 : Int) (s : zS) : Option (Int × zS) := if x1 < x0 then some (x1, s) else some (x0, s)
theorem c290 {G : aHp} {d : Nat} (hG : zG G) {x0 : Int} {x1 : Int} {s : zS} {r_ : Int} {s_ : zS} (hm : m290 x0 x1 s = some (r_, s_)) : Zp G (d + 1) 290 0 [some (zi x0), some (zi x1)] [] s (zRet (some (zi r_)) s_) := by
  replace hm : (if x1 < x0 then some (x1, s) else some (x0, s)) = some (r_, s_) := hm
  refine z_iload_n (pc' := 1) hM290 rfl rfl rfl ?_
  refine z_iload_n (pc' := 2) hM290 rfl rfl rfl ?_
  refine z_cmpgt (pc' := 5) (t := 9) hM290 rfl rfl (fun h1 => ?_) (fun h1 => ?_)
  · replace hm := o_t hm h1
    refine z_iload_n (pc' := 10) hM290 rfl rfl rfl ?_
    cases hm
    exact z_retI hM290 rfl rfl ⟨rfl, rfl⟩
  · replace hm := o_f hm h1
    refine z_iload_n (pc' := 6) hM290 rfl rfl rfl ?_
    refine z_goto (t := 10) hM290 rfl ?_
    cases hm
    exact z_retI hM290 rfl rfl ⟨rfl, rfl⟩
def m288 (x0 : Int) (x1 : Int) (s : zS) : Option (Int × zS) := if x0 < x1 then some (x1, s) else some (x0, s)
theorem c288 {G : aHp} {d : Nat} (hG : zG G) {x0 : Int} {x1 : Int} {s : zS} {r_ : Int} {s_ : zS} (hm : m288 x0 x1 s = some (r_, s_)) : Zp G (d + 1) 288 0 [some (zi x0), some (zi x1)] [] s (zRet (some (zi r_)) s_) := by
  replace hm : (if x0 < x1 then some (x1, s) else some (x0, s)) = some (r_, s_) := hm
  refine z_iload_n (pc' := 1) hM288 rfl rfl rfl ?_
  refine z_iload_n (pc' := 2) hM288 rfl rfl rfl ?_
  refine z_cmplt (pc' := 5) (t := 9) hM288 rfl rfl (fun h1 => ?_) (fun h1 => ?_)
  · replace hm := o_t hm h1
    refine z_iload_n (pc' := 10) hM288 rfl rfl rfl ?_
    cases hm
    exact z_retI hM288 rfl rfl ⟨rfl, rfl⟩
  · replace hm := o_f hm h1
    refine z_iload_n (pc' := 6) hM288 rfl rfl rfl ?_
    refine z_goto (t := 10) hM288 rfl ?_
    cases hm
    exact z_retI hM288 rfl rfl ⟨rfl, rfl⟩
def m291 (x0 : Int) (x2 : Int) (s : zS) : Option (Int × zS) := oV (zCmp x0 x2) fun z1 => if (0 : Int) < z1 then some (x2, s) else some (x0, s)
theorem c291 {G : aHp} {d : Nat} (hG : zG G) {x0 : Int} {x2 : Int} {s : zS} {r_ : Int} {s_ : zS} (hm : m291 x0 x2 s = some (r_, s_)) : Zp G (d + 1) 291 0 [some (zj x0), none, some (zj x2), none] [] s (zRet (some (zj r_)) s_) := by
  replace hm : (oV (zCmp x0 x2) fun z1 => if (0 : Int) < z1 then some (x2, s) else some (x0, s)) = some (r_, s_) := hm
  refine z_lload_n (pc' := 1) hM291 rfl rfl rfl ?_
  refine z_lload_n (pc' := 2) hM291 rfl rfl rfl ?_
  obtain ⟨z1, ez1, hm⟩ := o_v hm
  refine z_lcmp (pc' := 3) hM291 rfl rfl ez1 ?_
  refine z_ifgt (pc' := 6) (t := 10) hM291 rfl rfl (fun h2 => ?_) (fun h2 => ?_)
  · replace hm := o_t hm h2
    refine z_lload_n (pc' := 11) hM291 rfl rfl rfl ?_
    cases hm
    exact z_retJ hM291 rfl rfl ⟨rfl, rfl⟩
  · replace hm := o_f hm h2
    refine z_lload_n (pc' := 7) hM291 rfl rfl rfl ?_
    refine z_goto (t := 11) hM291 rfl ?_
    cases hm
    exact z_retJ hM291 rfl rfl ⟨rfl, rfl⟩
def m289 (x0 : Int) (x2 : Int) (s : zS) : Option (Int × zS) := oV (zCmp x0 x2) fun z1 => if z1 < (0 : Int) then some (x2, s) else some (x0, s)
theorem c289 {G : aHp} {d : Nat} (hG : zG G) {x0 : Int} {x2 : Int} {s : zS} {r_ : Int} {s_ : zS} (hm : m289 x0 x2 s = some (r_, s_)) : Zp G (d + 1) 289 0 [some (zj x0), none, some (zj x2), none] [] s (zRet (some (zj r_)) s_) := by
  replace hm : (oV (zCmp x0 x2) fun z1 => if z1 < (0 : Int) then some (x2, s) else some (x0, s)) = some (r_, s_) := hm
  refine z_lload_n (pc' := 1) hM289 rfl rfl rfl ?_
  refine z_lload_n (pc' := 2) hM289 rfl rfl rfl ?_
  obtain ⟨z1, ez1, hm⟩ := o_v hm
  refine z_lcmp (pc' := 3) hM289 rfl rfl ez1 ?_
  refine z_iflt (pc' := 6) (t := 10) hM289 rfl rfl (fun h2 => ?_) (fun h2 => ?_)
  · replace hm := o_t hm h2
    refine z_lload_n (pc' := 11) hM289 rfl rfl rfl ?_
    cases hm
    exact z_retJ hM289 rfl rfl ⟨rfl, rfl⟩
  · replace hm := o_f hm h2
    refine z_lload_n (pc' := 7) hM289 rfl rfl rfl ?_
    refine z_goto (t := 11) hM289 rfl ?_
    cases hm
    exact z_retJ hM289 rfl rfl ⟨rfl, rfl⟩
def m286 (x0 : Int) (x1 : Int) (s : zS) : Option (Int × zS) := oN x1 (oZ (Int.tdiv x0 x1) fun z1 => oV (zXor x0 x1) fun z3 => if z3 < (0 : Int) then oZ (z1 * x1) fun z5 => if z5 = x0 then some (z1, s) else oZ (z1 - (1 : Int)) fun z8 => some (z8, s) else some (z1, s))
theorem c286 {G : aHp} {d : Nat} (hG : zG G) {x0 : Int} {x1 : Int} {s : zS} {r_ : Int} {s_ : zS} (hm : m286 x0 x1 s = some (r_, s_)) : Zp G (d + 1) 286 0 [some (zi x0), some (zi x1), none] [] s (zRet (some (zi r_)) s_) := by
  replace hm : (oN x1 (oZ (Int.tdiv x0 x1) fun z1 => oV (zXor x0 x1) fun z3 => if z3 < (0 : Int) then oZ (z1 * x1) fun z5 => if z5 = x0 then some (z1, s) else oZ (z1 - (1 : Int)) fun z8 => some (z8, s) else some (z1, s))) = some (r_, s_) := hm
  refine z_iload_n (pc' := 1) hM286 rfl rfl rfl ?_
  refine z_iload_n (pc' := 2) hM286 rfl rfl rfl ?_
  obtain ⟨nz1, hm⟩ := o_n hm
  obtain ⟨z1, ez1, h2, hm⟩ := o_z hm
  refine z_idiv (pc' := 3) hM286 rfl rfl nz1 ez1 h2 ?_
  refine z_istore_n (pc' := 4) (l' := [some (zi x0), some (zi x1), some (zi z1)]) hM286 rfl rfl rfl rfl ?_
  refine z_iload_n (pc' := 5) hM286 rfl rfl rfl ?_
  refine z_iload_n (pc' := 6) hM286 rfl rfl rfl ?_
  obtain ⟨z3, ez3, hm⟩ := o_v hm
  refine z_ixor (pc' := 7) hM286 rfl rfl ez3 ?_
  refine z_ifge (pc' := 10) (t := 21) hM286 rfl rfl (fun h4 => ?_) (fun h4 => ?_)
  · replace hm := o_t hm h4
    refine z_iload_n (pc' := 11) hM286 rfl rfl rfl ?_
    refine z_iload_n (pc' := 12) hM286 rfl rfl rfl ?_
    obtain ⟨z5, ez5, h6, hm⟩ := o_z hm
    refine z_imul (pc' := 13) hM286 rfl rfl ez5 h6 ?_
    refine z_iload_n (pc' := 14) hM286 rfl rfl rfl ?_
    refine z_cmpeq (pc' := 17) (t := 21) hM286 rfl rfl (fun h7 => ?_) (fun h7 => ?_)
    · replace hm := o_t hm h7
      refine z_iload_n (pc' := 22) hM286 rfl rfl rfl ?_
      cases hm
      exact z_retI hM286 rfl rfl ⟨rfl, rfl⟩
    · replace hm := o_f hm h7
      refine z_iload_n (pc' := 18) hM286 rfl rfl rfl ?_
      refine z_iconst (pc' := 19) hM286 rfl rfl rfl ?_
      obtain ⟨z8, ez8, h9, hm⟩ := o_z hm
      refine z_isub (pc' := 20) hM286 rfl rfl ez8 h9 ?_
      cases hm
      exact z_retI hM286 rfl rfl ⟨rfl, rfl⟩
  · replace hm := o_f hm h4
    refine z_iload_n (pc' := 22) hM286 rfl rfl rfl ?_
    cases hm
    exact z_retI hM286 rfl rfl ⟨rfl, rfl⟩
def m22 (x0 : Int) (x1 : Int) (x2 : Int) (s : zS) : Option (Int × zS) := if x0 = (20001 : Int) then oZ (x1 - x2) fun z2 => oC (m290 (1000000 : Int) z2 s) fun z4 s5 => oC (m288 (-1000000 : Int) z4 s5) fun z7 s8 => some (z7, s8) else if x0 = (20002 : Int) then oJ (x1 * x2) fun z11 => oC (m291 (1000000 : Int) z11 s) fun z13 s14 => oC (m289 (-1000000 : Int) z13 s14) fun z16 s17 => oZ z16 fun z19 => some (z19, s17) else if x0 = (20003 : Int) then if x2 = (0 : Int) then some ((0 : Int), s) else oC (m286 x1 x2 s) fun z23 s24 => some (z23, s24) else if x0 = (20004 : Int) then oC (m290 x1 x2 s) fun z27 s28 => some (z27, s28) else if x0 = (20005 : Int) then oC (m288 x1 x2 s) fun z31 s32 => some (z31, s32) else if x0 = (20006 : Int) then if x1 < x2 then some ((1 : Int), s) else some ((0 : Int), s) else if x0 = (20007 : Int) then if x2 < x1 then some ((1 : Int), s) else some ((0 : Int), s) else if x0 = (20008 : Int) then if x1 = x2 then some ((1 : Int), s) else some ((0 : Int), s) else if x0 = (20009 : Int) then oV (zAnd x1 x2) fun z41 => some (z41, s) else if x0 = (20010 : Int) then oV (zOr x1 x2) fun z43 => some (z43, s) else oZ (x1 + x2) fun z44 => oC (m290 (1000000 : Int) z44 s) fun z46 s47 => oC (m288 (-1000000 : Int) z46 s47) fun z49 s50 => some (z49, s50)
theorem c22 {G : aHp} {d : Nat} (hG : zG G) {x0 : Int} {x1 : Int} {x2 : Int} {s : zS} {r_ : Int} {s_ : zS} (hm : m22 x0 x1 x2 s = some (r_, s_)) : Zp G (d + 2) 22 0 [some (zi x0), some (zi x1), some (zi x2)] [] s (zRet (some (zi r_)) s_) := by
  replace hm : (if x0 = (20001 : Int) then oZ (x1 - x2) fun z2 => oC (m290 (1000000 : Int) z2 s) fun z4 s5 => oC (m288 (-1000000 : Int) z4 s5) fun z7 s8 => some (z7, s8) else if x0 = (20002 : Int) then oJ (x1 * x2) fun z11 => oC (m291 (1000000 : Int) z11 s) fun z13 s14 => oC (m289 (-1000000 : Int) z13 s14) fun z16 s17 => oZ z16 fun z19 => some (z19, s17) else if x0 = (20003 : Int) then if x2 = (0 : Int) then some ((0 : Int), s) else oC (m286 x1 x2 s) fun z23 s24 => some (z23, s24) else if x0 = (20004 : Int) then oC (m290 x1 x2 s) fun z27 s28 => some (z27, s28) else if x0 = (20005 : Int) then oC (m288 x1 x2 s) fun z31 s32 => some (z31, s32) else if x0 = (20006 : Int) then if x1 < x2 then some ((1 : Int), s) else some ((0 : Int), s) else if x0 = (20007 : Int) then if x2 < x1 then some ((1 : Int), s) else some ((0 : Int), s) else if x0 = (20008 : Int) then if x1 = x2 then some ((1 : Int), s) else some ((0 : Int), s) else if x0 = (20009 : Int) then oV (zAnd x1 x2) fun z41 => some (z41, s) else if x0 = (20010 : Int) then oV (zOr x1 x2) fun z43 => some (z43, s) else oZ (x1 + x2) fun z44 => oC (m290 (1000000 : Int) z44 s) fun z46 s47 => oC (m288 (-1000000 : Int) z46 s47) fun z49 s50 => some (z49, s50)) = some (r_, s_) := hm
  refine z_iload_n (pc' := 1) hM22 rfl rfl rfl ?_
  refine (Decidable.em (x0 = (20001 : Int))).elim (fun h1 => ?_) (fun h1 => ?_)
  · replace hm := o_t hm h1
    refine z_swT (t := 56) (c := (20001 : Int)) hM22 rfl h1 (by decide) rfl rfl ?_
    refine z_ldc (pc' := 58) hM22 rfl rfl rfl ?_
    refine z_ldc (pc' := 60) hM22 rfl rfl rfl ?_
    refine z_iload_n (pc' := 61) hM22 rfl rfl rfl ?_
    refine z_iload_n (pc' := 62) hM22 rfl rfl rfl ?_
    obtain ⟨z2, ez2, h3, hm⟩ := o_z hm
    refine z_isub (pc' := 63) hM22 rfl rfl ez2 h3 ?_
    obtain ⟨z4, s5, h6, hm⟩ := o_c hm
    refine z_cs (d := d + 1) (pc' := 66) hM22 rfl hM290 rfl rfl rfl rfl (c290 (d := d) hG h6) rfl ?_
    obtain ⟨z7, s8, h9, hm⟩ := o_c hm
    refine z_cs (d := d + 1) (pc' := 69) hM22 rfl hM288 rfl rfl rfl rfl (c288 (d := d) hG h9) rfl ?_
    cases hm
    exact z_retI hM22 rfl rfl ⟨rfl, rfl⟩
  replace hm := o_f hm h1
  refine (Decidable.em (x0 = (20002 : Int))).elim (fun h10 => ?_) (fun h10 => ?_)
  · replace hm := o_t hm h10
    refine z_swT (t := 70) (c := (20002 : Int)) hM22 rfl h10 (by decide) rfl rfl ?_
    refine z_ldc2 (pc' := 73) hM22 rfl rfl rfl ?_
    refine z_ldc2 (pc' := 76) hM22 rfl rfl rfl ?_
    refine z_iload_n (pc' := 77) hM22 rfl rfl rfl ?_
    refine z_i2l (pc' := 78) hM22 rfl rfl ?_
    refine z_iload_n (pc' := 79) hM22 rfl rfl rfl ?_
    refine z_i2l (pc' := 80) hM22 rfl rfl ?_
    obtain ⟨z11, ez11, h12, hm⟩ := o_j hm
    refine z_lmul (pc' := 81) hM22 rfl rfl ez11 h12 ?_
    obtain ⟨z13, s14, h15, hm⟩ := o_c hm
    refine z_cs (d := d + 1) (pc' := 84) hM22 rfl hM291 rfl rfl rfl rfl (c291 (d := d) hG h15) rfl ?_
    obtain ⟨z16, s17, h18, hm⟩ := o_c hm
    refine z_cs (d := d + 1) (pc' := 87) hM22 rfl hM289 rfl rfl rfl rfl (c289 (d := d) hG h18) rfl ?_
    obtain ⟨z19, ez19, h20, hm⟩ := o_z hm
    refine z_l2i (pc' := 88) hM22 rfl rfl ez19 h20 ?_
    cases hm
    exact z_retI hM22 rfl rfl ⟨rfl, rfl⟩
  replace hm := o_f hm h10
  refine (Decidable.em (x0 = (20003 : Int))).elim (fun h21 => ?_) (fun h21 => ?_)
  · replace hm := o_t hm h21
    refine z_swT (t := 89) (c := (20003 : Int)) hM22 rfl h21 (by decide) rfl rfl ?_
    refine z_iload_n (pc' := 90) hM22 rfl rfl rfl ?_
    refine z_ifne (pc' := 93) (t := 97) hM22 rfl rfl (fun h22 => ?_) (fun h22 => ?_)
    · replace hm := o_t hm h22
      refine z_iconst (pc' := 94) hM22 rfl rfl rfl ?_
      refine z_goto (t := 102) hM22 rfl ?_
      cases hm
      exact z_retI hM22 rfl rfl ⟨rfl, rfl⟩
    · replace hm := o_f hm h22
      refine z_iload_n (pc' := 98) hM22 rfl rfl rfl ?_
      refine z_iload_n (pc' := 99) hM22 rfl rfl rfl ?_
      obtain ⟨z23, s24, h25, hm⟩ := o_c hm
      refine z_cs (d := d + 1) (pc' := 102) hM22 rfl hM286 rfl rfl rfl rfl (c286 (d := d) hG h25) rfl ?_
      cases hm
      exact z_retI hM22 rfl rfl ⟨rfl, rfl⟩
  replace hm := o_f hm h21
  refine (Decidable.em (x0 = (20004 : Int))).elim (fun h26 => ?_) (fun h26 => ?_)
  · replace hm := o_t hm h26
    refine z_swT (t := 103) (c := (20004 : Int)) hM22 rfl h26 (by decide) rfl rfl ?_
    refine z_iload_n (pc' := 104) hM22 rfl rfl rfl ?_
    refine z_iload_n (pc' := 105) hM22 rfl rfl rfl ?_
    obtain ⟨z27, s28, h29, hm⟩ := o_c hm
    refine z_cs (d := d + 1) (pc' := 108) hM22 rfl hM290 rfl rfl rfl rfl (c290 (d := d) hG h29) rfl ?_
    cases hm
    exact z_retI hM22 rfl rfl ⟨rfl, rfl⟩
  replace hm := o_f hm h26
  refine (Decidable.em (x0 = (20005 : Int))).elim (fun h30 => ?_) (fun h30 => ?_)
  · replace hm := o_t hm h30
    refine z_swT (t := 109) (c := (20005 : Int)) hM22 rfl h30 (by decide) rfl rfl ?_
    refine z_iload_n (pc' := 110) hM22 rfl rfl rfl ?_
    refine z_iload_n (pc' := 111) hM22 rfl rfl rfl ?_
    obtain ⟨z31, s32, h33, hm⟩ := o_c hm
    refine z_cs (d := d + 1) (pc' := 114) hM22 rfl hM288 rfl rfl rfl rfl (c288 (d := d) hG h33) rfl ?_
    cases hm
    exact z_retI hM22 rfl rfl ⟨rfl, rfl⟩
  replace hm := o_f hm h30
  refine (Decidable.em (x0 = (20006 : Int))).elim (fun h34 => ?_) (fun h34 => ?_)
  · replace hm := o_t hm h34
    refine z_swT (t := 115) (c := (20006 : Int)) hM22 rfl h34 (by decide) rfl rfl ?_
    refine z_iload_n (pc' := 116) hM22 rfl rfl rfl ?_
    refine z_iload_n (pc' := 117) hM22 rfl rfl rfl ?_
    refine z_cmpge (pc' := 120) (t := 124) hM22 rfl rfl (fun h35 => ?_) (fun h35 => ?_)
    · replace hm := o_t hm h35
      refine z_iconst (pc' := 121) hM22 rfl rfl rfl ?_
      refine z_goto (t := 125) hM22 rfl ?_
      cases hm
      exact z_retI hM22 rfl rfl ⟨rfl, rfl⟩
    · replace hm := o_f hm h35
      refine z_iconst (pc' := 125) hM22 rfl rfl rfl ?_
      cases hm
      exact z_retI hM22 rfl rfl ⟨rfl, rfl⟩
  replace hm := o_f hm h34
  refine (Decidable.em (x0 = (20007 : Int))).elim (fun h36 => ?_) (fun h36 => ?_)
  · replace hm := o_t hm h36
    refine z_swT (t := 126) (c := (20007 : Int)) hM22 rfl h36 (by decide) rfl rfl ?_
    refine z_iload_n (pc' := 127) hM22 rfl rfl rfl ?_
    refine z_iload_n (pc' := 128) hM22 rfl rfl rfl ?_
    refine z_cmple (pc' := 131) (t := 135) hM22 rfl rfl (fun h37 => ?_) (fun h37 => ?_)
    · replace hm := o_t hm h37
      refine z_iconst (pc' := 132) hM22 rfl rfl rfl ?_
      refine z_goto (t := 136) hM22 rfl ?_
      cases hm
      exact z_retI hM22 rfl rfl ⟨rfl, rfl⟩
    · replace hm := o_f hm h37
      refine z_iconst (pc' := 136) hM22 rfl rfl rfl ?_
      cases hm
      exact z_retI hM22 rfl rfl ⟨rfl, rfl⟩
  replace hm := o_f hm h36
  refine (Decidable.em (x0 = (20008 : Int))).elim (fun h38 => ?_) (fun h38 => ?_)
  · replace hm := o_t hm h38
    refine z_swT (t := 137) (c := (20008 : Int)) hM22 rfl h38 (by decide) rfl rfl ?_
    refine z_iload_n (pc' := 138) hM22 rfl rfl rfl ?_
    refine z_iload_n (pc' := 139) hM22 rfl rfl rfl ?_
    refine z_cmpne (pc' := 142) (t := 146) hM22 rfl rfl (fun h39 => ?_) (fun h39 => ?_)
    · replace hm := o_t hm h39
      refine z_iconst (pc' := 143) hM22 rfl rfl rfl ?_
      refine z_goto (t := 147) hM22 rfl ?_
      cases hm
      exact z_retI hM22 rfl rfl ⟨rfl, rfl⟩
    · replace hm := o_f hm h39
      refine z_iconst (pc' := 147) hM22 rfl rfl rfl ?_
      cases hm
      exact z_retI hM22 rfl rfl ⟨rfl, rfl⟩
  replace hm := o_f hm h38
  refine (Decidable.em (x0 = (20009 : Int))).elim (fun h40 => ?_) (fun h40 => ?_)
  · replace hm := o_t hm h40
    refine z_swT (t := 148) (c := (20009 : Int)) hM22 rfl h40 (by decide) rfl rfl ?_
    refine z_iload_n (pc' := 149) hM22 rfl rfl rfl ?_
    refine z_iload_n (pc' := 150) hM22 rfl rfl rfl ?_
    obtain ⟨z41, ez41, hm⟩ := o_v hm
    refine z_iand (pc' := 151) hM22 rfl rfl ez41 ?_
    cases hm
    exact z_retI hM22 rfl rfl ⟨rfl, rfl⟩
  replace hm := o_f hm h40
  refine (Decidable.em (x0 = (20010 : Int))).elim (fun h42 => ?_) (fun h42 => ?_)
  · replace hm := o_t hm h42
    refine z_swT (t := 152) (c := (20010 : Int)) hM22 rfl h42 (by decide) rfl rfl ?_
    refine z_iload_n (pc' := 153) hM22 rfl rfl rfl ?_
    refine z_iload_n (pc' := 154) hM22 rfl rfl rfl ?_
    obtain ⟨z43, ez43, hm⟩ := o_v hm
    refine z_ior (pc' := 155) hM22 rfl rfl ez43 ?_
    cases hm
    exact z_retI hM22 rfl rfl ⟨rfl, rfl⟩
  replace hm := o_f hm h42
  refine z_swF (t := 156) hM22 rfl (by omega) rfl ?_
  refine z_ldc (pc' := 158) hM22 rfl rfl rfl ?_
  refine z_ldc (pc' := 160) hM22 rfl rfl rfl ?_
  refine z_iload_n (pc' := 161) hM22 rfl rfl rfl ?_
  refine z_iload_n (pc' := 162) hM22 rfl rfl rfl ?_
  obtain ⟨z44, ez44, h45, hm⟩ := o_z hm
  refine z_iadd (pc' := 163) hM22 rfl rfl ez44 h45 ?_
  obtain ⟨z46, s47, h48, hm⟩ := o_c hm
  refine z_cs (d := d + 1) (pc' := 166) hM22 rfl hM290 rfl rfl rfl rfl (c290 (d := d) hG h48) rfl ?_
  obtain ⟨z49, s50, h51, hm⟩ := o_c hm
  refine z_cs (d := d + 1) (pc' := 169) hM22 rfl hM288 rfl rfl rfl rfl (c288 (d := d) hG h51) rfl ?_
  cases hm
  exact z_retI hM22 rfl rfl ⟨rfl, rfl⟩
def m20_71 (k5_ : Nat → Nat → Int → Int → zS → Option (Int × zS)) (a0 : Nat) (a2 : Nat) (x3 : Int) (x4 : Int) (x5 : Int) (s : zS) : Option (Int × zS) := if (0 : Int) < x3 then oZ (x3 - (1 : Int)) fun z2 => oX z2 64 (oV (s.1 (a0 + 2) z2) fun z4 => oZ (x3 - (1 : Int)) fun z6 => if x5 = (20012 : Int) then oX (9 : Int) 10 (oV (s.1 11 (9 : Int)) fun z9 => oC (m47 a2 z9 z4 s) fun z11 s12 => oX z6 64 (oV (sI s12 (a0 + 2) z6 z11) fun s14 => oZ (x4 + (1 : Int)) fun z16 => k5_ a0 a2 x3 z16 s14)) else oZ ((1 : Int) - z4) fun z18 => oX z6 64 (oV (sI s (a0 + 2) z6 z18) fun s20 => oZ (x4 + (1 : Int)) fun z22 => k5_ a0 a2 x3 z22 s20)) else oZ (x4 + (1 : Int)) fun z24 => k5_ a0 a2 x3 z24 s
set_option maxRecDepth 20000 in
theorem c20_71 {G : aHp} {d : Nat} {k5_ : Nat → Nat → Int → Int → zS → Option (Int × zS)} (hG : zG G) (hk5 : ∀ {a0 : Nat} {a2 : Nat} {x3 : Int} {x4 : Int} {d5 d6 : Option zV} {s : zS} {r_ : Int} {s_ : zS}, k5_ a0 a2 x3 x4 s = some (r_, s_) → Zp G (d + 3) 20 5 [some (zr 3 0 a0), some (zr 100 10 11), some (zr 5 0 a2), some (zi x3), some (zi x4), d5, d6] [] s (zRet (some (zi r_)) s_)) {a0 : Nat} {a2 : Nat} {x3 : Int} {x4 : Int} {x5 : Int} {d6 : Option zV} {s : zS} {r_ : Int} {s_ : zS} (hm : m20_71 k5_ a0 a2 x3 x4 x5 s = some (r_, s_)) : Zp G (d + 3) 20 71 [some (zr 3 0 a0), some (zr 100 10 11), some (zr 5 0 a2), some (zi x3), some (zi x4), some (zi x5), d6] [] s (zRet (some (zi r_)) s_) := by
  replace hm : (if (0 : Int) < x3 then oZ (x3 - (1 : Int)) fun z2 => oX z2 64 (oV (s.1 (a0 + 2) z2) fun z4 => oZ (x3 - (1 : Int)) fun z6 => if x5 = (20012 : Int) then oX (9 : Int) 10 (oV (s.1 11 (9 : Int)) fun z9 => oC (m47 a2 z9 z4 s) fun z11 s12 => oX z6 64 (oV (sI s12 (a0 + 2) z6 z11) fun s14 => oZ (x4 + (1 : Int)) fun z16 => k5_ a0 a2 x3 z16 s14)) else oZ ((1 : Int) - z4) fun z18 => oX z6 64 (oV (sI s (a0 + 2) z6 z18) fun s20 => oZ (x4 + (1 : Int)) fun z22 => k5_ a0 a2 x3 z22 s20)) else oZ (x4 + (1 : Int)) fun z24 => k5_ a0 a2 x3 z24 s) = some (r_, s_) := hm
  refine z_iload_n (pc' := 72) hM20 rfl rfl rfl ?_
  refine z_ifle (pc' := 75) (t := 156) hM20 rfl rfl (fun h1 => ?_) (fun h1 => ?_)
  · replace hm := o_t hm h1
    refine z_aload_n (pc' := 76) hM20 rfl rfl rfl ?_
    refine z_fldR (pc' := 79) hM20 rfl (zf_3_1 hG) rfl rfl ?_
    refine z_iload_n (pc' := 80) hM20 rfl rfl rfl ?_
    refine z_iconst (pc' := 81) hM20 rfl rfl rfl ?_
    obtain ⟨z2, ez2, h3, hm⟩ := o_z hm
    refine z_isub (pc' := 82) hM20 rfl rfl ez2 h3 ?_
    obtain ⟨h5, hm⟩ := o_x hm
    obtain ⟨z4, ez4, hm⟩ := o_v hm
    refine z_iald (pc' := 83) (zGN hG) hM20 rfl rfl h5 ez4 ?_
    refine z_istore (pc' := 85) (l' := [some (zr 3 0 a0), some (zr 100 10 11), some (zr 5 0 a2), some (zi x3), some (zi x4), some (zi x5), some (zi z4)]) hM20 rfl rfl rfl rfl ?_
    refine z_aload_n (pc' := 86) hM20 rfl rfl rfl ?_
    refine z_fldR (pc' := 89) hM20 rfl (zf_3_1 hG) rfl rfl ?_
    refine z_iload_n (pc' := 90) hM20 rfl rfl rfl ?_
    refine z_iconst (pc' := 91) hM20 rfl rfl rfl ?_
    obtain ⟨z6, ez6, h7, hm⟩ := o_z hm
    refine z_isub (pc' := 92) hM20 rfl rfl ez6 h7 ?_
    refine z_iload (pc' := 94) hM20 rfl rfl rfl ?_
    refine z_sipush (pc' := 97) hM20 rfl rfl rfl ?_
    refine z_cmpne (pc' := 100) (t := 113) hM20 rfl rfl (fun h8 => ?_) (fun h8 => ?_)
    · replace hm := o_t hm h8
      refine z_aload_n (pc' := 101) hM20 rfl rfl rfl ?_
      refine z_aload_n (pc' := 102) hM20 rfl rfl rfl ?_
      refine z_bipush (pc' := 104) hM20 rfl rfl rfl ?_
      obtain ⟨h10, hm⟩ := o_x hm
      obtain ⟨z9, ez9, hm⟩ := o_v hm
      refine z_iald (pc' := 105) (zGN hG) hM20 rfl rfl h10 ez9 ?_
      refine z_iload (pc' := 107) hM20 rfl rfl rfl ?_
      obtain ⟨z11, s12, h13, hm⟩ := o_c hm
      refine z_cv (d := d + 2) (pc' := 110) hM20 rfl hM47 rfl rfl rfl rfl rfl rfl (c47 (d := d + 1) hG h13) rfl ?_
      refine z_goto (t := 117) hM20 rfl ?_
      obtain ⟨h15, hm⟩ := o_x hm
      obtain ⟨s14, es14, hm⟩ := o_v hm
      refine z_iast (pc' := 118) hM20 rfl rfl h15 es14 ?_
      refine z_goto (t := 156) hM20 rfl ?_
      obtain ⟨z16, ez16, h17, hm⟩ := o_z hm
      refine z_iinc (pc' := 159) (l' := [some (zr 3 0 a0), some (zr 100 10 11), some (zr 5 0 a2), some (zi x3), some (zi z16), some (zi x5), some (zi z4)]) hM20 rfl rfl rfl ez16 h17 rfl rfl ?_
      refine z_goto (t := 5) hM20 rfl ?_
      exact hk5 hm
    · replace hm := o_f hm h8
      refine z_iconst (pc' := 114) hM20 rfl rfl rfl ?_
      refine z_iload (pc' := 116) hM20 rfl rfl rfl ?_
      obtain ⟨z18, ez18, h19, hm⟩ := o_z hm
      refine z_isub (pc' := 117) hM20 rfl rfl ez18 h19 ?_
      obtain ⟨h21, hm⟩ := o_x hm
      obtain ⟨s20, es20, hm⟩ := o_v hm
      refine z_iast (pc' := 118) hM20 rfl rfl h21 es20 ?_
      refine z_goto (t := 156) hM20 rfl ?_
      obtain ⟨z22, ez22, h23, hm⟩ := o_z hm
      refine z_iinc (pc' := 159) (l' := [some (zr 3 0 a0), some (zr 100 10 11), some (zr 5 0 a2), some (zi x3), some (zi z22), some (zi x5), some (zi z4)]) hM20 rfl rfl rfl ez22 h23 rfl rfl ?_
      refine z_goto (t := 5) hM20 rfl ?_
      exact hk5 hm
  · replace hm := o_f hm h1
    obtain ⟨z24, ez24, h25, hm⟩ := o_z hm
    refine z_iinc (pc' := 159) (l' := [some (zr 3 0 a0), some (zr 100 10 11), some (zr 5 0 a2), some (zi x3), some (zi z24), some (zi x5), d6]) hM20 rfl rfl rfl ez24 h25 rfl rfl ?_
    refine z_goto (t := 5) hM20 rfl ?_
    exact hk5 hm
def m20_5 : Nat → Nat → Nat → Int → Int → zS → Option (Int × zS)
  | 0, _, _, _, _, _ => none
  | n + 1, a0, a2, x3, x4, s => oV (s.1 a0 2) fun z1 => if x4 < z1 then oX x4 1600 (oV (s.1 (a0 + 1) x4) fun z3 => if z3 < (20000 : Int) then if x3 < (64 : Int) then oC (m21 z3 s) fun z7 s8 => oX x3 64 (oV (sI s8 (a0 + 2) x3 z7) fun s10 => oZ (x3 + (1 : Int)) fun z12 => oZ (x4 + (1 : Int)) fun z14 => m20_5 n a0 a2 z12 z14 s10) else oZ (x4 + (1 : Int)) fun z16 => m20_5 n a0 a2 x3 z16 s else if z3 = (20011 : Int) then m20_71 (m20_5 n) a0 a2 x3 x4 z3 s else if z3 = (20012 : Int) then m20_71 (m20_5 n) a0 a2 x3 x4 z3 s else if (1 : Int) < x3 then oZ (x3 + (-1 : Int)) fun z21 => oZ (z21 - (1 : Int)) fun z23 => oZ (z21 - (1 : Int)) fun z25 => oX z25 64 (oV (s.1 (a0 + 2) z25) fun z27 => oX z21 64 (oV (s.1 (a0 + 2) z21) fun z29 => oC (m22 z3 z27 z29 s) fun z31 s32 => oX z23 64 (oV (sI s32 (a0 + 2) z23 z31) fun s34 => oZ (x4 + (1 : Int)) fun z36 => m20_5 n a0 a2 z21 z36 s34))) else oZ (x4 + (1 : Int)) fun z38 => m20_5 n a0 a2 x3 z38 s) else if (0 : Int) < x3 then oZ (x3 - (1 : Int)) fun z41 => oX z41 64 (oV (s.1 (a0 + 2) z41) fun z43 => some (z43, s)) else some ((0 : Int), s)
set_option maxRecDepth 20000 in
theorem c20_5 {G : aHp} {d : Nat} (hG : zG G) : ∀ {n : Nat} {a0 : Nat} {a2 : Nat} {x3 : Int} {x4 : Int} {d5 d6 : Option zV} {s : zS} {r_ : Int} {s_ : zS}, m20_5 n a0 a2 x3 x4 s = some (r_, s_) → Zp G (d + 3) 20 5 [some (zr 3 0 a0), some (zr 100 10 11), some (zr 5 0 a2), some (zi x3), some (zi x4), d5, d6] [] s (zRet (some (zi r_)) s_) := by
  intro n
  induction n with
  | zero => intro a0 a2 x3 x4 d5 d6 s r_ s_ hm; cases hm
  | succ n ih =>
  intro a0 a2 x3 x4 d5 d6 s r_ s_ hm
  replace hm : (oV (s.1 a0 2) fun z1 => if x4 < z1 then oX x4 1600 (oV (s.1 (a0 + 1) x4) fun z3 => if z3 < (20000 : Int) then if x3 < (64 : Int) then oC (m21 z3 s) fun z7 s8 => oX x3 64 (oV (sI s8 (a0 + 2) x3 z7) fun s10 => oZ (x3 + (1 : Int)) fun z12 => oZ (x4 + (1 : Int)) fun z14 => m20_5 n a0 a2 z12 z14 s10) else oZ (x4 + (1 : Int)) fun z16 => m20_5 n a0 a2 x3 z16 s else if z3 = (20011 : Int) then m20_71 (m20_5 n) a0 a2 x3 x4 z3 s else if z3 = (20012 : Int) then m20_71 (m20_5 n) a0 a2 x3 x4 z3 s else if (1 : Int) < x3 then oZ (x3 + (-1 : Int)) fun z21 => oZ (z21 - (1 : Int)) fun z23 => oZ (z21 - (1 : Int)) fun z25 => oX z25 64 (oV (s.1 (a0 + 2) z25) fun z27 => oX z21 64 (oV (s.1 (a0 + 2) z21) fun z29 => oC (m22 z3 z27 z29 s) fun z31 s32 => oX z23 64 (oV (sI s32 (a0 + 2) z23 z31) fun s34 => oZ (x4 + (1 : Int)) fun z36 => m20_5 n a0 a2 z21 z36 s34))) else oZ (x4 + (1 : Int)) fun z38 => m20_5 n a0 a2 x3 z38 s) else if (0 : Int) < x3 then oZ (x3 - (1 : Int)) fun z41 => oX z41 64 (oV (s.1 (a0 + 2) z41) fun z43 => some (z43, s)) else some ((0 : Int), s)) = some (r_, s_) := hm
  refine z_iload (pc' := 7) hM20 rfl rfl rfl ?_
  refine z_aload_n (pc' := 8) hM20 rfl rfl rfl ?_
  obtain ⟨z1, ez1, hm⟩ := o_v hm
  refine z_fldI (pc' := 11) hM20 rfl rfl rfl ez1 ?_
  refine z_cmpge (pc' := 14) (t := 162) hM20 rfl rfl (fun h2 => ?_) (fun h2 => ?_)
  · replace hm := o_t hm h2
    refine z_aload_n (pc' := 15) hM20 rfl rfl rfl ?_
    refine z_fldR (pc' := 18) hM20 rfl (zf_3_0 hG) rfl rfl ?_
    refine z_iload (pc' := 20) hM20 rfl rfl rfl ?_
    obtain ⟨h4, hm⟩ := o_x hm
    obtain ⟨z3, ez3, hm⟩ := o_v hm
    refine z_iald (pc' := 21) (zGN hG) hM20 rfl rfl h4 ez3 ?_
    refine z_istore (pc' := 23) (l' := [some (zr 3 0 a0), some (zr 100 10 11), some (zr 5 0 a2), some (zi x3), some (zi x4), some (zi z3), d6]) hM20 rfl rfl rfl rfl ?_
    refine z_iload (pc' := 25) hM20 rfl rfl rfl ?_
    refine z_sipush (pc' := 28) hM20 rfl rfl rfl ?_
    refine z_cmpge (pc' := 31) (t := 55) hM20 rfl rfl (fun h5 => ?_) (fun h5 => ?_)
    · replace hm := o_t hm h5
      refine z_iload_n (pc' := 32) hM20 rfl rfl rfl ?_
      refine z_bipush (pc' := 34) hM20 rfl rfl rfl ?_
      refine z_cmpge (pc' := 37) (t := 156) hM20 rfl rfl (fun h6 => ?_) (fun h6 => ?_)
      · replace hm := o_t hm h6
        refine z_aload_n (pc' := 38) hM20 rfl rfl rfl ?_
        refine z_fldR (pc' := 41) hM20 rfl (zf_3_1 hG) rfl rfl ?_
        refine z_iload_n (pc' := 42) hM20 rfl rfl rfl ?_
        refine z_iload (pc' := 44) hM20 rfl rfl rfl ?_
        refine z_aload_n (pc' := 45) hM20 rfl rfl rfl ?_
        obtain ⟨z7, s8, h9, hm⟩ := o_c hm
        refine z_cs (d := d + 2) (pc' := 48) hM20 rfl hM21 rfl rfl rfl rfl (c21 (d := d + 1) hG h9) rfl ?_
        obtain ⟨h11, hm⟩ := o_x hm
        obtain ⟨s10, es10, hm⟩ := o_v hm
        refine z_iast (pc' := 49) hM20 rfl rfl h11 es10 ?_
        obtain ⟨z12, ez12, h13, hm⟩ := o_z hm
        refine z_iinc (pc' := 52) (l' := [some (zr 3 0 a0), some (zr 100 10 11), some (zr 5 0 a2), some (zi z12), some (zi x4), some (zi z3), d6]) hM20 rfl rfl rfl ez12 h13 rfl rfl ?_
        refine z_goto (t := 156) hM20 rfl ?_
        obtain ⟨z14, ez14, h15, hm⟩ := o_z hm
        refine z_iinc (pc' := 159) (l' := [some (zr 3 0 a0), some (zr 100 10 11), some (zr 5 0 a2), some (zi z12), some (zi z14), some (zi z3), d6]) hM20 rfl rfl rfl ez14 h15 rfl rfl ?_
        refine z_goto (t := 5) hM20 rfl ?_
        exact ih hm
      · replace hm := o_f hm h6
        obtain ⟨z16, ez16, h17, hm⟩ := o_z hm
        refine z_iinc (pc' := 159) (l' := [some (zr 3 0 a0), some (zr 100 10 11), some (zr 5 0 a2), some (zi x3), some (zi z16), some (zi z3), d6]) hM20 rfl rfl rfl ez16 h17 rfl rfl ?_
        refine z_goto (t := 5) hM20 rfl ?_
        exact ih hm
    · replace hm := o_f hm h5
      refine z_iload (pc' := 57) hM20 rfl rfl rfl ?_
      refine z_sipush (pc' := 60) hM20 rfl rfl rfl ?_
      refine z_cmpeq (pc' := 63) (t := 71) hM20 rfl rfl (fun h18 => ?_) (fun h18 => ?_)
      · replace hm := o_t hm h18
        exact c20_71 hG ih hm
      · replace hm := o_f hm h18
        refine z_iload (pc' := 65) hM20 rfl rfl rfl ?_
        refine z_sipush (pc' := 68) hM20 rfl rfl rfl ?_
        refine z_cmpne (pc' := 71) (t := 121) hM20 rfl rfl (fun h19 => ?_) (fun h19 => ?_)
        · replace hm := o_t hm h19
          exact c20_71 hG ih hm
        · replace hm := o_f hm h19
          refine z_iload_n (pc' := 122) hM20 rfl rfl rfl ?_
          refine z_iconst (pc' := 123) hM20 rfl rfl rfl ?_
          refine z_cmple (pc' := 126) (t := 156) hM20 rfl rfl (fun h20 => ?_) (fun h20 => ?_)
          · replace hm := o_t hm h20
            obtain ⟨z21, ez21, h22, hm⟩ := o_z hm
            refine z_iinc (pc' := 129) (l' := [some (zr 3 0 a0), some (zr 100 10 11), some (zr 5 0 a2), some (zi z21), some (zi x4), some (zi z3), d6]) hM20 rfl rfl rfl ez21 h22 rfl rfl ?_
            refine z_aload_n (pc' := 130) hM20 rfl rfl rfl ?_
            refine z_fldR (pc' := 133) hM20 rfl (zf_3_1 hG) rfl rfl ?_
            refine z_iload_n (pc' := 134) hM20 rfl rfl rfl ?_
            refine z_iconst (pc' := 135) hM20 rfl rfl rfl ?_
            obtain ⟨z23, ez23, h24, hm⟩ := o_z hm
            refine z_isub (pc' := 136) hM20 rfl rfl ez23 h24 ?_
            refine z_iload (pc' := 138) hM20 rfl rfl rfl ?_
            refine z_aload_n (pc' := 139) hM20 rfl rfl rfl ?_
            refine z_fldR (pc' := 142) hM20 rfl (zf_3_1 hG) rfl rfl ?_
            refine z_iload_n (pc' := 143) hM20 rfl rfl rfl ?_
            refine z_iconst (pc' := 144) hM20 rfl rfl rfl ?_
            obtain ⟨z25, ez25, h26, hm⟩ := o_z hm
            refine z_isub (pc' := 145) hM20 rfl rfl ez25 h26 ?_
            obtain ⟨h28, hm⟩ := o_x hm
            obtain ⟨z27, ez27, hm⟩ := o_v hm
            refine z_iald (pc' := 146) (zGN hG) hM20 rfl rfl h28 ez27 ?_
            refine z_aload_n (pc' := 147) hM20 rfl rfl rfl ?_
            refine z_fldR (pc' := 150) hM20 rfl (zf_3_1 hG) rfl rfl ?_
            refine z_iload_n (pc' := 151) hM20 rfl rfl rfl ?_
            obtain ⟨h30, hm⟩ := o_x hm
            obtain ⟨z29, ez29, hm⟩ := o_v hm
            refine z_iald (pc' := 152) (zGN hG) hM20 rfl rfl h30 ez29 ?_
            obtain ⟨z31, s32, h33, hm⟩ := o_c hm
            refine z_cs (d := d + 2) (pc' := 155) hM20 rfl hM22 rfl rfl rfl rfl (c22 (d := d) hG h33) rfl ?_
            obtain ⟨h35, hm⟩ := o_x hm
            obtain ⟨s34, es34, hm⟩ := o_v hm
            refine z_iast (pc' := 156) hM20 rfl rfl h35 es34 ?_
            obtain ⟨z36, ez36, h37, hm⟩ := o_z hm
            refine z_iinc (pc' := 159) (l' := [some (zr 3 0 a0), some (zr 100 10 11), some (zr 5 0 a2), some (zi z21), some (zi z36), some (zi z3), d6]) hM20 rfl rfl rfl ez36 h37 rfl rfl ?_
            refine z_goto (t := 5) hM20 rfl ?_
            exact ih hm
          · replace hm := o_f hm h20
            obtain ⟨z38, ez38, h39, hm⟩ := o_z hm
            refine z_iinc (pc' := 159) (l' := [some (zr 3 0 a0), some (zr 100 10 11), some (zr 5 0 a2), some (zi x3), some (zi z38), some (zi z3), d6]) hM20 rfl rfl rfl ez38 h39 rfl rfl ?_
            refine z_goto (t := 5) hM20 rfl ?_
            exact ih hm
  · replace hm := o_f hm h2
    refine z_iload_n (pc' := 163) hM20 rfl rfl rfl ?_
    refine z_ifle (pc' := 166) (t := 177) hM20 rfl rfl (fun h40 => ?_) (fun h40 => ?_)
    · replace hm := o_t hm h40
      refine z_aload_n (pc' := 167) hM20 rfl rfl rfl ?_
      refine z_fldR (pc' := 170) hM20 rfl (zf_3_1 hG) rfl rfl ?_
      refine z_iload_n (pc' := 171) hM20 rfl rfl rfl ?_
      refine z_iconst (pc' := 172) hM20 rfl rfl rfl ?_
      obtain ⟨z41, ez41, h42, hm⟩ := o_z hm
      refine z_isub (pc' := 173) hM20 rfl rfl ez41 h42 ?_
      obtain ⟨h44, hm⟩ := o_x hm
      obtain ⟨z43, ez43, hm⟩ := o_v hm
      refine z_iald (pc' := 174) (zGN hG) hM20 rfl rfl h44 ez43 ?_
      refine z_goto (t := 178) hM20 rfl ?_
      cases hm
      exact z_retI hM20 rfl rfl ⟨rfl, rfl⟩
    · replace hm := o_f hm h40
      refine z_iconst (pc' := 178) hM20 rfl rfl rfl ?_
      cases hm
      exact z_retI hM20 rfl rfl ⟨rfl, rfl⟩
def m20 (a0 : Nat) (a2 : Nat) (s : zS) : Option (Int × zS) := m20_5 zFu a0 a2 (0 : Int) (0 : Int) s
set_option maxRecDepth 20000 in
theorem c20 {G : aHp} {d : Nat} (hG : zG G) {a0 : Nat} {a2 : Nat} {s : zS} {r_ : Int} {s_ : zS} (hm : m20 a0 a2 s = some (r_, s_)) : Zp G (d + 3) 20 0 [some (zr 3 0 a0), some (zr 100 10 11), some (zr 5 0 a2), none, none, none, none] [] s (zRet (some (zi r_)) s_) := by
  replace hm : (m20_5 zFu a0 a2 (0 : Int) (0 : Int) s) = some (r_, s_) := hm
  refine z_iconst (pc' := 1) hM20 rfl rfl rfl ?_
  refine z_istore_n (pc' := 2) (l' := [some (zr 3 0 a0), some (zr 100 10 11), some (zr 5 0 a2), some (zi (0 : Int)), none, none, none]) hM20 rfl rfl rfl rfl ?_
  refine z_iconst (pc' := 3) hM20 rfl rfl rfl ?_
  refine z_istore (pc' := 5) (l' := [some (zr 3 0 a0), some (zr 100 10 11), some (zr 5 0 a2), some (zi (0 : Int)), some (zi (0 : Int)), none, none]) hM20 rfl rfl rfl rfl ?_
  exact c20_5 hG hm
def m9 (a1 : Nat) (x2 : Int) (x3 : Int) (x4 : Int) (s : zS) : Option (Int × zS) := oX (2 : Int) 10 (oV (sI s 11 (2 : Int) x4) fun s1 => oX x3 8 (oV (s1.1 (a1 + 1) x3) fun z3 => oX (3 : Int) 10 (oV (sI s1 11 (3 : Int) z3) fun s5 => oV (s5.2.2 3) fun w7 => oC (m42 w7 x2 x3 s5) fun z8 s9 => oX (4 : Int) 10 (oV (sI s9 11 (4 : Int) z8) fun s11 => oX x2 6 (oV (s11.1 (a1 + 4) x2) fun z13 => oX (5 : Int) 10 (oV (sI s11 11 (5 : Int) z13) fun s15 => oV (s15.1 a1 6) fun z17 => oX (6 : Int) 10 (oV (sI s15 11 (6 : Int) z17) fun s18 => oV (s18.2.2 3) fun w20 => oV (s18.2.2 3) fun w21 => oC (m20 (w20 + 17) w21 s18) fun z22 s23 => oV (s23.2.2 3) fun w25 => oV (s23.2.2 3) fun w26 => oC (m20 (w25 + 20) w26 s23) fun z27 s28 => if z27 < z22 then some ((1 : Int), s28) else some ((0 : Int), s28))))))))
theorem c9 {G : aHp} {d : Nat} (hG : zG G) {a1 : Nat} {x2 : Int} {x3 : Int} {x4 : Int} {s : zS} {r_ : Int} {s_ : zS} (hm : m9 a1 x2 x3 x4 s = some (r_, s_)) : Zp G (d + 4) 9 0 [some (zr 1 0 10), some (zr 7 0 a1), some (zi x2), some (zi x3), some (zi x4)] [] s (zRet (some (zi r_)) s_) := by
  replace hm : (oX (2 : Int) 10 (oV (sI s 11 (2 : Int) x4) fun s1 => oX x3 8 (oV (s1.1 (a1 + 1) x3) fun z3 => oX (3 : Int) 10 (oV (sI s1 11 (3 : Int) z3) fun s5 => oV (s5.2.2 3) fun w7 => oC (m42 w7 x2 x3 s5) fun z8 s9 => oX (4 : Int) 10 (oV (sI s9 11 (4 : Int) z8) fun s11 => oX x2 6 (oV (s11.1 (a1 + 4) x2) fun z13 => oX (5 : Int) 10 (oV (sI s11 11 (5 : Int) z13) fun s15 => oV (s15.1 a1 6) fun z17 => oX (6 : Int) 10 (oV (sI s15 11 (6 : Int) z17) fun s18 => oV (s18.2.2 3) fun w20 => oV (s18.2.2 3) fun w21 => oC (m20 (w20 + 17) w21 s18) fun z22 s23 => oV (s23.2.2 3) fun w25 => oV (s23.2.2 3) fun w26 => oC (m20 (w25 + 20) w26 s23) fun z27 s28 => if z27 < z22 then some ((1 : Int), s28) else some ((0 : Int), s28))))))))) = some (r_, s_) := hm
  refine z_aload_n (pc' := 1) hM9 rfl rfl rfl ?_
  refine z_fldR (pc' := 4) hM9 rfl (zf_1_0 hG) rfl rfl ?_
  refine z_iconst (pc' := 5) hM9 rfl rfl rfl ?_
  refine z_iload (pc' := 7) hM9 rfl rfl rfl ?_
  obtain ⟨h2, hm⟩ := o_x hm
  obtain ⟨s1, es1, hm⟩ := o_v hm
  refine z_iast (pc' := 8) hM9 rfl rfl h2 es1 ?_
  refine z_aload_n (pc' := 9) hM9 rfl rfl rfl ?_
  refine z_fldR (pc' := 12) hM9 rfl (zf_1_0 hG) rfl rfl ?_
  refine z_iconst (pc' := 13) hM9 rfl rfl rfl ?_
  refine z_aload_n (pc' := 14) hM9 rfl rfl rfl ?_
  refine z_fldR (pc' := 17) hM9 rfl (zf_7_0 hG) rfl rfl ?_
  refine z_iload_n (pc' := 18) hM9 rfl rfl rfl ?_
  obtain ⟨h4, hm⟩ := o_x hm
  obtain ⟨z3, ez3, hm⟩ := o_v hm
  refine z_iald (pc' := 19) (zGN hG) hM9 rfl rfl h4 ez3 ?_
  obtain ⟨h6, hm⟩ := o_x hm
  obtain ⟨s5, es5, hm⟩ := o_v hm
  refine z_iast (pc' := 20) hM9 rfl rfl h6 es5 ?_
  refine z_aload_n (pc' := 21) hM9 rfl rfl rfl ?_
  refine z_fldR (pc' := 24) hM9 rfl (zf_1_0 hG) rfl rfl ?_
  refine z_iconst (pc' := 25) hM9 rfl rfl rfl ?_
  refine z_aload_n (pc' := 26) hM9 rfl rfl rfl ?_
  obtain ⟨w7, ew7, hm⟩ := o_v hm
  refine z_fldM (pc' := 29) (q := 2) hG.2.1 hM9 rfl rfl (Or.inr (Or.inr rfl)) rfl rfl ew7 ?_
  refine z_iload_n (pc' := 30) hM9 rfl rfl rfl ?_
  refine z_iload_n (pc' := 31) hM9 rfl rfl rfl ?_
  obtain ⟨z8, s9, h10, hm⟩ := o_c hm
  refine z_cv (d := d + 3) (pc' := 34) hM9 rfl hM42 rfl rfl rfl rfl rfl rfl (c42 (d := d + 1) hG h10) rfl ?_
  obtain ⟨h12, hm⟩ := o_x hm
  obtain ⟨s11, es11, hm⟩ := o_v hm
  refine z_iast (pc' := 35) hM9 rfl rfl h12 es11 ?_
  refine z_aload_n (pc' := 36) hM9 rfl rfl rfl ?_
  refine z_fldR (pc' := 39) hM9 rfl (zf_1_0 hG) rfl rfl ?_
  refine z_iconst (pc' := 40) hM9 rfl rfl rfl ?_
  refine z_aload_n (pc' := 41) hM9 rfl rfl rfl ?_
  refine z_fldR (pc' := 44) hM9 rfl (zf_7_3 hG) rfl rfl ?_
  refine z_iload_n (pc' := 45) hM9 rfl rfl rfl ?_
  obtain ⟨h14, hm⟩ := o_x hm
  obtain ⟨z13, ez13, hm⟩ := o_v hm
  refine z_iald (pc' := 46) (zGN hG) hM9 rfl rfl h14 ez13 ?_
  obtain ⟨h16, hm⟩ := o_x hm
  obtain ⟨s15, es15, hm⟩ := o_v hm
  refine z_iast (pc' := 47) hM9 rfl rfl h16 es15 ?_
  refine z_aload_n (pc' := 48) hM9 rfl rfl rfl ?_
  refine z_fldR (pc' := 51) hM9 rfl (zf_1_0 hG) rfl rfl ?_
  refine z_bipush (pc' := 53) hM9 rfl rfl rfl ?_
  refine z_aload_n (pc' := 54) hM9 rfl rfl rfl ?_
  obtain ⟨z17, ez17, hm⟩ := o_v hm
  refine z_fldI (pc' := 57) hM9 rfl rfl rfl ez17 ?_
  obtain ⟨h19, hm⟩ := o_x hm
  obtain ⟨s18, es18, hm⟩ := o_v hm
  refine z_iast (pc' := 58) hM9 rfl rfl h19 es18 ?_
  refine z_aload_n (pc' := 59) hM9 rfl rfl rfl ?_
  obtain ⟨w20, ew20, hm⟩ := o_v hm
  refine z_fldM (pc' := 62) (q := 2) hG.2.1 hM9 rfl rfl (Or.inr (Or.inr rfl)) rfl rfl ew20 ?_
  refine z_fldR (pc' := 65) hM9 rfl (zf_5_13 hG) rfl rfl ?_
  refine z_aload_n (pc' := 66) hM9 rfl rfl rfl ?_
  refine z_fldR (pc' := 69) hM9 rfl (zf_1_0 hG) rfl rfl ?_
  refine z_aload_n (pc' := 70) hM9 rfl rfl rfl ?_
  obtain ⟨w21, ew21, hm⟩ := o_v hm
  refine z_fldM (pc' := 73) (q := 2) hG.2.1 hM9 rfl rfl (Or.inr (Or.inr rfl)) rfl rfl ew21 ?_
  obtain ⟨z22, s23, h24, hm⟩ := o_c hm
  refine z_cv (d := d + 3) (pc' := 76) hM9 rfl hM20 rfl rfl rfl rfl rfl rfl (c20 (d := d) hG h24) rfl ?_
  refine z_aload_n (pc' := 77) hM9 rfl rfl rfl ?_
  obtain ⟨w25, ew25, hm⟩ := o_v hm
  refine z_fldM (pc' := 80) (q := 2) hG.2.1 hM9 rfl rfl (Or.inr (Or.inr rfl)) rfl rfl ew25 ?_
  refine z_fldR (pc' := 83) hM9 rfl (zf_5_14 hG) rfl rfl ?_
  refine z_aload_n (pc' := 84) hM9 rfl rfl rfl ?_
  refine z_fldR (pc' := 87) hM9 rfl (zf_1_0 hG) rfl rfl ?_
  refine z_aload_n (pc' := 88) hM9 rfl rfl rfl ?_
  obtain ⟨w26, ew26, hm⟩ := o_v hm
  refine z_fldM (pc' := 91) (q := 2) hG.2.1 hM9 rfl rfl (Or.inr (Or.inr rfl)) rfl rfl ew26 ?_
  obtain ⟨z27, s28, h29, hm⟩ := o_c hm
  refine z_cv (d := d + 3) (pc' := 94) hM9 rfl hM20 rfl rfl rfl rfl rfl rfl (c20 (d := d) hG h29) rfl ?_
  refine z_cmple (pc' := 97) (t := 101) hM9 rfl rfl (fun h30 => ?_) (fun h30 => ?_)
  · replace hm := o_t hm h30
    refine z_iconst (pc' := 98) hM9 rfl rfl rfl ?_
    refine z_goto (t := 102) hM9 rfl ?_
    cases hm
    exact z_retZ hM9 rfl rfl (Or.inr rfl) ⟨rfl, rfl⟩
  · replace hm := o_f hm h30
    refine z_iconst (pc' := 102) hM9 rfl rfl rfl ?_
    cases hm
    exact z_retZ hM9 rfl rfl (Or.inl rfl) ⟨rfl, rfl⟩
def m8_169 (a1 : Nat) (x2 : Int) (s : zS) : Option (Int × zS) := oX x2 6 (oV (s.1 (a1 + 4) x2) fun z1 => oZ (z1 + (1 : Int)) fun z3 => oC (m290 (999 : Int) z3 s) fun z5 s6 => oX x2 6 (oV (sI s6 (a1 + 4) x2 z5) fun s8 => some (0, s8)))
set_option maxRecDepth 20000 in
theorem c8_169 {G : aHp} {d : Nat} (hG : zG G) {a1 : Nat} {x2 : Int} {d0 d3 d4 d5 d6 : Option zV} {s : zS} {r_ : Int} {s_ : zS} (hm : m8_169 a1 x2 s = some (r_, s_)) : Zp G (d + 5) 8 169 [d0, some (zr 7 0 a1), some (zi x2), d3, d4, d5, d6] [] s (zRet none s_) := by
  replace hm : (oX x2 6 (oV (s.1 (a1 + 4) x2) fun z1 => oZ (z1 + (1 : Int)) fun z3 => oC (m290 (999 : Int) z3 s) fun z5 s6 => oX x2 6 (oV (sI s6 (a1 + 4) x2 z5) fun s8 => some (0, s8)))) = some (r_, s_) := hm
  refine z_aload_n (pc' := 170) hM8 rfl rfl rfl ?_
  refine z_fldR (pc' := 173) hM8 rfl (zf_7_3 hG) rfl rfl ?_
  refine z_iload_n (pc' := 174) hM8 rfl rfl rfl ?_
  refine z_sipush (pc' := 177) hM8 rfl rfl rfl ?_
  refine z_aload_n (pc' := 178) hM8 rfl rfl rfl ?_
  refine z_fldR (pc' := 181) hM8 rfl (zf_7_3 hG) rfl rfl ?_
  refine z_iload_n (pc' := 182) hM8 rfl rfl rfl ?_
  obtain ⟨h2, hm⟩ := o_x hm
  obtain ⟨z1, ez1, hm⟩ := o_v hm
  refine z_iald (pc' := 183) (zGN hG) hM8 rfl rfl h2 ez1 ?_
  refine z_iconst (pc' := 184) hM8 rfl rfl rfl ?_
  obtain ⟨z3, ez3, h4, hm⟩ := o_z hm
  refine z_iadd (pc' := 185) hM8 rfl rfl ez3 h4 ?_
  obtain ⟨z5, s6, h7, hm⟩ := o_c hm
  refine z_cs (d := d + 4) (pc' := 188) hM8 rfl hM290 rfl rfl rfl rfl (c290 (d := d + 3) hG h7) rfl ?_
  obtain ⟨h9, hm⟩ := o_x hm
  obtain ⟨s8, es8, hm⟩ := o_v hm
  refine z_iast (pc' := 189) hM8 rfl rfl h9 es8 ?_
  cases hm
  exact z_retV hM8 rfl rfl ⟨rfl, rfl⟩
def m8_113 (a1 : Nat) (x2 : Int) (x3 : Int) (x6 : Int) (s : zS) : Option (Int × zS) := oX x2 6 (oV (sI s (a1 + 3) x2 x6) fun s1 => oX x3 8 (oV (s1.1 (a1 + 1) x3) fun z3 => oZ (z3 + (1 : Int)) fun z5 => oC (m290 (9 : Int) z5 s1) fun z7 s8 => oX x3 8 (oV (sI s8 (a1 + 1) x3 z7) fun s10 => m8_169 a1 x2 s10)))
set_option maxRecDepth 20000 in
theorem c8_113 {G : aHp} {d : Nat} (hG : zG G) {a1 : Nat} {x2 : Int} {x3 : Int} {x6 : Int} {d0 d4 d5 : Option zV} {s : zS} {r_ : Int} {s_ : zS} (hm : m8_113 a1 x2 x3 x6 s = some (r_, s_)) : Zp G (d + 5) 8 113 [d0, some (zr 7 0 a1), some (zi x2), some (zi x3), d4, d5, some (zi x6)] [] s (zRet none s_) := by
  replace hm : (oX x2 6 (oV (sI s (a1 + 3) x2 x6) fun s1 => oX x3 8 (oV (s1.1 (a1 + 1) x3) fun z3 => oZ (z3 + (1 : Int)) fun z5 => oC (m290 (9 : Int) z5 s1) fun z7 s8 => oX x3 8 (oV (sI s8 (a1 + 1) x3 z7) fun s10 => m8_169 a1 x2 s10)))) = some (r_, s_) := hm
  refine z_aload_n (pc' := 114) hM8 rfl rfl rfl ?_
  refine z_fldR (pc' := 117) hM8 rfl (zf_7_2 hG) rfl rfl ?_
  refine z_iload_n (pc' := 118) hM8 rfl rfl rfl ?_
  refine z_iload (pc' := 120) hM8 rfl rfl rfl ?_
  obtain ⟨h2, hm⟩ := o_x hm
  obtain ⟨s1, es1, hm⟩ := o_v hm
  refine z_iast (pc' := 121) hM8 rfl rfl h2 es1 ?_
  refine z_aload_n (pc' := 122) hM8 rfl rfl rfl ?_
  refine z_fldR (pc' := 125) hM8 rfl (zf_7_0 hG) rfl rfl ?_
  refine z_iload_n (pc' := 126) hM8 rfl rfl rfl ?_
  refine z_bipush (pc' := 128) hM8 rfl rfl rfl ?_
  refine z_aload_n (pc' := 129) hM8 rfl rfl rfl ?_
  refine z_fldR (pc' := 132) hM8 rfl (zf_7_0 hG) rfl rfl ?_
  refine z_iload_n (pc' := 133) hM8 rfl rfl rfl ?_
  obtain ⟨h4, hm⟩ := o_x hm
  obtain ⟨z3, ez3, hm⟩ := o_v hm
  refine z_iald (pc' := 134) (zGN hG) hM8 rfl rfl h4 ez3 ?_
  refine z_iconst (pc' := 135) hM8 rfl rfl rfl ?_
  obtain ⟨z5, ez5, h6, hm⟩ := o_z hm
  refine z_iadd (pc' := 136) hM8 rfl rfl ez5 h6 ?_
  obtain ⟨z7, s8, h9, hm⟩ := o_c hm
  refine z_cs (d := d + 4) (pc' := 139) hM8 rfl hM290 rfl rfl rfl rfl (c290 (d := d + 3) hG h9) rfl ?_
  obtain ⟨h11, hm⟩ := o_x hm
  obtain ⟨s10, es10, hm⟩ := o_v hm
  refine z_iast (pc' := 140) hM8 rfl rfl h11 es10 ?_
  refine z_goto (t := 169) hM8 rfl ?_
  exact c8_169 hG hm
def m8 (a1 : Nat) (x2 : Int) (x3 : Int) (x4 : Int) (s : zS) : Option (Int × zS) := oV (s.2.2 3) fun w1 => oV (s.2.2 3) fun w2 => oX x2 6 (oV (s.1 (a1 + 3) x2) fun z3 => oV (s.2.2 3) fun w5 => oX x2 6 (oV (s.1 (w5 + 15) x2) fun z6 => oC (m48 w2 z3 z6 s) fun z8 s9 => oV (s9.2.2 3) fun w11 => oX x2 6 (oV (s9.1 (a1 + 3) x2) fun z12 => oV (s9.2.2 3) fun w14 => oX x3 8 (oV (s9.1 (w14 + 11) x3) fun z15 => oC (m48 w11 z12 z15 s9) fun z17 s18 => if z17 = (-1 : Int) then if z8 = (-1 : Int) then oX x2 6 (oV (s18.1 (a1 + 3) x2) fun z22 => oX x2 6 (oV (sI s18 (a1 + 3) x2 z22) fun s24 => m8_169 a1 x2 s24)) else oX x2 6 (oV (sI s18 (a1 + 3) x2 z8) fun s26 => m8_169 a1 x2 s26) else if z8 = (-1 : Int) then m8_113 a1 x2 x3 z17 s18 else if z8 = z17 then m8_113 a1 x2 x3 z17 s18 else oC (m9 a1 x2 x3 x4 s18) fun z30 s31 => if z30 = (0 : Int) then oX x2 6 (oV (sI s31 (a1 + 3) x2 z8) fun s34 => oX x3 8 (oV (s34.1 (a1 + 1) x3) fun z36 => oZ (z36 - (1 : Int)) fun z38 => oC (m288 (0 : Int) z38 s34) fun z40 s41 => oX x3 8 (oV (sI s41 (a1 + 1) x3 z40) fun s43 => m8_169 a1 x2 s43))) else m8_113 a1 x2 x3 z17 s31))))
set_option maxRecDepth 20000 in
theorem c8 {G : aHp} {d : Nat} (hG : zG G) {a1 : Nat} {x2 : Int} {x3 : Int} {x4 : Int} {s : zS} {r_ : Int} {s_ : zS} (hm : m8 a1 x2 x3 x4 s = some (r_, s_)) : Zp G (d + 5) 8 0 [some (zr 1 0 10), some (zr 7 0 a1), some (zi x2), some (zi x3), some (zi x4), none, none] [] s (zRet none s_) := by
  replace hm : (oV (s.2.2 3) fun w1 => oV (s.2.2 3) fun w2 => oX x2 6 (oV (s.1 (a1 + 3) x2) fun z3 => oV (s.2.2 3) fun w5 => oX x2 6 (oV (s.1 (w5 + 15) x2) fun z6 => oC (m48 w2 z3 z6 s) fun z8 s9 => oV (s9.2.2 3) fun w11 => oX x2 6 (oV (s9.1 (a1 + 3) x2) fun z12 => oV (s9.2.2 3) fun w14 => oX x3 8 (oV (s9.1 (w14 + 11) x3) fun z15 => oC (m48 w11 z12 z15 s9) fun z17 s18 => if z17 = (-1 : Int) then if z8 = (-1 : Int) then oX x2 6 (oV (s18.1 (a1 + 3) x2) fun z22 => oX x2 6 (oV (sI s18 (a1 + 3) x2 z22) fun s24 => m8_169 a1 x2 s24)) else oX x2 6 (oV (sI s18 (a1 + 3) x2 z8) fun s26 => m8_169 a1 x2 s26) else if z8 = (-1 : Int) then m8_113 a1 x2 x3 z17 s18 else if z8 = z17 then m8_113 a1 x2 x3 z17 s18 else oC (m9 a1 x2 x3 x4 s18) fun z30 s31 => if z30 = (0 : Int) then oX x2 6 (oV (sI s31 (a1 + 3) x2 z8) fun s34 => oX x3 8 (oV (s34.1 (a1 + 1) x3) fun z36 => oZ (z36 - (1 : Int)) fun z38 => oC (m288 (0 : Int) z38 s34) fun z40 s41 => oX x3 8 (oV (sI s41 (a1 + 1) x3 z40) fun s43 => m8_169 a1 x2 s43))) else m8_113 a1 x2 x3 z17 s31))))) = some (r_, s_) := hm
  refine z_aload_n (pc' := 1) hM8 rfl rfl rfl ?_
  obtain ⟨w1, ew1, hm⟩ := o_v hm
  refine z_fldM (pc' := 4) (q := 2) hG.2.1 hM8 rfl rfl (Or.inr (Or.inr rfl)) rfl rfl ew1 ?_
  refine z_ifnonnull (t := 8) hM8 rfl ?_
  refine z_aload_n (pc' := 9) hM8 rfl rfl rfl ?_
  obtain ⟨w2, ew2, hm⟩ := o_v hm
  refine z_fldM (pc' := 12) (q := 2) hG.2.1 hM8 rfl rfl (Or.inr (Or.inr rfl)) rfl rfl ew2 ?_
  refine z_aload_n (pc' := 13) hM8 rfl rfl rfl ?_
  refine z_fldR (pc' := 16) hM8 rfl (zf_7_2 hG) rfl rfl ?_
  refine z_iload_n (pc' := 17) hM8 rfl rfl rfl ?_
  obtain ⟨h4, hm⟩ := o_x hm
  obtain ⟨z3, ez3, hm⟩ := o_v hm
  refine z_iald (pc' := 18) (zGN hG) hM8 rfl rfl h4 ez3 ?_
  refine z_aload_n (pc' := 19) hM8 rfl rfl rfl ?_
  obtain ⟨w5, ew5, hm⟩ := o_v hm
  refine z_fldM (pc' := 22) (q := 2) hG.2.1 hM8 rfl rfl (Or.inr (Or.inr rfl)) rfl rfl ew5 ?_
  refine z_fldR (pc' := 25) hM8 rfl (zf_5_11 hG) rfl rfl ?_
  refine z_iload_n (pc' := 26) hM8 rfl rfl rfl ?_
  obtain ⟨h7, hm⟩ := o_x hm
  obtain ⟨z6, ez6, hm⟩ := o_v hm
  refine z_iald (pc' := 27) (zGN hG) hM8 rfl rfl h7 ez6 ?_
  obtain ⟨z8, s9, h10, hm⟩ := o_c hm
  refine z_cv (d := d + 4) (pc' := 30) hM8 rfl hM48 rfl rfl rfl rfl rfl rfl (c48 (d := d + 2) hG h10) rfl ?_
  refine z_istore (pc' := 32) (l' := [some (zr 1 0 10), some (zr 7 0 a1), some (zi x2), some (zi x3), some (zi x4), some (zi z8), none]) hM8 rfl rfl rfl rfl ?_
  refine z_aload_n (pc' := 33) hM8 rfl rfl rfl ?_
  obtain ⟨w11, ew11, hm⟩ := o_v hm
  refine z_fldM (pc' := 36) (q := 2) hG.2.1 hM8 rfl rfl (Or.inr (Or.inr rfl)) rfl rfl ew11 ?_
  refine z_aload_n (pc' := 37) hM8 rfl rfl rfl ?_
  refine z_fldR (pc' := 40) hM8 rfl (zf_7_2 hG) rfl rfl ?_
  refine z_iload_n (pc' := 41) hM8 rfl rfl rfl ?_
  obtain ⟨h13, hm⟩ := o_x hm
  obtain ⟨z12, ez12, hm⟩ := o_v hm
  refine z_iald (pc' := 42) (zGN hG) hM8 rfl rfl h13 ez12 ?_
  refine z_aload_n (pc' := 43) hM8 rfl rfl rfl ?_
  obtain ⟨w14, ew14, hm⟩ := o_v hm
  refine z_fldM (pc' := 46) (q := 2) hG.2.1 hM8 rfl rfl (Or.inr (Or.inr rfl)) rfl rfl ew14 ?_
  refine z_fldR (pc' := 49) hM8 rfl (zf_5_7 hG) rfl rfl ?_
  refine z_iload_n (pc' := 50) hM8 rfl rfl rfl ?_
  obtain ⟨h16, hm⟩ := o_x hm
  obtain ⟨z15, ez15, hm⟩ := o_v hm
  refine z_iald (pc' := 51) (zGN hG) hM8 rfl rfl h16 ez15 ?_
  obtain ⟨z17, s18, h19, hm⟩ := o_c hm
  refine z_cv (d := d + 4) (pc' := 54) hM8 rfl hM48 rfl rfl rfl rfl rfl rfl (c48 (d := d + 2) hG h19) rfl ?_
  refine z_istore (pc' := 56) (l' := [some (zr 1 0 10), some (zr 7 0 a1), some (zi x2), some (zi x3), some (zi x4), some (zi z8), some (zi z17)]) hM8 rfl rfl rfl rfl ?_
  refine z_iload (pc' := 58) hM8 rfl rfl rfl ?_
  refine z_iconst (pc' := 59) hM8 rfl rfl rfl ?_
  refine z_cmpne (pc' := 62) (t := 88) hM8 rfl rfl (fun h20 => ?_) (fun h20 => ?_)
  · replace hm := o_t hm h20
    refine z_aload_n (pc' := 63) hM8 rfl rfl rfl ?_
    refine z_fldR (pc' := 66) hM8 rfl (zf_7_2 hG) rfl rfl ?_
    refine z_iload_n (pc' := 67) hM8 rfl rfl rfl ?_
    refine z_iload (pc' := 69) hM8 rfl rfl rfl ?_
    refine z_iconst (pc' := 70) hM8 rfl rfl rfl ?_
    refine z_cmpne (pc' := 73) (t := 82) hM8 rfl rfl (fun h21 => ?_) (fun h21 => ?_)
    · replace hm := o_t hm h21
      refine z_aload_n (pc' := 74) hM8 rfl rfl rfl ?_
      refine z_fldR (pc' := 77) hM8 rfl (zf_7_2 hG) rfl rfl ?_
      refine z_iload_n (pc' := 78) hM8 rfl rfl rfl ?_
      obtain ⟨h23, hm⟩ := o_x hm
      obtain ⟨z22, ez22, hm⟩ := o_v hm
      refine z_iald (pc' := 79) (zGN hG) hM8 rfl rfl h23 ez22 ?_
      refine z_goto (t := 84) hM8 rfl ?_
      obtain ⟨h25, hm⟩ := o_x hm
      obtain ⟨s24, es24, hm⟩ := o_v hm
      refine z_iast (pc' := 85) hM8 rfl rfl h25 es24 ?_
      refine z_goto (t := 169) hM8 rfl ?_
      exact c8_169 hG hm
    · replace hm := o_f hm h21
      refine z_iload (pc' := 84) hM8 rfl rfl rfl ?_
      obtain ⟨h27, hm⟩ := o_x hm
      obtain ⟨s26, es26, hm⟩ := o_v hm
      refine z_iast (pc' := 85) hM8 rfl rfl h27 es26 ?_
      refine z_goto (t := 169) hM8 rfl ?_
      exact c8_169 hG hm
  · replace hm := o_f hm h20
    refine z_iload (pc' := 90) hM8 rfl rfl rfl ?_
    refine z_iconst (pc' := 91) hM8 rfl rfl rfl ?_
    refine z_cmpeq (pc' := 94) (t := 113) hM8 rfl rfl (fun h28 => ?_) (fun h28 => ?_)
    · replace hm := o_t hm h28
      exact c8_113 hG hm
    · replace hm := o_f hm h28
      refine z_iload (pc' := 96) hM8 rfl rfl rfl ?_
      refine z_iload (pc' := 98) hM8 rfl rfl rfl ?_
      refine z_cmpeq (pc' := 101) (t := 113) hM8 rfl rfl (fun h29 => ?_) (fun h29 => ?_)
      · replace hm := o_t hm h29
        exact c8_113 hG hm
      · replace hm := o_f hm h29
        refine z_aload_n (pc' := 102) hM8 rfl rfl rfl ?_
        refine z_aload_n (pc' := 103) hM8 rfl rfl rfl ?_
        refine z_iload_n (pc' := 104) hM8 rfl rfl rfl ?_
        refine z_iload_n (pc' := 105) hM8 rfl rfl rfl ?_
        refine z_iload (pc' := 107) hM8 rfl rfl rfl ?_
        obtain ⟨z30, s31, h32, hm⟩ := o_c hm
        refine z_cv (d := d + 4) (pc' := 110) hM8 rfl hM9 rfl rfl rfl rfl rfl rfl (c9 (d := d) hG h32) rfl ?_
        refine z_ifeq (pc' := 113) (t := 143) hM8 rfl rfl (fun h33 => ?_) (fun h33 => ?_)
        · replace hm := o_t hm h33
          refine z_aload_n (pc' := 144) hM8 rfl rfl rfl ?_
          refine z_fldR (pc' := 147) hM8 rfl (zf_7_2 hG) rfl rfl ?_
          refine z_iload_n (pc' := 148) hM8 rfl rfl rfl ?_
          refine z_iload (pc' := 150) hM8 rfl rfl rfl ?_
          obtain ⟨h35, hm⟩ := o_x hm
          obtain ⟨s34, es34, hm⟩ := o_v hm
          refine z_iast (pc' := 151) hM8 rfl rfl h35 es34 ?_
          refine z_aload_n (pc' := 152) hM8 rfl rfl rfl ?_
          refine z_fldR (pc' := 155) hM8 rfl (zf_7_0 hG) rfl rfl ?_
          refine z_iload_n (pc' := 156) hM8 rfl rfl rfl ?_
          refine z_iconst (pc' := 157) hM8 rfl rfl rfl ?_
          refine z_aload_n (pc' := 158) hM8 rfl rfl rfl ?_
          refine z_fldR (pc' := 161) hM8 rfl (zf_7_0 hG) rfl rfl ?_
          refine z_iload_n (pc' := 162) hM8 rfl rfl rfl ?_
          obtain ⟨h37, hm⟩ := o_x hm
          obtain ⟨z36, ez36, hm⟩ := o_v hm
          refine z_iald (pc' := 163) (zGN hG) hM8 rfl rfl h37 ez36 ?_
          refine z_iconst (pc' := 164) hM8 rfl rfl rfl ?_
          obtain ⟨z38, ez38, h39, hm⟩ := o_z hm
          refine z_isub (pc' := 165) hM8 rfl rfl ez38 h39 ?_
          obtain ⟨z40, s41, h42, hm⟩ := o_c hm
          refine z_cs (d := d + 4) (pc' := 168) hM8 rfl hM288 rfl rfl rfl rfl (c288 (d := d + 3) hG h42) rfl ?_
          obtain ⟨h44, hm⟩ := o_x hm
          obtain ⟨s43, es43, hm⟩ := o_v hm
          refine z_iast (pc' := 169) hM8 rfl rfl h44 es43 ?_
          exact c8_169 hG hm
        · replace hm := o_f hm h33
          exact c8_113 hG hm
def m99_82 (k34_ : Int → Int → Int → Int → Int → Int → zS → Option (Int × zS)) (x2 : Int) (x3 : Int) (x4 : Int) (x5 : Int) (x6 : Int) (x7 : Int) (s : zS) : Option (Int × zS) := if x6 = (-1 : Int) then oN (2 : Int) (oV (Int.tmod x7 (2 : Int)) fun z2 => if z2 = (0 : Int) then oC (m8 14 x2 x3 x5 s) fun z4 s5 => oZ (x7 + (1 : Int)) fun z7 => k34_ x2 x3 x4 x5 x6 z7 s5 else oC (m8 14 x2 x4 x5 s) fun z9 s10 => oZ (x7 + (1 : Int)) fun z12 => k34_ x2 x3 x4 x5 x6 z12 s10) else oZ (x7 + (1 : Int)) fun z14 => k34_ x2 x3 x4 x5 x6 z14 s
theorem c99_82 {G : aHp} {d : Nat} {k34_ : Int → Int → Int → Int → Int → Int → zS → Option (Int × zS)} (hG : zG G) (hk34 : ∀ {x2 : Int} {x3 : Int} {x4 : Int} {x5 : Int} {x6 : Int} {x7 : Int} {d1 : Option zV} {s : zS} {r_ : Int} {s_ : zS}, k34_ x2 x3 x4 x5 x6 x7 s = some (r_, s_) → Zp G (d + 6) 99 34 [some (zr 10 0 12), d1, some (zi x2), some (zi x3), some (zi x4), some (zi x5), some (zi x6), some (zi x7)] [] s (zRet (some (zi r_)) s_)) {x2 : Int} {x3 : Int} {x4 : Int} {x5 : Int} {x6 : Int} {x7 : Int} {d1 : Option zV} {s : zS} {r_ : Int} {s_ : zS} (hm : m99_82 k34_ x2 x3 x4 x5 x6 x7 s = some (r_, s_)) : Zp G (d + 6) 99 82 [some (zr 10 0 12), d1, some (zi x2), some (zi x3), some (zi x4), some (zi x5), some (zi x6), some (zi x7)] [] s (zRet (some (zi r_)) s_) := by
  replace hm : (if x6 = (-1 : Int) then oN (2 : Int) (oV (Int.tmod x7 (2 : Int)) fun z2 => if z2 = (0 : Int) then oC (m8 14 x2 x3 x5 s) fun z4 s5 => oZ (x7 + (1 : Int)) fun z7 => k34_ x2 x3 x4 x5 x6 z7 s5 else oC (m8 14 x2 x4 x5 s) fun z9 s10 => oZ (x7 + (1 : Int)) fun z12 => k34_ x2 x3 x4 x5 x6 z12 s10) else oZ (x7 + (1 : Int)) fun z14 => k34_ x2 x3 x4 x5 x6 z14 s) = some (r_, s_) := hm
  refine z_iload (pc' := 84) hM99 rfl rfl rfl ?_
  refine z_iconst (pc' := 85) hM99 rfl rfl rfl ?_
  refine z_cmpne (pc' := 88) (t := 115) hM99 rfl rfl (fun h1 => ?_) (fun h1 => ?_)
  · replace hm := o_t hm h1
    refine z_aload_n (pc' := 89) hM99 rfl rfl rfl ?_
    refine z_fldR (pc' := 92) hM99 rfl (zf_10_2 hG) rfl rfl ?_
    refine z_aload_n (pc' := 93) hM99 rfl rfl rfl ?_
    refine z_fldR (pc' := 96) hM99 rfl (zf_10_1 hG) rfl rfl ?_
    refine z_iload_n (pc' := 97) hM99 rfl rfl rfl ?_
    refine z_iload (pc' := 99) hM99 rfl rfl rfl ?_
    refine z_iconst (pc' := 100) hM99 rfl rfl rfl ?_
    obtain ⟨nz2, hm⟩ := o_n hm
    obtain ⟨z2, ez2, hm⟩ := o_v hm
    refine z_irem (pc' := 101) hM99 rfl rfl nz2 ez2 ?_
    refine z_ifne (pc' := 104) (t := 108) hM99 rfl rfl (fun h3 => ?_) (fun h3 => ?_)
    · replace hm := o_t hm h3
      refine z_iload_n (pc' := 105) hM99 rfl rfl rfl ?_
      refine z_goto (t := 110) hM99 rfl ?_
      refine z_iload (pc' := 112) hM99 rfl rfl rfl ?_
      obtain ⟨z4, s5, h6, hm⟩ := o_c hm
      refine z_cvV (d := d + 5) (pc' := 115) hM99 rfl hM8 rfl rfl rfl rfl rfl rfl (c8 (d := d) hG h6) rfl ?_
      obtain ⟨z7, ez7, h8, hm⟩ := o_z hm
      refine z_iinc (pc' := 118) (l' := [some (zr 10 0 12), d1, some (zi x2), some (zi x3), some (zi x4), some (zi x5), some (zi x6), some (zi z7)]) hM99 rfl rfl rfl ez7 h8 rfl rfl ?_
      refine z_goto (t := 34) hM99 rfl ?_
      exact hk34 hm
    · replace hm := o_f hm h3
      refine z_iload (pc' := 110) hM99 rfl rfl rfl ?_
      refine z_iload (pc' := 112) hM99 rfl rfl rfl ?_
      obtain ⟨z9, s10, h11, hm⟩ := o_c hm
      refine z_cvV (d := d + 5) (pc' := 115) hM99 rfl hM8 rfl rfl rfl rfl rfl rfl (c8 (d := d) hG h11) rfl ?_
      obtain ⟨z12, ez12, h13, hm⟩ := o_z hm
      refine z_iinc (pc' := 118) (l' := [some (zr 10 0 12), d1, some (zi x2), some (zi x3), some (zi x4), some (zi x5), some (zi x6), some (zi z12)]) hM99 rfl rfl rfl ez12 h13 rfl rfl ?_
      refine z_goto (t := 34) hM99 rfl ?_
      exact hk34 hm
  · replace hm := o_f hm h1
    obtain ⟨z14, ez14, h15, hm⟩ := o_z hm
    refine z_iinc (pc' := 118) (l' := [some (zr 10 0 12), d1, some (zi x2), some (zi x3), some (zi x4), some (zi x5), some (zi x6), some (zi z14)]) hM99 rfl rfl rfl ez14 h15 rfl rfl ?_
    refine z_goto (t := 34) hM99 rfl ?_
    exact hk34 hm
def m99_34 : Nat → Int → Int → Int → Int → Int → Int → zS → Option (Int × zS)
  | 0, _, _, _, _, _, _, _ => none
  | n + 1, x2, x3, x4, x5, x6, x7, s => if (30 : Int) < x7 then some (x6, s) else oX x2 6 (oV (s.1 17 x2) fun z2 => oX x7 31 (oV (sI s 13 x7 z2) fun s4 => if x6 = (-1 : Int) then oC (m5 14 x2 s4) fun z7 s8 => if z7 = (0 : Int) then m99_82 (m99_34 n) x2 x3 x4 x5 x6 x7 s8 else m99_82 (m99_34 n) x2 x3 x4 x5 x7 x7 s8 else m99_82 (m99_34 n) x2 x3 x4 x5 x6 x7 s4))
theorem c99_34 {G : aHp} {d : Nat} (hG : zG G) : ∀ {n : Nat} {x2 : Int} {x3 : Int} {x4 : Int} {x5 : Int} {x6 : Int} {x7 : Int} {d1 : Option zV} {s : zS} {r_ : Int} {s_ : zS}, m99_34 n x2 x3 x4 x5 x6 x7 s = some (r_, s_) → Zp G (d + 6) 99 34 [some (zr 10 0 12), d1, some (zi x2), some (zi x3), some (zi x4), some (zi x5), some (zi x6), some (zi x7)] [] s (zRet (some (zi r_)) s_) := by
  intro n
  induction n with
  | zero => intro x2 x3 x4 x5 x6 x7 d1 s r_ s_ hm; cases hm
  | succ n ih =>
  intro x2 x3 x4 x5 x6 x7 d1 s r_ s_ hm
  replace hm : (if (30 : Int) < x7 then some (x6, s) else oX x2 6 (oV (s.1 17 x2) fun z2 => oX x7 31 (oV (sI s 13 x7 z2) fun s4 => if x6 = (-1 : Int) then oC (m5 14 x2 s4) fun z7 s8 => if z7 = (0 : Int) then m99_82 (m99_34 n) x2 x3 x4 x5 x6 x7 s8 else m99_82 (m99_34 n) x2 x3 x4 x5 x7 x7 s8 else m99_82 (m99_34 n) x2 x3 x4 x5 x6 x7 s4))) = some (r_, s_) := hm
  refine z_iload (pc' := 36) hM99 rfl rfl rfl ?_
  refine z_bipush (pc' := 38) hM99 rfl rfl rfl ?_
  refine z_cmpgt (pc' := 41) (t := 121) hM99 rfl rfl (fun h1 => ?_) (fun h1 => ?_)
  · replace hm := o_t hm h1
    refine z_iload (pc' := 123) hM99 rfl rfl rfl ?_
    cases hm
    exact z_retI hM99 rfl rfl ⟨rfl, rfl⟩
  · replace hm := o_f hm h1
    refine z_aload_n (pc' := 42) hM99 rfl rfl rfl ?_
    refine z_fldR (pc' := 45) hM99 rfl (zf_10_0 hG) rfl rfl ?_
    refine z_iload (pc' := 47) hM99 rfl rfl rfl ?_
    refine z_aload_n (pc' := 48) hM99 rfl rfl rfl ?_
    refine z_fldR (pc' := 51) hM99 rfl (zf_10_1 hG) rfl rfl ?_
    refine z_fldR (pc' := 54) hM99 rfl (zf_7_2 hG) rfl rfl ?_
    refine z_iload_n (pc' := 55) hM99 rfl rfl rfl ?_
    obtain ⟨h3, hm⟩ := o_x hm
    obtain ⟨z2, ez2, hm⟩ := o_v hm
    refine z_iald (pc' := 56) (zGN hG) hM99 rfl rfl h3 ez2 ?_
    obtain ⟨h5, hm⟩ := o_x hm
    obtain ⟨s4, es4, hm⟩ := o_v hm
    refine z_iast (pc' := 57) hM99 rfl rfl h5 es4 ?_
    refine z_iload (pc' := 59) hM99 rfl rfl rfl ?_
    refine z_iconst (pc' := 60) hM99 rfl rfl rfl ?_
    refine z_cmpne (pc' := 63) (t := 82) hM99 rfl rfl (fun h6 => ?_) (fun h6 => ?_)
    · replace hm := o_t hm h6
      refine z_aload_n (pc' := 64) hM99 rfl rfl rfl ?_
      refine z_fldR (pc' := 67) hM99 rfl (zf_10_2 hG) rfl rfl ?_
      refine z_aload_n (pc' := 68) hM99 rfl rfl rfl ?_
      refine z_fldR (pc' := 71) hM99 rfl (zf_10_1 hG) rfl rfl ?_
      refine z_iload_n (pc' := 72) hM99 rfl rfl rfl ?_
      obtain ⟨z7, s8, h9, hm⟩ := o_c hm
      refine z_cv (d := d + 5) (pc' := 75) hM99 rfl hM5 rfl rfl rfl rfl rfl rfl (c5 (d := d + 4) hG h9) rfl ?_
      refine z_ifeq (pc' := 78) (t := 82) hM99 rfl rfl (fun h10 => ?_) (fun h10 => ?_)
      · replace hm := o_t hm h10
        exact c99_82 hG ih hm
      · replace hm := o_f hm h10
        refine z_iload (pc' := 80) hM99 rfl rfl rfl ?_
        refine z_istore (pc' := 82) (l' := [some (zr 10 0 12), d1, some (zi x2), some (zi x3), some (zi x4), some (zi x5), some (zi x7), some (zi x7)]) hM99 rfl rfl rfl rfl ?_
        exact c99_82 hG ih hm
    · replace hm := o_f hm h6
      exact c99_82 hG ih hm
def m99 (a1 : Nat) (x2 : Int) (x3 : Int) (x4 : Int) (x5 : Int) (s : zS) : Option (Int × zS) := oC (m56 14 a1 s) fun z1 s2 => oX x2 6 (oV (sI s2 17 x2 (0 : Int)) fun s4 => oX x2 6 (oV (sI s4 18 x2 (0 : Int)) fun s6 => m99_34 zFu x2 x3 x4 x5 (-1 : Int) (0 : Int) s6))
theorem c99 {G : aHp} {d : Nat} (hG : zG G) {a1 : Nat} {x2 : Int} {x3 : Int} {x4 : Int} {x5 : Int} {s : zS} {r_ : Int} {s_ : zS} (hm : m99 a1 x2 x3 x4 x5 s = some (r_, s_)) : Zp G (d + 6) 99 0 [some (zr 10 0 12), some (zr 7 0 a1), some (zi x2), some (zi x3), some (zi x4), some (zi x5), none, none] [] s (zRet (some (zi r_)) s_) := by
  replace hm : (oC (m56 14 a1 s) fun z1 s2 => oX x2 6 (oV (sI s2 17 x2 (0 : Int)) fun s4 => oX x2 6 (oV (sI s4 18 x2 (0 : Int)) fun s6 => m99_34 zFu x2 x3 x4 x5 (-1 : Int) (0 : Int) s6))) = some (r_, s_) := hm
  refine z_iconst (pc' := 1) hM99 rfl rfl rfl ?_
  refine z_istore (pc' := 3) (l' := [some (zr 10 0 12), some (zr 7 0 a1), some (zi x2), some (zi x3), some (zi x4), some (zi x5), some (zi (-1 : Int)), none]) hM99 rfl rfl rfl rfl ?_
  refine z_aload_n (pc' := 4) hM99 rfl rfl rfl ?_
  refine z_fldR (pc' := 7) hM99 rfl (zf_10_1 hG) rfl rfl ?_
  refine z_aload_n (pc' := 8) hM99 rfl rfl rfl ?_
  obtain ⟨z1, s2, h3, hm⟩ := o_c hm
  refine z_cvV (d := d + 5) (pc' := 11) hM99 rfl hM56 rfl rfl rfl rfl rfl rfl (c56 (d := d) hG h3) rfl ?_
  refine z_aload_n (pc' := 12) hM99 rfl rfl rfl ?_
  refine z_fldR (pc' := 15) hM99 rfl (zf_10_1 hG) rfl rfl ?_
  refine z_fldR (pc' := 18) hM99 rfl (zf_7_2 hG) rfl rfl ?_
  refine z_iload_n (pc' := 19) hM99 rfl rfl rfl ?_
  refine z_iconst (pc' := 20) hM99 rfl rfl rfl ?_
  obtain ⟨h5, hm⟩ := o_x hm
  obtain ⟨s4, es4, hm⟩ := o_v hm
  refine z_iast (pc' := 21) hM99 rfl rfl h5 es4 ?_
  refine z_aload_n (pc' := 22) hM99 rfl rfl rfl ?_
  refine z_fldR (pc' := 25) hM99 rfl (zf_10_1 hG) rfl rfl ?_
  refine z_fldR (pc' := 28) hM99 rfl (zf_7_3 hG) rfl rfl ?_
  refine z_iload_n (pc' := 29) hM99 rfl rfl rfl ?_
  refine z_iconst (pc' := 30) hM99 rfl rfl rfl ?_
  obtain ⟨h7, hm⟩ := o_x hm
  obtain ⟨s6, es6, hm⟩ := o_v hm
  refine z_iast (pc' := 31) hM99 rfl rfl h7 es6 ?_
  refine z_iconst (pc' := 32) hM99 rfl rfl rfl ?_
  refine z_istore (pc' := 34) (l' := [some (zr 10 0 12), some (zr 7 0 a1), some (zi x2), some (zi x3), some (zi x4), some (zi x5), some (zi (-1 : Int)), some (zi (0 : Int))]) hM99 rfl rfl rfl rfl ?_
  exact c99_34 hG hm
def m3_24 (x1 : Int) (x2 : Int) (s : zS) : Option (Int × zS) := oV (sI s 20 1 x1) fun s1 => oV (sI s1 20 4 x2) fun s2 => oY 6 6 (0 : Int) (0 : Int) (6 : Int) (oV (sC s2 22 21 (0 : Int) (0 : Int) (6 : Int)) fun s3 => some (0, s3))
theorem c3_24 {G : aHp} {d : Nat} (hG : zG G) {x1 : Int} {x2 : Int} {s : zS} {r_ : Int} {s_ : zS} (hm : m3_24 x1 x2 s = some (r_, s_)) : Zp G (d + 5) 3 24 [some (zr 0 0 20), some (zi x1), some (zi x2)] [] s (zRet none s_) := by
  replace hm : (oV (sI s 20 1 x1) fun s1 => oV (sI s1 20 4 x2) fun s2 => oY 6 6 (0 : Int) (0 : Int) (6 : Int) (oV (sC s2 22 21 (0 : Int) (0 : Int) (6 : Int)) fun s3 => some (0, s3))) = some (r_, s_) := hm
  refine z_aload_n (pc' := 25) hM3 rfl rfl rfl ?_
  refine z_iload_n (pc' := 26) hM3 rfl rfl rfl ?_
  obtain ⟨s1, es1, hm⟩ := o_v hm
  refine z_putI (pc' := 29) hM3 rfl rfl rfl es1 ?_
  refine z_aload_n (pc' := 30) hM3 rfl rfl rfl ?_
  refine z_iload_n (pc' := 31) hM3 rfl rfl rfl ?_
  obtain ⟨s2, es2, hm⟩ := o_v hm
  refine z_putI (pc' := 34) hM3 rfl rfl rfl es2 ?_
  refine z_aload_n (pc' := 35) hM3 rfl rfl rfl ?_
  refine z_fldR (pc' := 38) hM3 rfl (zf_0_2 hG) rfl rfl ?_
  refine z_iconst (pc' := 39) hM3 rfl rfl rfl ?_
  refine z_aload_n (pc' := 40) hM3 rfl rfl rfl ?_
  refine z_fldR (pc' := 43) hM3 rfl (zf_0_0 hG) rfl rfl ?_
  refine z_iconst (pc' := 44) hM3 rfl rfl rfl ?_
  refine z_bipush (pc' := 46) hM3 rfl rfl rfl ?_
  obtain ⟨h4, hm⟩ := o_y hm
  obtain ⟨s3, es3, hm⟩ := o_v hm
  refine z_copy (pc' := 49) hM3 rfl (by omega) rfl rfl h4 es3 ?_
  cases hm
  exact z_retV hM3 rfl rfl ⟨rfl, rfl⟩
def m3 (x1 : Int) (x2 : Int) (s : zS) : Option (Int × zS) := oV (s.1 20 1) fun z1 => if z1 < x1 then m3_24 x1 x2 s else oV (s.1 20 1) fun z3 => if x1 = z3 then oV (s.1 20 4) fun z5 => if x2 < z5 then m3_24 x1 x2 s else some (0, s) else some (0, s)
theorem c3 {G : aHp} {d : Nat} (hG : zG G) {x1 : Int} {x2 : Int} {s : zS} {r_ : Int} {s_ : zS} (hm : m3 x1 x2 s = some (r_, s_)) : Zp G (d + 5) 3 0 [some (zr 0 0 20), some (zi x1), some (zi x2)] [] s (zRet none s_) := by
  replace hm : (oV (s.1 20 1) fun z1 => if z1 < x1 then m3_24 x1 x2 s else oV (s.1 20 1) fun z3 => if x1 = z3 then oV (s.1 20 4) fun z5 => if x2 < z5 then m3_24 x1 x2 s else some (0, s) else some (0, s)) = some (r_, s_) := hm
  refine z_iload_n (pc' := 1) hM3 rfl rfl rfl ?_
  refine z_aload_n (pc' := 2) hM3 rfl rfl rfl ?_
  obtain ⟨z1, ez1, hm⟩ := o_v hm
  refine z_fldI (pc' := 5) hM3 rfl rfl rfl ez1 ?_
  refine z_cmpgt (pc' := 8) (t := 24) hM3 rfl rfl (fun h2 => ?_) (fun h2 => ?_)
  · replace hm := o_t hm h2
    exact c3_24 hG hm
  · replace hm := o_f hm h2
    refine z_iload_n (pc' := 9) hM3 rfl rfl rfl ?_
    refine z_aload_n (pc' := 10) hM3 rfl rfl rfl ?_
    obtain ⟨z3, ez3, hm⟩ := o_v hm
    refine z_fldI (pc' := 13) hM3 rfl rfl rfl ez3 ?_
    refine z_cmpne (pc' := 16) (t := 49) hM3 rfl rfl (fun h4 => ?_) (fun h4 => ?_)
    · replace hm := o_t hm h4
      refine z_iload_n (pc' := 17) hM3 rfl rfl rfl ?_
      refine z_aload_n (pc' := 18) hM3 rfl rfl rfl ?_
      obtain ⟨z5, ez5, hm⟩ := o_v hm
      refine z_fldI (pc' := 21) hM3 rfl rfl rfl ez5 ?_
      refine z_cmpge (pc' := 24) (t := 49) hM3 rfl rfl (fun h6 => ?_) (fun h6 => ?_)
      · replace hm := o_t hm h6
        exact c3_24 hG hm
      · replace hm := o_f hm h6
        cases hm
        exact z_retV hM3 rfl rfl ⟨rfl, rfl⟩
    · replace hm := o_f hm h4
      cases hm
      exact z_retV hM3 rfl rfl ⟨rfl, rfl⟩
