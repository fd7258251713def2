/-! ===== days ===== -/
/-- a day's legs of one: where he is, the habit, legs walked -/
def dyL (f : Nat → Int → Int) (w p will day : Int) : Nat → (Int × Int × Int) → (Int × Int × Int)
  | 0, x => x
  | j + 1, x => if x.1 = f 246 (20 + 3 * w) then x else dyL f w p will day j (legTo f w p x.1 x.2.1 x.2.2 will day, legHb f w p x.1 x.2.1 x.2.2 will day, if x.2.2 < 999 then x.2.2 + 1 else 999)
/-- what they come to -/
def dyX (f : Nat → Int → Int) (N : Int → Int) (w : Int) : Int × Int × Int := dyL f w (N (10 + 3 * w)) (f 246 (19 + 3 * w)) (N 0) (f 248 4).toNat (N (11 + 3 * w) - 1, N (2 + N (10 + 3 * w)), N (12 + 3 * w))
/-- a row behind a day of one -/
def dyN (f : Nat → Int → Int) (N : Int → Int) (w : Int) (i : Int) : Int := if N (11 + 3 * w) = 0 then N i else if i = 11 + 3 * w then (dyX f N w).1 + 1 else if i = 2 + N (10 + 3 * w) then (dyX f N w).2.1 else if i = 12 + 3 * w then (dyX f N w).2.2 else N i
section
variable {f : Nat → Int → Int} {N : Int → Int} {w p will day : Int}
theorem dyL_t {j : Nat} {x : Int × Int × Int} (h : x.1 = f 246 (20 + 3 * w)) : ∀ j, dyL f w p will day j x = x := by
  intro j
  cases j with
  | zero => rfl
  | succ j => exact if_pos h
theorem dyL_s {j : Nat} {x : Int × Int × Int} (h : x.1 ≠ f 246 (20 + 3 * w)) : dyL f w p will day (j + 1) x = dyL f w p will day j (legTo f w p x.1 x.2.1 x.2.2 will day, legHb f w p x.1 x.2.1 x.2.2 will day, if x.2.2 < 999 then x.2.2 + 1 else 999) := if_neg h
theorem dyL_in (hL : mLand f) (hw0 : 0 ≤ w) (hw1 : w < f 242 6) (hp0 : 0 ≤ p) (hp1 : p < f 242 5) : ∀ (j : Nat) (x : Int × Int × Int), 0 ≤ x.1 → x.1 < f 242 4 → 0 ≤ x.2.1 → x.2.1 ≤ 9 → 0 ≤ x.2.2 → x.2.2 ≤ 999 → 0 ≤ (dyL f w p will day j x).1 ∧ (dyL f w p will day j x).1 < f 242 4 ∧ 0 ≤ (dyL f w p will day j x).2.1 ∧ (dyL f w p will day j x).2.1 ≤ 9 ∧ 0 ≤ (dyL f w p will day j x).2.2 ∧ (dyL f w p will day j x).2.2 ≤ 999 := by
  intro j
  induction j with
  | zero => intro x h1 h2 h3 h4 h5 h6; exact ⟨h1, h2, h3, h4, h5, h6⟩
  | succ j ih =>
    intro x h1 h2 h3 h4 h5 h6
    by_cases c : x.1 = f 246 (20 + 3 * w)
    · rw [dyL_t (j := 0) c]; exact ⟨h1, h2, h3, h4, h5, h6⟩
    · rw [dyL_s c]
      have := leg_in (will := will) (day := day) (wk := x.2.2) hL hw0 hw1 hp0 hp1 h1 h2 h3 h4
      refine ih _ this.1 this.2.1 this.2.2.1 this.2.2.2 ?_ ?_
      · show 0 ≤ (if x.2.2 < 999 then x.2.2 + 1 else 999); split <;> omega
      · show (if x.2.2 < 999 then x.2.2 + 1 else 999) ≤ 999; split <;> omega
theorem dyX_in {a b c : Int} (hL : mLand f) (ea : a = f 242 4) (eb : b = f 242 5) (ec : c = f 242 6) (hI : nInv a b c N) (hw0 : 0 ≤ w) (hw1 : w < c) (hne : N (11 + 3 * w) ≠ 0) : 0 ≤ (dyX f N w).1 ∧ (dyX f N w).1 < a ∧ 0 ≤ (dyX f N w).2.1 ∧ (dyX f N w).2.1 ≤ 9 ∧ 0 ≤ (dyX f N w).2.2 ∧ (dyX f N w).2.2 ≤ 999 := by
  have q := hI.2.2.2.1 w hw0 hw1
  have h := hI.2.2.1 (N (10 + 3 * w)) q.1 q.2.1
  rw [ea]
  unfold dyX
  exact dyL_in hL hw0 (by omega) q.1 (by omega) _ _ (by show 0 ≤ N (11 + 3 * w) - 1; omega) (by show N (11 + 3 * w) - 1 < _; omega) h.1 h.2 q.2.2.2.2.1 q.2.2.2.2.2
/-- cells that a day of one leaves -/
theorem dyN_o {i : Int} (h1 : i ≠ 11 + 3 * w) (h2 : i ≠ 2 + N (10 + 3 * w)) (h3 : i ≠ 12 + 3 * w) : dyN f N w i = N i := by
  unfold dyN
  by_cases c : N (11 + 3 * w) = 0
  · rw [if_pos c]
  · rw [if_neg c, if_neg h1, if_neg h2, if_neg h3]
theorem nInv_dy {a b c : Int} (hL : mLand f) (ea : a = f 242 4) (eb : b = f 242 5) (ec : c = f 242 6) (hI : nInv a b c N) (hw0 : 0 ≤ w) (hw1 : w < c) : nInv a b c (dyN f N w) := by
  by_cases hne : N (11 + 3 * w) = 0
  · have e : dyN f N w = N := funext fun i => if_pos hne
    rw [e]; exact hI
  have hx := dyX_in hL ea eb ec hI hw0 hw1 hne
  have hm := hL.1
  obtain ⟨z1, z2, z3, z4, z5, z6, z7, z8, z9⟩ := hI
  have y := z4 w hw0 hw1
  have o : ∀ i, i ≠ 11 + 3 * w → i ≠ 2 + N (10 + 3 * w) → i ≠ 12 + 3 * w → dyN f N w i = N i := fun i a b c => dyN_o a b c
  have o10 : ∀ v, 0 ≤ v → v < c → dyN f N w (10 + 3 * v) = N (10 + 3 * v) := fun v v0 v1 => o _ (by omega) (by omega) (by omega)
  have o29 : ∀ k, 0 ≤ k → dyN f N w (29 + k) = N (29 + k) := fun k k0 => o _ (by omega) (by omega) (by omega)
  refine ⟨?_, ?_, ?_, ?_, ?_, ?_, ?_, ?_, ?_⟩
  · rw [o 0 (by omega) (by omega) (by omega)]; exact z1
  · rw [o 1 (by omega) (by omega) (by omega)]; exact z2
  · intro q q0 q1
    by_cases e : q = N (10 + 3 * w)
    · unfold dyN
      rw [if_neg hne, if_neg (by omega), if_pos (by omega)]; exact ⟨hx.2.2.1, hx.2.2.2.1⟩
    · rw [o _ (by omega) (by omega) (by omega)]; exact z3 q q0 q1
  · intro v v0 v1
    rw [o10 v v0 v1]
    have yv := z4 v v0 v1
    by_cases e : v = w
    · subst e
      have e1 : dyN f N v (11 + 3 * v) = (dyX f N v).1 + 1 := by unfold dyN; rw [if_neg hne, if_pos rfl]
      have e2 : dyN f N v (12 + 3 * v) = (dyX f N v).2.2 := by unfold dyN; rw [if_neg hne, if_neg (by omega), if_neg (by omega), if_pos rfl]
      rw [e1, e2]
      exact ⟨yv.1, yv.2.1, by omega, by omega, hx.2.2.2.2.1, hx.2.2.2.2.2⟩
    · rw [o (11 + 3 * v) (by omega) (by omega) (by omega), o (12 + 3 * v) (by omega) (by omega) (by omega)]; exact yv
  · rw [o 28 (by omega) (by omega) (by omega)]; exact z5
  · intro k k0 k1; rw [o29 k k0]; exact z6 k k0 k1
  · intro v v' v0 v1 v2; rw [o10 v v0 (by omega), o10 v' (by omega) v2]; exact z7 v v' v0 v1 v2
  · intro j k j0 j1 j2; rw [o29 j j0, o29 k (by omega)]; exact z8 j k j0 j1 j2
  · intro v k v0 v1 k0 k1; rw [o10 v v0 v1, o29 k k0]; exact z9 v k v0 v1 k0 k1
end
section
variable {s : zS} {A L : Nat} {w : Int}
/-- what the class's day of one needs and keeps -/
abbrev dFr (A L : Nat) (a : Nat) (_ : Int) : Prop := a = A + 1 ∨ a = A + 3 ∨ a = A + 4 ∨ a = 11 ∨ a = L + 19 ∨ a = L + 22
theorem p7_31 {p will day : Int} {s0 : zS} (hLL : L = 43 ∨ L = 66) (hA : A = 28 ∨ A = 34) (hL : rLand s0.1 s0.2.1 L) (hM : s0.2.2 3 = L) (w0 : 0 ≤ w) (w1 : w < s0.1 242 6) (hp0 : 0 ≤ p) (hp1 : p < s0.1 242 5) (hpp : s0.1 (A + 2) w = p) (hday : s0.1 A 6 = day) (hd0 : 0 ≤ day) (hd1 : day ≤ 2000) (hi0 : 0 ≤ will) (hi1 : will ≤ 99) :
    ∀ (n j : Nat) (k : Int) (s : zS) (x : Int × Int × Int), k = s0.1 248 4 - (j : Int) → 0 ≤ k → j < n → s.1 (A + 3) w = x.1 → s.1 (A + 1) p = x.2.1 → s.1 (A + 4) w = x.2.2 → 0 ≤ x.1 → x.1 < s0.1 242 4 → 0 ≤ x.2.1 → x.2.1 ≤ 9 → 0 ≤ x.2.2 → x.2.2 ≤ 999 → Fr (wFr A L w p) s0 s → Ok (m7_31 n A w will k s) (fun _ t => t.1 (A + 3) w = (dyL s0.1 w p will day j x).1 ∧ t.1 (A + 1) p = (dyL s0.1 w p will day j x).2.1 ∧ t.1 (A + 4) w = (dyL s0.1 w p will day j x).2.2 ∧ Fr (wFr A L w p) s0 t) := by
  have hm := mLand_of hL
  have hwb := hm.1
  have hlegs : s0.1 L 18 = s0.1 248 4 := hL.2.2.2.2.2.1.1
  have hlb := hm.2.2.2.2.1
  have hgoal : s0.1 (L + 15) w = s0.1 246 (20 + 3 * w) := (hL.2.2.2.1 w w0 w1).2.2.1
  intro n
  induction n with
  | zero => intro j k s x _ _ h; omega
  | succ n ih =>
    intro j k s x hk k0 hj v1 v2 v3 x1 x2 x3 x4 x5 x6 hs
    have hMs : s.2.2 3 = L := by rw [hs.2.2]; exact hM
    rw [m7_31]
    refine k_v (k_v ?_)
    rw [hMs, hs.1 L 18 (by omega), hlegs]
    cases j with
    | zero => exact k_q (by omega) (k_r ⟨v1, v2, v3, hs⟩)
    | succ j =>
      refine k_p (by omega) (k_e (e5 w0 (by omega) hMs) ?_)
      rw [v1, hs.1 (L + 15) w (by omega), hgoal]
      by_cases c : x.1 = s0.1 246 (20 + 3 * w)
      · rw [if_pos c]
        refine k_q (by decide) (k_r ?_)
        rw [dyL_t (j := 0) c]
        exact ⟨v1, v2, v3, hs⟩
      · rw [if_neg c, dyL_s c]
        refine k_p rfl (k_x w0 (by omega) (k_v ?_))
        rw [hs.1 (A + 2) w (by omega), hpp]
        have eqs : eqL s0.1 s.1 := eqL_fr hs (fun a k q => by omega)
        have ls := rLand_sfr (B := wFr A L w p) hLL (fun a k q => by omega) hs hL
        have e242 : s.1 242 = s0.1 242 := eqs.1
        have d6 : s.1 A 6 = day := by rw [hs.1 A 6 (by omega)]; exact hday
        refine k_c (p8 (A := A) (L := L) (w := w) (p := p) (will := will) hLL (by omega) ls hMs w0 (by rw [e242]; exact w1) hp0 (by rw [e242]; exact hp1) (by rw [v1]; exact x1) (by rw [v1, e242]; exact x2) (by rw [v2]; exact x3) (by rw [v2]; exact x4) (by rw [v3]; exact x5) (by rw [v3]; exact x6) (by rw [d6]; exact hd0) (by rw [d6]; exact hd1) hi0 hi1) ?_
        intro _ t ht
        obtain ⟨y1, y2, y3, y4⟩ := ht
        rw [v1, v2, v3, d6, legTo_eq eqs] at y1
        rw [v1, v2, v3, d6, legHb_eq eqs] at y2
        rw [v3] at y3
        have lin := leg_in (will := will) (day := day) (wk := x.2.2) hm w0 w1 hp0 hp1 x1 x2 x3 x4
        refine k_z (by omega) (by omega) (ih j (k + 1) t _ (by omega) (by omega) (by omega) y1 y2 y3 lin.1 lin.2.1 lin.2.2.1 lin.2.2.2 ?_ ?_ (fr_trans hs y4))
        · show 0 ≤ (if x.2.2 < 999 then x.2.2 + 1 else 999); split <;> omega
        · show (if x.2.2 < 999 then x.2.2 + 1 else 999) ≤ 999; split <;> omega
/-- the class's day of one -/
theorem p7 {N : Int → Int} (hLL : L = 43 ∨ L = 66) (hA : A = 28 ∨ A = 34) (hL : rLand s.1 s.2.1 L) (hM : s.2.2 3 = L) (hS : sRel s.1 A N) (hI : nInv (s.1 242 4) (s.1 242 5) (s.1 242 6) N) (w0 : 0 ≤ w) (w1 : w < s.1 242 6) : Ok (m7 A w s) (fun _ t => sRel t.1 A (dyN s.1 N w) ∧ Fr (dFr A L) s t) := by
  have hm := mLand_of hL
  obtain ⟨a1, a2, a3, a4, a5, a6⟩ := hm.1
  obtain ⟨z1, z2, z3, z4, z5, z6⟩ := hS
  have yw := z4 w w0 w1
  have hw := hI.2.2.2.1 w w0 w1
  have hwk := hL.2.2.2.1 w w0 w1
  unfold m7
  refine k_v (k_x w0 (by omega) (k_v ?_))
  rw [yw.2.1]
  refine k_i (fun c => ?_) (fun c => ?_)
  · have e : dyN s.1 N w = N := funext fun i => if_pos (by omega)
    rw [e]
    exact k_r ⟨⟨z1, z2, z3, z4, z5, z6⟩, fr_refl⟩
  refine k_v ?_
  rw [hM]
  refine k_x w0 (by omega) (k_v ?_)
  have hhb := hI.2.2.1 (N (10 + 3 * w)) hw.1 hw.2.1
  have h248 := hm.2.2.2.2.1
  refine k_m (p7_31 (A := A) (L := L) (w := w) (p := N (10 + 3 * w)) (will := s.1 (L + 14) w) (day := N 0) (s0 := s) hLL hA hL hM w0 w1 hw.1 hw.2.1 yw.1 z1 hI.1.1 (by have := hI.1.2; omega) (by omega) (by omega) zFu (s.1 248 4).toNat 0 s (N (11 + 3 * w) - 1, N (2 + N (10 + 3 * w)), N (12 + 3 * w)) (by omega) (by omega) (by unfold zFu; omega) yw.2.1 (z3 _ hw.1 hw.2.1) yw.2.2 (by show 0 ≤ N (11 + 3 * w) - 1; omega) (by show N (11 + 3 * w) - 1 < _; omega) hhb.1 hhb.2 hw.2.2.2.2.1 hw.2.2.2.2.2 fr_refl) ?_
  intro _ t ht
  rw [hwk.2.1] at ht
  obtain ⟨y1, y2, y3, y4⟩ := ht
  change t.1 (A + 3) w = (dyX s.1 N w).1 at y1
  change t.1 (A + 1) (N (10 + 3 * w)) = (dyX s.1 N w).2.1 at y2
  change t.1 (A + 4) w = (dyX s.1 N w).2.2 at y3
  have hne : N (11 + 3 * w) ≠ 0 := by omega
  have g242 : ∀ q, t.1 242 q = s.1 242 q := fun q => y4.1 242 q (by omega)
  refine ⟨⟨?_, ?_, ?_, ?_, ?_, ?_⟩, fr_mono (fun a k q => by omega) y4⟩
  · rw [y4.1 A 6 (by omega), dyN_o (by omega) (by omega) (by omega)]; exact z1
  · rw [y4.1 A 7 (by omega), dyN_o (by omega) (by omega) (by omega)]; exact z2
  · intro q q0 q1
    rw [g242] at q1
    by_cases e : q = N (10 + 3 * w)
    · rw [e, y2]; unfold dyN; rw [if_neg hne, if_neg (by omega), if_pos rfl]
    · rw [y4.1 (A + 1) q (by omega), dyN_o (by omega) (by omega) (by omega)]; exact z3 q q0 q1
  · intro v v0 v1
    rw [g242] at v1
    have yv := z4 v v0 v1
    have e10 : dyN s.1 N w (10 + 3 * v) = N (10 + 3 * v) := dyN_o (by omega) (by omega) (by omega)
    rw [e10, y4.1 (A + 2) v (by omega)]
    by_cases e : v = w
    · subst e
      have e1 : dyN s.1 N v (11 + 3 * v) = (dyX s.1 N v).1 + 1 := by unfold dyN; rw [if_neg hne, if_pos rfl]
      have e2 : dyN s.1 N v (12 + 3 * v) = (dyX s.1 N v).2.2 := by unfold dyN; rw [if_neg hne, if_neg (by omega), if_neg (by omega), if_pos rfl]
      rw [e1, e2, y1, y3]
      exact ⟨yv.1, by omega, rfl⟩
    · rw [dyN_o (i := 11 + 3 * v) (by omega) (by omega) (by omega), dyN_o (i := 12 + 3 * v) (by omega) (by omega) (by omega), y4.1 (A + 3) v (by omega), y4.1 (A + 4) v (by omega)]; exact yv
  · rw [y4.1 A 5 (by omega), dyN_o (by omega) (by omega) (by omega)]; exact z5
  · intro k k0 k1
    rw [dyN_o (by omega) (by omega) (by omega)] at k1
    rw [y4.1 (A + 5) k (by omega), dyN_o (by omega) (by omega) (by omega)]; exact z6 k k0 k1
end
