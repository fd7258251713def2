/-! ===== a walker; who gets which pair ===== -/
theorem t110 : T110 := by
  intro n s x y hx hy hR hn
  have h := R_up hR
  have hM := R_M3 hR
  obtain ⟨b1, b2, b3, b4, b5, b6, b7, b8, b9, b10⟩ := R_cnt hR
  have ec : m110 x y s = (if (if 0 ≤ x ∧ x < s.1 242 6 then (1 : Int) else 0) = 0 then some ((-1 : Int), s) else if y = 0 then oV (s.2.2 1) fun w7 => oX x 6 (oV (s.1 (w7 + 13) x) fun z8 => some (z8, s)) else if y = 1 then oV (s.2.2 1) fun w11 => oX x 6 (oV (s.1 (w11 + 14) x) fun z12 => some (z12, s)) else if y = 2 then oV (s.2.2 1) fun w15 => oX x 6 (oV (s.1 (w15 + 15) x) fun z16 => some (z16, s)) else if y = 3 then oX x 6 (oV (s.1 30 x) fun z19 => some (z19, s)) else if y = 4 then oX x 6 (oV (s.1 31 x) fun z22 => some (z22, s)) else if y = 5 then oX x 6 (oV (s.1 32 x) fun z25 => some (z25, s)) else if y = 6 then oC (m5 28 x s) fun z28 s29 => if z28 = (0 : Int) then some ((0 : Int), s29) else some ((1 : Int), s29) else some ((-1 : Int), s)) := by
    unfold m110
    rw [oV_eq, e50, oC_some, b6]
  have em : m212 x y s = (if (if 0 ≤ x ∧ x < s.1 242 6 then (1 : Int) else 0) = 0 then some ((-1 : Int), s) else if y = 0 then oZ (3 * x) fun z6 => oZ (18 + z6) fun z8 => oZ (z8 + y) fun z10 => oX z10 36 (oV (s.1 246 z10) fun z12 => some (z12, s)) else if y = 1 then oZ (3 * x) fun z15 => oZ (18 + z15) fun z17 => oZ (z17 + y) fun z19 => oX z19 36 (oV (s.1 246 z19) fun z21 => some (z21, s)) else if y = 2 then oZ (3 * x) fun z24 => oZ (18 + z24) fun z26 => oZ (z26 + y) fun z28 => oX z28 36 (oV (s.1 246 z28) fun z30 => some (z30, s)) else if y = 3 then oC (m188 x s) fun z33 s34 => some (z33, s34) else if y = 4 then oC (m189 x s) fun z37 s38 => some (z37, s38) else if y = 5 then oC (m190 x s) fun z41 s42 => some (z41, s42) else if y = 6 then oC (m193 x s) fun z45 s46 => if z45 = (0 : Int) then some ((0 : Int), s46) else some ((1 : Int), s46) else some ((-1 : Int), s)) := by
    unfold m212
    rw [e186 (by omega) (by omega), oC_some]
  by_cases c : 0 ≤ x ∧ x < s.1 242 6
  · rw [if_pos c, if_neg (by decide)] at ec em
    have hp := (R_land hR).2.2.2.1 x c.1 c.2
    have hw := R_w hR c.1 c.2
    by_cases c0 : y = 0
    · rw [if_pos c0, oV_eq, oX_pos (by omega) (by omega), oV_eq] at ec
      rw [if_pos c0, oZ_pos (by omega) (by omega), oZ_pos (by omega) (by omega), oZ_pos (by omega) (by omega), oX_pos (by omega) (by omega), oV_eq, show 18 + 3 * x + y = 18 + 3 * x by omega] at em
      exact two_e ec em hp.1 h
    rw [if_neg c0] at ec em
    by_cases c1 : y = 1
    · rw [if_pos c1, oV_eq, oX_pos (by omega) (by omega), oV_eq] at ec
      rw [if_pos c1, oZ_pos (by omega) (by omega), oZ_pos (by omega) (by omega), oZ_pos (by omega) (by omega), oX_pos (by omega) (by omega), oV_eq, show 18 + 3 * x + y = 19 + 3 * x by omega] at em
      exact two_e ec em hp.2.1 h
    rw [if_neg c1] at ec em
    by_cases c2 : y = 2
    · rw [if_pos c2, oV_eq, oX_pos (by omega) (by omega), oV_eq] at ec
      rw [if_pos c2, oZ_pos (by omega) (by omega), oZ_pos (by omega) (by omega), oZ_pos (by omega) (by omega), oX_pos (by omega) (by omega), oV_eq, show 18 + 3 * x + y = 20 + 3 * x by omega] at em
      exact two_e ec em hp.2.2.1 h
    rw [if_neg c2] at ec em
    by_cases c3 : y = 3
    · rw [if_pos c3, oX_pos (by omega) (by omega), oV_eq] at ec
      rw [if_pos c3, e188 c.1 (by omega), oC_some] at em
      exact two_e ec em hw.1 h
    rw [if_neg c3] at ec em
    by_cases c4 : y = 4
    · rw [if_pos c4, oX_pos (by omega) (by omega), oV_eq] at ec
      rw [if_pos c4, e189 c.1 (by omega) (by omega) (by omega), oC_some] at em
      exact two_e ec em hw.2.1 h
    rw [if_neg c4] at ec em
    by_cases c5 : y = 5
    · rw [if_pos c5, oX_pos (by omega) (by omega), oV_eq] at ec
      rw [if_pos c5, e190 c.1 (by omega), oC_some] at em
      exact two_e ec em hw.2.2.1 h
    rw [if_neg c5] at ec em
    by_cases c6 : y = 6
    · rw [if_pos c6, e5 c.1 (by omega) hM, oC_some] at ec
      rw [if_pos c6, e193 c.1 (by omega) (by omega) (by omega), oC_some] at em
      have e1 : s.1 (28 + 3) x = s.1 254 (11 + 3 * x) - 1 := hw.2.1
      rw [e1, R_goal hR c.1 c.2] at ec
      by_cases c7 : s.1 254 (11 + 3 * x) - 1 = s.1 246 (20 + 3 * x)
      · rw [if_pos c7, if_neg (by decide)] at ec em
        exact two_e ec em rfl h
      · rw [if_neg c7, if_pos rfl] at ec em
        exact two_e ec em rfl h
    rw [if_neg c6] at ec em
    exact two_e ec em rfl h
  · rw [if_neg c, if_pos rfl] at ec em
    exact two_e ec em rfl h
/-- which on the shelf: by how tight each is -/
def chs (g : Int → Int) (law : Int) : Nat → Int → Int → Int
  | 0, b, _ => b
  | j + 1, b, k => if 0 < g b - g k ∨ (g b - g k = 0 ∧ law = 1) then chs g law j k (k + 1) else chs g law j b (k + 1)
theorem chs_in {g : Int → Int} {law : Int} : ∀ (j : Nat) (b k : Int), 0 ≤ b → b < k → 0 ≤ chs g law j b k ∧ chs g law j b k < k + (j : Int) := by
  intro j
  induction j with
  | zero => intro b k h1 h2; exact ⟨h1, by show b < k + 0; omega⟩
  | succ j ih =>
    intro b k h1 h2
    unfold chs
    split
    · have := ih k (k + 1) (by omega) (by omega); omega
    · have := ih b (k + 1) h1 (by omega); omega
theorem chs_congr {g g' : Int → Int} {law m : Int} (h : ∀ k, 0 ≤ k → k < m → g k = g' k) : ∀ (j : Nat) (b k : Int), 0 ≤ b → b < k → k + (j : Int) ≤ m → chs g law j b k = chs g' law j b k := by
  intro j
  induction j with
  | zero => intro b k _ _ _; rfl
  | succ j ih =>
    intro b k h1 h2 h3
    show (if _ then _ else _) = (if _ then _ else _)
    rw [h b (by omega) (by omega), h k (by omega) (by omega), ih k (k + 1) (by omega) (by omega) (by omega), ih b (k + 1) h1 (by omega) (by omega)]
/-- the choice: c on the shelf -/
def chc (g : Int → Int) (law c : Int) : Int := if law = 2 then 0 else chs g law (c - 1).toNat 0 1
theorem chc_in {g : Int → Int} {law c : Int} (h : 1 ≤ c) : 0 ≤ chc g law c ∧ chc g law c < c := by
  unfold chc
  split
  · omega
  · have := chs_in (g := g) (law := law) (c - 1).toNat 0 1 (by omega) (by omega)
    omega
section
variable {s : zS} {A L : Nat} {w law : Int}
/-- the class's, on a State -/
theorem e61_23 (hL : rLand s.1 s.2.1 L) (w0 : 0 ≤ w) (w1 : w < s.1 242 6) (hc : s.1 A 5 ≤ 8) (hsh : ∀ k, 0 ≤ k → k < s.1 A 5 → 0 ≤ s.1 (A + 5) k ∧ s.1 (A + 5) k < s.1 242 5) : ∀ (n j : Nat) (b k : Int), 0 ≤ b → b < k → k = s.1 A 5 - (j : Int) → j < n → m61_23 n A L w law b k s = some (chs (fun k => tgt s.1 w (s.1 (A + 5) k)) law j b k, s) := by
  have hm := mLand_of hL
  intro n
  induction n with
  | zero => intro j b k _ _ _ h; omega
  | succ n ih =>
    intro j b k b0 b1 hk hj
    rw [m61_23, oV_eq]
    cases j with
    | zero => rw [if_neg (by omega)]; rfl
    | succ j =>
      have q1 := hsh b b0 (by omega)
      have q2 := hsh k (by omega) (by omega)
      have t1 := tgt_in hm w0 w1 q1.1 q1.2
      have t2 := tgt_in hm w0 w1 q2.1 q2.2
      rw [if_pos (by omega), oX_pos b0 (by omega), oV_eq, e42 hL w0 w1 q1.1 q1.2, oC_some, oX_pos (by omega) (by omega), oV_eq, e42 hL w0 w1 q2.1 q2.2, oC_some, oZ_pos (by omega) (by omega)]
      show _ = some (if 0 < tgt s.1 w (s.1 (A + 5) b) - tgt s.1 w (s.1 (A + 5) k) ∨ (tgt s.1 w (s.1 (A + 5) b) - tgt s.1 w (s.1 (A + 5) k) = 0 ∧ law = 1) then _ else _, s)
      have i1 := ih j k (k + 1) (by omega) (by omega) (by omega) (by omega)
      have i2 := ih j b (k + 1) b0 (by omega) (by omega) (by omega)
      by_cases c1 : 0 < tgt s.1 w (s.1 (A + 5) b) - tgt s.1 w (s.1 (A + 5) k)
      · rw [if_pos c1, if_pos (Or.inl c1), oZ_pos (by omega) (by omega), i1]
      rw [if_neg c1]
      by_cases c2 : tgt s.1 w (s.1 (A + 5) b) - tgt s.1 w (s.1 (A + 5) k) = 0
      · rw [if_pos c2]
        by_cases c3 : law = 1
        · rw [if_pos c3, if_pos (Or.inr ⟨c2, c3⟩), oZ_pos (by omega) (by omega), i1]
        · rw [if_neg c3, if_neg (fun z => z.elim c1 (fun z => c3 z.2)), oZ_pos (by omega) (by omega), i2]
      · rw [if_neg c2, if_neg (fun z => z.elim c1 (fun z => c2 z.1)), oZ_pos (by omega) (by omega), i2]
theorem e61 (hL : rLand s.1 s.2.1 L) (w0 : 0 ≤ w) (w1 : w < s.1 242 6) (hc0 : 1 ≤ s.1 A 5) (hc : s.1 A 5 ≤ 8) (hsh : ∀ k, 0 ≤ k → k < s.1 A 5 → 0 ≤ s.1 (A + 5) k ∧ s.1 (A + 5) k < s.1 242 5) : m61 A L w law s = some (chc (fun k => tgt s.1 w (s.1 (A + 5) k)) law (s.1 A 5), s) := by
  unfold m61 chc
  rw [oV_eq, if_neg (by omega)]
  by_cases c : law = 2
  · rw [if_pos c, if_pos c]
  · rw [if_neg c, if_neg c]
    exact e61_23 hL w0 w1 hc hsh zFu (s.1 A 5 - 1).toNat 0 1 (by omega) (by omega) (by omega) (by unfold zFu; omega)
/-- the reference's -/
theorem e214_5 (hm : mLand s.1) (w0 : 0 ≤ w) (w1 : w < s.1 242 6) (hc : s.1 254 28 ≤ 8) (hlaw : law < 2) (hsh : ∀ k, 0 ≤ k → k < s.1 254 28 → 0 ≤ s.1 254 (29 + k) ∧ s.1 254 (29 + k) < s.1 242 5) : ∀ (n j : Nat) (b k : Int), 0 ≤ b → b < k → k = s.1 254 28 - (j : Int) → j < n → m214_5 n w law b k s = some (chs (fun k => tgt s.1 w (s.1 254 (29 + k))) law j b k, s) := by
  intro n
  induction n with
  | zero => intro j b k _ _ _ h; omega
  | succ n ih =>
    intro j b k b0 b1 hk hj
    rw [m214_5, oX_pos (by omega) (by omega), oV_eq]
    cases j with
    | zero => rw [if_neg (by omega)]; rfl
    | succ j =>
      have q1 := hsh b b0 (by omega)
      have q2 := hsh k (by omega) (by omega)
      have t1 := tgt_in hm w0 w1 q1.1 q1.2
      have t2 := tgt_in hm w0 w1 q2.1 q2.2
      rw [if_pos (by omega), if_pos hlaw, oZ_pos (by omega) (by omega), oX_pos (by omega) (by omega), oV_eq, e194 hm w0 w1 q1.1 q1.2, oC_some, oZ_pos (by omega) (by omega), oX_pos (by omega) (by omega), oV_eq, e194 hm w0 w1 q2.1 q2.2, oC_some, oZ_pos (by omega) (by omega)]
      show _ = some (if 0 < tgt s.1 w (s.1 254 (29 + b)) - tgt s.1 w (s.1 254 (29 + k)) ∨ (tgt s.1 w (s.1 254 (29 + b)) - tgt s.1 w (s.1 254 (29 + k)) = 0 ∧ law = 1) then _ else _, s)
      have i1 := ih j k (k + 1) (by omega) (by omega) (by omega) (by omega)
      have i2 := ih j b (k + 1) b0 (by omega) (by omega) (by omega)
      by_cases c1 : 0 < tgt s.1 w (s.1 254 (29 + b)) - tgt s.1 w (s.1 254 (29 + k))
      · rw [if_pos c1, if_pos (Or.inl c1), oZ_pos (by omega) (by omega), i1]
      rw [if_neg c1]
      by_cases c2 : tgt s.1 w (s.1 254 (29 + b)) - tgt s.1 w (s.1 254 (29 + k)) = 0
      · rw [if_pos c2]
        by_cases c3 : law = 1
        · rw [if_pos c3, if_pos (Or.inr ⟨c2, c3⟩), oZ_pos (by omega) (by omega), i1]
        · rw [if_neg c3, if_neg (fun z => z.elim c1 (fun z => c3 z.2)), oZ_pos (by omega) (by omega), i2]
      · rw [if_neg c2, if_neg (fun z => z.elim c1 (fun z => c2 z.1)), oZ_pos (by omega) (by omega), i2]
theorem e214 (hm : mLand s.1) (w0 : 0 ≤ w) (w1 : w < s.1 242 6) (hc0 : 1 ≤ s.1 254 28) (hc : s.1 254 28 ≤ 8) (hlaw : law ≤ 2) (hsh : ∀ k, 0 ≤ k → k < s.1 254 28 → 0 ≤ s.1 254 (29 + k) ∧ s.1 254 (29 + k) < s.1 242 5) : m214 w law s = some (chc (fun k => tgt s.1 w (s.1 254 (29 + k))) law (s.1 254 28), s) := by
  unfold m214 chc
  by_cases c : law = 2
  · rw [if_pos c]
    have hz : zFu = 999999 + 1 := rfl
    rw [hz, m214_5, oX_pos (by omega) (by omega), oV_eq]
    split
    · rw [if_neg (by omega)]
    · rfl
  · rw [if_neg c]
    exact e214_5 hm w0 w1 hc (by omega) hsh zFu (s.1 254 28 - 1).toNat 0 1 (by omega) (by omega) (by omega) (by unfold zFu; omega)
end
section
variable {n : Nat} {s : zS} {x : Int}
theorem R_sh (h : R n s) : ∀ k, 0 ≤ k → k < s.1 254 28 → 0 ≤ s.1 254 (29 + k) ∧ s.1 254 (29 + k) < s.1 242 5 := by
  obtain ⟨hN, hI⟩ := R_now h
  intro k k0 k1
  have e : s.1 254 28 = s.1 242 5 - s.1 242 6 := hI.2.2.2.2.1
  exact hI.2.2.2.2.2.1 k k0 (by omega)
theorem R_28 (h : R n s) : s.1 254 28 = s.1 242 5 - s.1 242 6 := (R_now h).2.2.2.2.2.1
theorem R_285 (h : R n s) : s.1 28 5 = s.1 254 28 := (R_now h).1.2.2.2.2.1
theorem R_33 (h : R n s) : ∀ k, 0 ≤ k → k < s.1 254 28 → s.1 33 k = s.1 254 (29 + k) := (R_now h).1.2.2.2.2.2
theorem R_287 (h : R n s) : s.1 28 7 = s.1 254 1 ∧ 0 ≤ s.1 254 1 ∧ s.1 254 1 ≤ 2 := ⟨(R_now h).1.2.1, (R_now h).2.2.1.1, (R_now h).2.2.1.2⟩
theorem e137 (h : R n s) : m137 x s = some (if (0 ≤ x ∧ x < s.1 242 6) ∧ s.1 254 (11 + 3 * x) = 0 then 1 else 0, s) := by
  obtain ⟨b1, b2, b3, b4, b5, b6, b7, b8, b9, b10⟩ := R_cnt h
  unfold m137
  rw [oV_eq, e50, oC_some, b6]
  by_cases c : 0 ≤ x ∧ x < s.1 242 6
  · have hw := R_w h c.1 c.2
    rw [if_pos c, if_neg (by decide), oX_pos c.1 (by omega), oV_eq, hw.2.1]
    by_cases d : s.1 254 (11 + 3 * x) = 0
    · rw [if_pos (by omega), if_pos ⟨c, d⟩]
    · rw [if_neg (by omega), if_neg (fun z => d z.2)]
  · rw [if_neg c, if_pos rfl, if_neg (fun z => c z.1)]
theorem e215 (h : R n s) : m215 x s = some (if ((0 ≤ x ∧ x < s.1 242 6) ∧ s.1 254 (11 + 3 * x) = 0) ∧ 0 < s.1 254 28 then 1 else 0, s) := by
  obtain ⟨b1, b2, b3, b4, b5, b6, b7, b8, b9, b10⟩ := R_cnt h
  unfold m215
  rw [e186 b7 b8, oC_some]
  by_cases c : 0 ≤ x ∧ x < s.1 242 6
  · have hw := R_w h c.1 c.2
    rw [if_pos c, if_neg (by decide), e189 c.1 (by omega) (by omega) (by omega), oC_some]
    by_cases d : s.1 254 (11 + 3 * x) = 0
    · rw [if_pos (by omega), oX_pos (by omega) (by omega), oV_eq]
      by_cases e : 0 < s.1 254 28
      · rw [if_pos e, if_pos ⟨⟨c, d⟩, e⟩]
      · rw [if_neg e, if_neg (fun z => e z.2)]
    · rw [if_neg (by omega), if_neg (fun z => d z.1.2)]
  · rw [if_neg c, if_pos rfl, if_neg (fun z => c z.1.1)]
/-- both choose alike -/
theorem R_chc (h : R n s) (law : Int) (w : Int) (hc : 1 ≤ s.1 254 28) : chc (fun k => tgt s.1 w (s.1 33 k)) law (s.1 28 5) = chc (fun k => tgt s.1 w (s.1 254 (29 + k))) law (s.1 254 28) := by
  have h33 := R_33 h
  rw [R_285 h]
  unfold chc
  split
  · rfl
  · exact chs_congr (m := s.1 254 28) (fun k k0 k1 => by rw [h33 k k0 k1]) _ 0 1 (by omega) (by omega) (by omega)
end
theorem t112 : T112 := by
  intro n s x hx hR hn
  have h := R_up hR
  obtain ⟨b1, b2, b3, b4, b5, b6, b7, b8, b9, b10⟩ := R_cnt hR
  have h28 := R_28 hR
  have h285 := R_285 hR
  have h287 := R_287 hR
  have h33 := R_33 hR
  have hsh := R_sh hR
  unfold Two m112
  refine k_e (e137 hR) ?_
  by_cases c : (0 ≤ x ∧ x < s.1 242 6) ∧ s.1 254 (11 + 3 * x) = 0
  · rw [if_pos c]
    refine k_q (by decide) (k_v (k_v ?_))
    by_cases d : 0 < s.1 254 28
    · have hin := chc_in (g := fun k => tgt s.1 x (s.1 33 k)) (law := s.1 28 7) (c := s.1 28 5) (by omega)
      have e := R_chc hR (s.1 28 7) x (by omega)
      refine k_e (e61 (A := 28) (R_land hR) c.1.1 c.1.2 (by omega) (by omega) (fun k k0 k1 => by rw [show s.1 (28 + 5) k = s.1 33 k from rfl, h33 k k0 (by omega)]; exact hsh k k0 (by omega))) ?_
      refine k_q (by show ¬ chc (fun k => tgt s.1 x (s.1 33 k)) (s.1 28 7) (s.1 28 5) = -1; omega) (k_x (by show 0 ≤ chc (fun k => tgt s.1 x (s.1 33 k)) (s.1 28 7) (s.1 28 5); omega) (by show chc (fun k => tgt s.1 x (s.1 33 k)) (s.1 28 7) (s.1 28 5) < 8; omega) (k_v (k_r ?_)))
      unfold m216
      refine k_e (e215 hR) ?_
      rw [if_pos (show ((0 ≤ x ∧ x < s.1 242 6) ∧ s.1 254 (11 + 3 * x) = 0) ∧ 0 < s.1 254 28 from ⟨c, d⟩)]
      refine k_q (by decide) (k_x (by omega) (by omega) (k_v (k_e (e214 (R_ml hR) c.1.1 c.1.2 (by omega) (by omega) (by omega) hsh) ?_)))
      have hin' := chc_in (g := fun k => tgt s.1 x (s.1 254 (29 + k))) (law := s.1 254 1) (c := s.1 254 28) (by omega)
      refine k_z (by omega) (by omega) (k_x (by omega) (by omega) (k_v (k_r ⟨?_, h⟩)))
      show s.1 33 (chc (fun k => tgt s.1 x (s.1 33 k)) (s.1 28 7) (s.1 28 5)) = _
      rw [e, h287.1, h33 _ hin'.1 hin'.2]
    · have e61' : m61 28 (s.2.2 1) x (s.1 28 7) s = some (-1, s) := by
        unfold m61; rw [oV_eq, if_pos (by omega)]
      refine k_e e61' (k_p rfl (k_r ?_))
      unfold m216
      refine k_e (e215 hR) ?_
      rw [if_neg (show ¬ (((0 ≤ x ∧ x < s.1 242 6) ∧ s.1 254 (11 + 3 * x) = 0) ∧ 0 < s.1 254 28) from fun z => d z.2)]
      exact k_p rfl (k_r ⟨rfl, h⟩)
  · rw [if_neg c]
    refine k_p rfl (k_r ?_)
    unfold m216
    refine k_e (e215 hR) ?_
    rw [if_neg (show ¬ (((0 ≤ x ∧ x < s.1 242 6) ∧ s.1 254 (11 + 3 * x) = 0) ∧ 0 < s.1 254 28) from fun z => c z.1)]
    exact k_p rfl (k_r ⟨rfl, h⟩)
