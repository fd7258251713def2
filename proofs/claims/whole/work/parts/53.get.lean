/-! ===== small ones ===== -/
section
variable {n : Nat} {s s1 s2 : zS} {x y a b r r' : Int}
theorem two_e {u : Option (Int × zS)} {v : zS → Option (Int × zS)} (h1 : u = some (r, s1)) (h2 : v s1 = some (r', s2)) (e : r = r') (hR : R (n + 1) s2) : Two n u v := ⟨r, s1, h1, r', s2, h2, e, hR⟩
theorem zcmp_lt : zCmp x y < 0 ↔ x < y := by unfold zCmp; split <;> (try split) <;> omega
theorem zcmp_gt : 0 < zCmp x y ↔ y < x := by unfold zCmp; split <;> (try split) <;> omega
theorem zcmp_eq : zCmp x y = 0 ↔ x = y := by unfold zCmp; split <;> (try split) <;> omega
theorem e150 : m150 x a b s = some (if a ≤ x ∧ x ≤ b then 1 else 0, s) := by
  unfold m150
  simp only [oV, zcmp_lt, zcmp_gt]
  split
  · rw [if_neg (by omega)]
  · split
    · rw [if_neg (by omega)]
    · rw [if_pos (by omega)]
theorem oZ_pos {α : Type} {k : Int → Option α} (h1 : -2147483648 ≤ x) (h2 : x ≤ 2147483647) : oZ x k = k x := by unfold oZ; rw [if_pos ⟨h1, h2⟩]
theorem oJ_pos {α : Type} {k : Int → Option α} (h1 : -9223372036854775808 ≤ x) (h2 : x ≤ 9223372036854775807) : oJ x k = k x := by unfold oJ; rw [if_pos ⟨h1, h2⟩]
theorem oX_pos {α : Type} {i : Int} {m : Nat} {k : Option α} (h1 : 0 ≤ i) (h2 : i < (m : Int)) : oX i m k = k := by unfold oX; rw [if_pos ⟨h1, h2⟩]
theorem oC_some {α : Type} {k : Int → zS → Option α} : oC (some (r, s)) k = k r s := rfl
theorem oV_eq {α β : Type} {z : β} {k : β → Option α} : oV z k = k z := rfl
theorem oD_pos {α : Type} {k : Option α} (h : x = 0 ∨ x = 1) : oD x k = k := by unfold oD; rw [if_pos h]
theorem oN_pos {α : Type} {k : Option α} (h : x ≠ 0) : oN x k = k := by unfold oN; rw [if_neg h]
theorem e50 {c : Nat} : m50 c x s = some (if 0 ≤ x ∧ x < s.1 c 0 then 1 else 0, s) := by
  unfold m50
  simp only [oV]
  split
  · rw [if_neg (by omega)]
  · split
    · rw [if_pos (by omega)]
    · rw [if_neg (by omega)]
theorem e181 : m181 s = some (s.1 242 4, s) := by unfold m181; rw [oX_pos (by omega) (by omega)]; rfl
theorem e182 : m182 s = some (s.1 242 5, s) := by unfold m182; rw [oX_pos (by omega) (by omega)]; rfl
theorem e183 : m183 s = some (s.1 242 6, s) := by unfold m183; rw [oX_pos (by omega) (by omega)]; rfl
theorem if01 {c : Prop} [Decidable c] : (if c then (1 : Int) else 0) = 0 ∨ (if c then (1 : Int) else 0) = 1 := by split <;> simp
theorem if01_0 {c : Prop} [Decidable c] : (if c then (1 : Int) else 0) = 0 ↔ ¬ c := by split <;> simp [*]
theorem e184 (h1 : 0 ≤ s.1 242 4) (h2 : s.1 242 4 ≤ 7) : m184 x s = some (if 0 ≤ x ∧ x < s.1 242 4 then 1 else 0, s) := by
  unfold m184
  rw [e181, oC_some, oZ_pos (by omega) (by omega), e150, oC_some, oD_pos if01]
  simp only [show ∀ u v : Int, u ≤ v - 1 ↔ u < v from fun u v => by omega]
theorem e185 (h1 : 0 ≤ s.1 242 5) (h2 : s.1 242 5 ≤ 8) : m185 x s = some (if 0 ≤ x ∧ x < s.1 242 5 then 1 else 0, s) := by
  unfold m185
  rw [e182, oC_some, oZ_pos (by omega) (by omega), e150, oC_some, oD_pos if01]
  simp only [show ∀ u v : Int, u ≤ v - 1 ↔ u < v from fun u v => by omega]
theorem e186 (h1 : 0 ≤ s.1 242 6) (h2 : s.1 242 6 ≤ 6) : m186 x s = some (if 0 ≤ x ∧ x < s.1 242 6 then 1 else 0, s) := by
  unfold m186
  rw [e183, oC_some, oZ_pos (by omega) (by omega), e150, oC_some, oD_pos if01]
  simp only [show ∀ u v : Int, u ≤ v - 1 ↔ u < v from fun u v => by omega]
theorem e187 (h1 : 0 ≤ x) (h2 : x < 35) : m187 x s = some (s.1 254 (2 + x), s) := by
  unfold m187; rw [oZ_pos (by omega) (by omega), oX_pos (by omega) (by omega)]; rfl
theorem e188 (h1 : 0 ≤ x) (h2 : x ≤ 8) : m188 x s = some (s.1 254 (10 + 3 * x), s) := by
  unfold m188; rw [oZ_pos (by omega) (by omega), oZ_pos (by omega) (by omega), oX_pos (by omega) (by omega)]; rfl
theorem e189 (h1 : 0 ≤ x) (h2 : x ≤ 8) (h3 : 0 ≤ s.1 254 (11 + 3 * x)) (h4 : s.1 254 (11 + 3 * x) ≤ 1000) : m189 x s = some (s.1 254 (11 + 3 * x) - 1, s) := by
  have e : 10 + 3 * x + 1 = 11 + 3 * x := by omega
  unfold m189; rw [oZ_pos (by omega) (by omega), oZ_pos (by omega) (by omega), oZ_pos (by omega) (by omega), oX_pos (by omega) (by omega), oV_eq, e, oZ_pos (by omega) (by omega)]
theorem e190 (h1 : 0 ≤ x) (h2 : x ≤ 8) : m190 x s = some (s.1 254 (12 + 3 * x), s) := by
  have e : 10 + 3 * x + 2 = 12 + 3 * x := by omega
  unfold m190; rw [oZ_pos (by omega) (by omega), oZ_pos (by omega) (by omega), oZ_pos (by omega) (by omega), oX_pos (by omega) (by omega), oV_eq, e]
theorem e191 (h1 : 0 ≤ x) (h2 : x ≤ 5) : m191 x s = some (s.1 246 (20 + 3 * x), s) := by
  unfold m191; rw [oZ_pos (by omega) (by omega), oZ_pos (by omega) (by omega), oX_pos (by omega) (by omega)]; rfl
theorem e193 (h1 : 0 ≤ x) (h2 : x ≤ 5) (h3 : 0 ≤ s.1 254 (11 + 3 * x)) (h4 : s.1 254 (11 + 3 * x) ≤ 1000) : m193 x s = some (if s.1 254 (11 + 3 * x) - 1 = s.1 246 (20 + 3 * x) then 1 else 0, s) := by
  unfold m193; rw [e189 h1 (by omega) h3 h4, oC_some, e191 h1 h2, oC_some]; split <;> rfl
end
theorem t104 : T104 := by
  intro n s x hx hR hn
  obtain ⟨_, _, _, _, h5, h6⟩ := R_tape hR
  have h := R_up hR
  by_cases c0 : x = 0
  · exact two_e (r := s.1 1 5) (r' := s.1 209 7) (s1 := s) (s2 := s) (by unfold m104; rw [if_pos c0]; rfl) (by unfold m179; rw [if_pos c0]; rfl) h5 h
  by_cases c1 : x = 1
  · exact two_e (r := s.1 1 6) (r' := s.1 209 8) (s1 := s) (s2 := s) (by unfold m104; rw [if_neg c0, if_pos c1]; rfl) (by unfold m179; rw [if_neg c0, if_pos c1]; rfl) h6 h
  · exact two_e (r := -1) (r' := -1) (s1 := s) (s2 := s) (by unfold m104; rw [if_neg c0, if_neg c1]) (by unfold m179; rw [if_neg c0, if_neg c1]) rfl h
theorem t135 : T135 := by
  intro n s x hx hR hn
  have h := R_up hR
  by_cases c : 0 ≤ x ∧ x < 6
  · refine two_e (r := s.1 41 x) (r' := s.1 211 x) (s1 := s) (s2 := s) ?_ ?_ (R_refu hR x c.1 c.2).1 h
    · unfold m135; rw [if_neg (by omega), if_pos c.2, oX_pos (by omega) (by omega)]; rfl
    · unfold m285; rw [e150, oC_some, if_pos (show (0 : Int) ≤ x ∧ x ≤ 5 by omega), if_neg (by decide), oX_pos (by omega) (by omega)]; rfl
  · refine two_e (r := -1) (r' := -1) (s1 := s) (s2 := s) ?_ ?_ rfl h
    · unfold m135
      by_cases c0 : x < 0
      · rw [if_pos c0]
      · rw [if_neg c0, if_neg (by omega)]
    · unfold m285; rw [e150, oC_some, if_neg (show ¬ ((0 : Int) ≤ x ∧ x ≤ 5) by omega), if_pos rfl]
theorem t133 : T133 := by
  intro n s x hx hR hn
  have h := R_up hR
  obtain ⟨q1, q2, q3, q4⟩ := R_img hR
  by_cases c : 0 ≤ x ∧ x < s.1 0 15
  · refine two_e (r := s.1 42 x) (r' := s.1 288 x) (s1 := s) (s2 := s) ?_ ?_ (q4 x c.1 c.2) h
    · unfold m133; rw [if_neg (by omega), oV_eq, if_pos c.2, oX_pos (by omega) (by omega)]; rfl
    · unfold m280; rw [if_neg (by omega), oV_eq, if_pos (by omega), oX_pos (by omega) (by omega)]; rfl
  · refine two_e (r := -1) (r' := -1) (s1 := s) (s2 := s) ?_ ?_ rfl h
    · unfold m133
      by_cases c0 : x < 0
      · rw [if_pos c0]
      · rw [if_neg c0, oV_eq, if_neg (by omega)]
    · unfold m280
      by_cases c0 : x < 0
      · rw [if_pos c0]
      · rw [if_neg c0, oV_eq, if_neg (by omega)]
section
variable {n : Nat} {s : zS} {L : Nat} {x y : Int}
theorem R_cnt (h : R n s) : rCount s.1 (s.2.2 1) := (R_land h).1
theorem ix7 {m : Int} (hm : m ≤ 7) (h1 : 0 ≤ x) (h2 : x < m) (h3 : 0 ≤ y) (h4 : y < m) : 0 ≤ 7 * x + y ∧ 7 * x + y < 49 := by omega
theorem e47 (h1 : s.1 (L + 1) 0 ≤ 7) : m47 L x y s = some (if 0 ≤ x ∧ x < s.1 (L + 1) 0 ∧ 0 ≤ y ∧ y < s.1 (L + 1) 0 then (if s.1 (L + 8) (7 * x + y) < 1000 then s.1 (L + 8) (7 * x + y) else -1) else -1, s) := by
  unfold m47
  rw [oV_eq]
  by_cases c1 : x < 0
  · rw [if_pos c1, if_neg (by omega)]
  rw [if_neg c1]
  by_cases c2 : x < s.1 (L + 1) 0
  · rw [if_pos c2]
    by_cases c3 : y < 0
    · rw [if_pos c3, if_neg (by omega)]
    rw [if_neg c3]
    by_cases c4 : y < s.1 (L + 1) 0
    · have e : x * 7 + y = 7 * x + y := by omega
      rw [if_pos c4, if_pos (by omega), oZ_pos (by omega) (by omega), oZ_pos (by omega) (by omega), oX_pos (by omega) (by omega), oV_eq, e]
      split <;> rfl
    · rw [if_neg c4, if_neg (by omega)]
  · rw [if_neg c2, if_neg (by omega)]
theorem e48 (h1 : s.1 (L + 1) 0 ≤ 7) : m48 L x y s = some (if 0 ≤ x ∧ x < s.1 (L + 1) 0 ∧ 0 ≤ y ∧ y < s.1 (L + 1) 0 then s.1 (L + 9) (7 * x + y) else -1, s) := by
  unfold m48
  rw [e50, oC_some]
  by_cases c1 : 0 ≤ x ∧ x < s.1 (L + 1) 0
  · rw [if_pos c1, if_neg (by decide), e50, oC_some]
    by_cases c2 : 0 ≤ y ∧ y < s.1 (L + 1) 0
    · have e : x * 7 + y = 7 * x + y := by omega
      rw [if_pos c2, if_neg (by decide), if_pos (by omega), oZ_pos (by omega) (by omega), oZ_pos (by omega) (by omega), oX_pos (by omega) (by omega), oV_eq, e]
    · rw [if_neg c2, if_pos rfl, if_neg (by omega)]
  · rw [if_neg c1, if_pos rfl, if_neg (by omega)]
theorem e209 (h1 : 0 ≤ s.1 242 4) (h2 : s.1 242 4 ≤ 7) : m209 x y s = some (if 0 ≤ x ∧ x < s.1 242 4 ∧ 0 ≤ y ∧ y < s.1 242 4 then s.1 252 (7 * x + y) else -1, s) := by
  unfold m209
  rw [e184 h1 h2, oC_some]
  by_cases c1 : 0 ≤ x ∧ x < s.1 242 4
  · rw [if_pos c1, if_neg (by decide), e184 h1 h2, oC_some]
    by_cases c2 : 0 ≤ y ∧ y < s.1 242 4
    · rw [if_pos c2, if_neg (by decide), if_pos (by omega), oZ_pos (by omega) (by omega), oZ_pos (by omega) (by omega), oX_pos (by omega) (by omega), oV_eq]
    · rw [if_neg c2, if_pos rfl, if_neg (by omega)]
  · rw [if_neg c1, if_pos rfl, if_neg (by omega)]
theorem e210 (h1 : 0 ≤ s.1 242 4) (h2 : s.1 242 4 ≤ 7) : m210 x y s = some (if 0 ≤ x ∧ x < s.1 242 4 ∧ 0 ≤ y ∧ y < s.1 242 4 then s.1 253 (7 * x + y) else -1, s) := by
  unfold m210
  rw [e184 h1 h2, oC_some]
  by_cases c1 : 0 ≤ x ∧ x < s.1 242 4
  · rw [if_pos c1, if_neg (by decide), e184 h1 h2, oC_some]
    by_cases c2 : 0 ≤ y ∧ y < s.1 242 4
    · rw [if_pos c2, if_neg (by decide), if_pos (by omega), oZ_pos (by omega) (by omega), oZ_pos (by omega) (by omega), oX_pos (by omega) (by omega), oV_eq]
    · rw [if_neg c2, if_pos rfl, if_neg (by omega)]
  · rw [if_neg c1, if_pos rfl, if_neg (by omega)]
end
theorem t107 : T107 := by
  intro n s x y hx hy hR hn
  have h := R_up hR
  obtain ⟨q1, q2, q3, _⟩ := R_cnt hR
  have hw := (R_land hR).2.2.2.2.1
  refine two_e (s1 := s) (s2 := s) (by unfold m107; rw [oV_eq, e47 (by omega), oC_some]) (e209 q2 q3) ?_ h
  rw [q1]
  by_cases c : 0 ≤ x ∧ x < s.1 242 4 ∧ 0 ≤ y ∧ y < s.1 242 4
  · rw [if_pos c, if_pos c, (hw x y c.1 c.2.1 c.2.2.1 c.2.2.2).1]
  · rw [if_neg c, if_neg c]
theorem t108 : T108 := by
  intro n s x y hx hy hR hn
  have h := R_up hR
  obtain ⟨q1, q2, q3, _⟩ := R_cnt hR
  have hw := (R_land hR).2.2.2.2.1
  refine two_e (s1 := s) (s2 := s) (by unfold m108; rw [oV_eq, e48 (by omega), oC_some]) (e210 q2 q3) ?_ h
  rw [q1]
  by_cases c : 0 ≤ x ∧ x < s.1 242 4 ∧ 0 ≤ y ∧ y < s.1 242 4
  · rw [if_pos c, if_pos c, (hw x y c.1 c.2.1 c.2.2.1 c.2.2.2).2.2.2.1]
  · rw [if_neg c, if_neg c]
theorem t111 : T111 := by
  intro n s x hx hR hn
  have h := R_up hR
  obtain ⟨a1, a2, a3, a4, a5, a6, a7, a8, a9, a10⟩ := R_cnt hR
  obtain ⟨⟨_, _, _, _, b5, b6⟩, c⟩ := R_now hR
  have c5 : s.1 254 28 = s.1 242 5 - s.1 242 6 := c.2.2.2.2.1
  have b5 : s.1 28 5 = s.1 254 28 := b5
  by_cases d : 0 ≤ x ∧ x < s.1 254 28
  · refine two_e (r := s.1 33 x) (r' := s.1 254 (29 + x)) (s1 := s) (s2 := s) ?_ ?_ (b6 x d.1 d.2) h
    · unfold m111; rw [if_neg (by omega), oV_eq, if_pos (by omega), oX_pos (by omega) (by omega)]; rfl
    · unfold m213; rw [oX_pos (by omega) (by omega), oV_eq, oZ_pos (by omega) (by omega), e150, oC_some, if_pos (show 0 ≤ x ∧ x ≤ s.1 254 28 - 1 by omega), if_neg (by decide), oZ_pos (by omega) (by omega), oX_pos (by omega) (by omega)]; rfl
  · refine two_e (r := -1) (r' := -1) (s1 := s) (s2 := s) ?_ ?_ rfl h
    · unfold m111
      by_cases c0 : x < 0
      · rw [if_pos c0]
      · rw [if_neg c0, oV_eq, if_neg (by omega)]
    · unfold m213; rw [oX_pos (by omega) (by omega), oV_eq, oZ_pos (by omega) (by omega), e150, oC_some, if_neg (show ¬ (0 ≤ x ∧ x ≤ s.1 254 28 - 1) by omega), if_pos rfl]
