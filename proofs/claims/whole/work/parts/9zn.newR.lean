/-! ===== what goes together after a telling ===== -/
section
variable {f g : Nat → Int → Int} {c c' : Int → Int}
theorem cDep_congr (h : ∀ i : Nat, c (i : Int) = c' (i : Int)) : ∀ n : Nat, cDep c n = cDep c' n := by
  intro n
  induction n with
  | zero => rfl
  | succ n ih =>
    show cDep c n + _ = cDep c' n + _
    rw [ih, h n]
theorem lWf_congr {n : Nat} (h : ∀ i : Nat, c (i : Int) = c' (i : Int)) (hl : lWf c n) : lWf c' n := by
  have e := cDep_congr h
  refine ⟨by rw [← e]; exact hl.1, fun i hi => ?_⟩
  have := hl.2 i hi
  rw [h i, e i] at this
  exact this
/-- codes that are well told -/
theorem wfL_lWf : ∀ (l : List Int) (d d' : Int) (m : Nat), cDep c m = d → (∀ i : Nat, i < l.length → c (((m + i : Nat)) : Int) = l.getD i 0) → wfL l d d' → cDep c (m + l.length) = d' ∧ ∀ i : Nat, m ≤ i → i < m + l.length → (((1000 ≤ c (i : Int) ∧ c (i : Int) ≤ 10999) ∨ (40 ≤ c (i : Int) ∧ c (i : Int) ≤ 44)) ∧ 0 ≤ cDep c i ∧ cDep c i < 60) ∨ (1 ≤ c (i : Int) ∧ c (i : Int) ≤ 6 ∧ 2 ≤ cDep c i ∧ cDep c i ≤ 60) := by
  intro l
  induction l with
  | nil =>
    intro d d' m h1 h2 h3
    have h3 : d = d' := h3
    exact ⟨by rw [← h3]; exact h1, fun i i0 i1 => absurd i1 (by show ¬ i < m + 0; omega)⟩
  | cons x l ih =>
    intro d d' m h1 h2 h3
    have hx : c (m : Int) = x := h2 0 (by show 0 < l.length + 1; omega)
    have hs : cDep c (m + 1) = cDep c m + (if 13 ≤ c (m : Int) ∧ c (m : Int) ≠ 60 then 1 else if c (m : Int) = 60 ∨ c (m : Int) = 12 then 0 else -1) := rfl
    have hn : ∀ i : Nat, i < l.length → c (((m + 1 + i : Nat)) : Int) = l.getD i 0 := fun i hi => by
      have := h2 (i + 1) (by show i + 1 < l.length + 1; omega)
      rw [show m + 1 + i = m + (i + 1) by omega, this]
      rfl
    have el : m + (x :: l).length = m + 1 + l.length := by show m + (l.length + 1) = _; omega
    rw [el]
    rcases h3 with ⟨a, b⟩ | ⟨a, b⟩
    · have e1 : cDep c (m + 1) = d + 1 := by rw [hs, h1, hx, if_pos (by omega)]
      obtain ⟨q1, q2⟩ := ih (d + 1) d' (m + 1) e1 hn b
      refine ⟨q1, fun i i0 i1 => ?_⟩
      by_cases z : i = m
      · rw [z, h1, hx]; exact Or.inl a
      · exact q2 i (by omega) i1
    · have e1 : cDep c (m + 1) = d - 1 := by rw [hs, h1, hx, if_neg (by omega), if_neg (by omega)]; omega
      obtain ⟨q1, q2⟩ := ih (d - 1) d' (m + 1) e1 hn b
      refine ⟨q1, fun i i0 i1 => ?_⟩
      by_cases z : i = m
      · rw [z, h1, hx]; exact Or.inr a
      · exact q2 i (by omega) i1
/-- where only what is being told has changed -/
abbrev hiC (a : Nat) (k : Int) : Prop := (a = 242 ∧ 4 ≤ k) ∨ (a = 245 ∧ 24 ≤ k) ∨ (a = 246 ∧ 18 ≤ k) ∨ a = 252 ∨ a = 253 ∨ (a = 248 ∧ 3 ≤ k) ∨ ((a = 249 ∨ a = 250) ∧ 2 ≤ k) ∨ (a = 251 ∧ 1600 ≤ k)
theorem rCode_hi {b : Nat} {w df : Int} (w0 : 0 ≤ w) (hb : ∀ k, g b k = f b k ∧ g (b + 1) k = f (b + 1) k) (h : ∀ a k, hiC a k → g a k = f a k) (hc : rCode f b w df) : rCode g b w df := by
  have e1 : g 249 (2 + w) = f 249 (2 + w) := h _ _ (by omega)
  have e2 : g 250 (2 + w) = f 250 (2 + w) := h _ _ (by omega)
  obtain ⟨h1, h2, h3⟩ := hc
  unfold rCode
  rw [(hb 2).1, e1, e2]
  refine ⟨h1, h2, ?_⟩
  rcases h3 with ⟨a1, a2, a3⟩ | ⟨a1, a2, a3, a4, a5⟩
  · exact Or.inl ⟨a1, a2, by rw [(hb 0).2]; exact a3⟩
  · refine Or.inr ⟨a1, a2, a3, fun i i0 i1 => ?_, lWf_congr (fun i => ?_) a5⟩
    · rw [(hb i).2, h 251 _ (by omega)]; exact a4 i i0 i1
    · show f 251 (1600 + (f 249 (2 + w) + (i : Int))) = g 251 (1600 + (f 249 (2 + w) + (i : Int)))
      rw [h 251 _ (by omega)]
theorem rLand_hi {j j' : Nat → Int → Int} {L : Nat} (hL : ∀ a k, L ≤ a → a ≤ L + 21 → a ≠ L + 19 → g a k = f a k) (h : ∀ a k, hiC a k → g a k = f a k) (hj : ∀ k, 24 ≤ k → j' 243 k = j 243 k) (hl : rLand f j L) : rLand g j' L := by
  obtain ⟨a1, a2, a3, a4, a5, a6, a7, a8, a9⟩ := hl
  have e4 : g 242 4 = f 242 4 := h _ _ (by omega)
  have e5 : g 242 5 = f 242 5 := h _ _ (by omega)
  have e6 : g 242 6 = f 242 6 := h _ _ (by omega)
  have e7 : g 242 7 = f 242 7 := h _ _ (by omega)
  refine ⟨?_, ?_, ?_, ?_, ?_, ?_, ?_, ?_, ?_⟩
  · unfold rCount at a1 ⊢
    rw [hL (L + 1) 0 (by omega) (by omega) (by omega), hL (L + 3) 0 (by omega) (by omega) (by omega), hL (L + 5) 0 (by omega) (by omega) (by omega), hL L 16 (by omega) (by omega) (by omega), e4, e5, e6, e7]
    exact a1
  · intro d w h1 h2 h3 h4
    rw [h 242 _ (by omega)] at h4
    have := a2 d w h1 h2 h3 h4
    rw [hj _ (by omega), show (fun k => g (L + 2 + 2 * d.toNat) (6 * w + k)) = (fun k => f (L + 2 + 2 * d.toNat) (6 * w + k)) from funext fun k => hL _ _ (by omega) (by omega) (by omega)]
    exact this
  · intro p p0 p1
    rw [e5] at p1
    rw [hL (L + 10) p (by omega) (by omega) (by omega), hL (L + 11) p (by omega) (by omega) (by omega), h 245 _ (by omega), h 245 (25 + 3 * p) (by omega), e4]
    exact a3 p p0 p1
  · intro w w0 w1
    rw [e6] at w1
    rw [hL (L + 13) w (by omega) (by omega) (by omega), hL (L + 14) w (by omega) (by omega) (by omega), hL (L + 15) w (by omega) (by omega) (by omega), h 246 _ (by omega), h 246 (19 + 3 * w) (by omega), h 246 (20 + 3 * w) (by omega), e4]
    exact a4 w w0 w1
  · intro a b a0 a1 b0 b1
    rw [e4] at a1 b1
    rw [hL (L + 8) _ (by omega) (by omega) (by omega), hL (L + 9) _ (by omega) (by omega) (by omega), h 252 _ (by omega), h 253 _ (by omega), e4]
    exact a5 a b a0 a1 b0 b1
  · rw [hL L 18 (by omega) (by omega) (by omega), h 248 4 (by omega)]
    exact a6
  · rw [hL L 19 (by omega) (by omega) (by omega), h 248 5 (by omega)]
    exact a7
  · exact a8.imp (rCode_hi (by omega) (fun k => ⟨hL _ _ (by omega) (by omega) (by omega), hL _ _ (by omega) (by omega) (by omega)⟩) h) (fun q => ⟨by rw [e6]; exact q.1, by rw [h 249 _ (by omega)]; exact q.2⟩)
  · exact a9.imp (rCode_hi (by omega) (fun k => ⟨hL _ _ (by omega) (by omega) (by omega), hL _ _ (by omega) (by omega) (by omega)⟩) h) (fun q => ⟨by rw [e6]; exact q.1, by rw [h 249 _ (by omega)]; exact q.2⟩)
theorem rNow_hi {L : Nat} (hc : rCount f L) (h4 : g 242 4 = f 242 4) (h5 : g 242 5 = f 242 5) (h6 : g 242 6 = f 242 6) (h28 : ∀ a k, 28 ≤ a → a ≤ 33 → g a k = f a k) (h254 : ∀ k, g 254 k = f 254 k) (h : rNow f) : rNow g := by
  obtain ⟨a1, a2, a3, a4, a5, a6, a7, a8, a9, a10⟩ := hc
  have e28 : f 254 28 = f 242 5 - f 242 6 := h.2.2.2.2.2.1
  refine ⟨sRel_eq h5 h6 (fun a k q1 q2 => h28 a k q1 q2) (fun i _ _ => h254 i) a5 a8 (by show f 254 28 ≤ 8; omega) h.1, ?_⟩
  rw [h4, h5, h6]
  exact nInv_eq a5 a7 a8 (fun i _ _ => h254 i) h.2
theorem rPast_hi {L : Nat} (hc : rCount f L) (h4 : g 242 4 = f 242 4) (h5 : g 242 5 = f 242 5) (h6 : g 242 6 = f 242 6) (h16 : g 0 16 = f 0 16) (h17 : g 0 17 = f 0 17) (h74 : g 209 74 = f 209 74) (h75 : g 209 75 = f 209 75) (h89 : ∀ a k, 89 ≤ a → a ≤ 208 → g a k = f a k) (h262 : ∀ k, g 262 k = f 262 k) (h : rPast f) : rPast g := by
  obtain ⟨a1, a2, a3, a4, a5, a6, a7, a8, a9, a10⟩ := hc
  unfold rPast at h ⊢
  rw [h16, h17, h74, h75]
  obtain ⟨q1, q2, q3, q4, q5, q6, q7, q8⟩ := h
  refine ⟨q1, q2, q3, q4, q5, q6, q7, fun j j1 j2 => ?_⟩
  obtain ⟨z1, z2⟩ := q8 j j1 j2
  have e28 : f 262 (37 * ((f 209 75 - j) % 20) + 28) = f 242 5 - f 242 6 := z2.2.2.2.2.1
  refine ⟨sRel_eq h5 h6 (fun a k y1 y2 => h89 a k (by omega) (by omega)) (fun i _ _ => h262 _) a5 a8 (by rw [e28]; omega) z1, ?_⟩
  rw [h4, h5, h6]
  exact nInv_eq a5 a7 a8 (fun i _ _ => h262 _) z2
end
section
variable {n : Nat} {s t : zS} {L : Nat} {D : dL}
/-- a telling that failed -/
theorem R_bad (h : R n s) (hL : s.2.2 2 = L) (hA : ∀ a k, ¬ (clG L a k ∨ (a = 1 ∧ k = 2) ∨ (a = 41 ∧ k = 1) ∨ (a = 211 ∧ k = 1) ∨ rlF a k ∨ (a = 209 ∧ (k = 1 ∨ k = 3 ∨ k = 7 ∨ k = 8))) → t.1 a k = s.1 a k ∧ t.2.1 a k = s.2.1 a k) (h2 : ∀ q, q = 1 ∨ q = 2 ∨ q = 3 → t.2.2 q = s.2.2 q) (hT : rTape t.1) (h41 : t.1 41 1 = s.1 41 1 + 1) (h211 : t.1 211 1 = s.1 211 1 + 1) : R (n + 1) t := by
  have hRf := R_refs h
  generalize hL1 : s.2.2 1 = L' at *
  have hLL : (L' = 43 ∧ L = 66) ∨ (L' = 66 ∧ L = 43) := by
    have := hRf.1
    rw [hL1, hL] at this
    exact this
  have g : ∀ a k, ¬ (clG L a k ∨ (a = 1 ∧ k = 2) ∨ (a = 41 ∧ k = 1) ∨ (a = 211 ∧ k = 1) ∨ rlF a k ∨ (a = 209 ∧ (k = 1 ∨ k = 3 ∨ k = 7 ∨ k = 8))) → t.1 a k = s.1 a k := fun a k q => (hA a k q).1
  have gj : ∀ a k, ¬ (clG L a k ∨ (a = 1 ∧ k = 2) ∨ (a = 41 ∧ k = 1) ∨ (a = 211 ∧ k = 1) ∨ rlF a k ∨ (a = 209 ∧ (k = 1 ∨ k = 3 ∨ k = 7 ∨ k = 8))) → t.2.1 a k = s.2.1 a k := fun a k q => (hA a k q).2
  unfold rlF at g gj
  have hc : rCount s.1 L' := by rw [← hL1]; exact R_cnt h
  have hi : ∀ a k, hiC a k → t.1 a k = s.1 a k := fun a k z => by
    refine g a k ?_
    rcases z with z | z | z | z | z | z | z | z <;> omega
  have lo : ∀ a k, a ≠ 1 → a ≠ 3 → a ≠ 8 → a < 43 → a ≠ 41 → t.1 a k = s.1 a k := fun a k h1 h2 h3 h4 h5 => g a k (by omega)
  refine ⟨?_, hT, ?_, ?_, ?_, ?_, ?_, ?_, ?_, ?_, ?_⟩
  · unfold rRefs at hRf ⊢
    rw [h2 1 (by omega), h2 2 (by omega), h2 3 (by omega)]
    exact hRf
  · intro k k1 k2
    have := R_refu h k k1 k2
    by_cases z : k = 1
    · rw [z] at this
      rw [z, h41, h211]
      omega
    · rw [g 41 k (by omega), g 211 k (by omega)]
      omega
  · refine ⟨fun b b1 b2 => ?_, fun e he i hi => ?_⟩
    · rw [lo 4 b (by decide) (by decide) (by decide) (by decide) (by decide)]; exact (R_words h).1 b b1 b2
    · have := wTab_at e he
      rw [g e.1 _ (by omega)]; exact (R_words h).2 e he i hi
  · have := R_seed h
    unfold rSeed at this ⊢
    rw [lo 0 18 (by decide) (by decide) (by decide) (by decide) (by decide), gj 209 76 (by omega)]; exact this
  · obtain ⟨q1, q2, q3, q4⟩ := R_img h
    unfold rImg
    rw [lo 0 15 (by decide) (by decide) (by decide) (by decide) (by decide), g 209 110 (by omega)]
    refine ⟨q1, q2, q3, fun k k1 k2 => ?_⟩
    rw [lo 42 k (by decide) (by decide) (by decide) (by decide) (by decide), g 288 k (by omega)]; exact q4 k k1 k2
  · obtain ⟨q1, q2, q3, q4⟩ := R_rows h
    unfold rRows
    rw [lo 24 0 (by decide) (by decide) (by decide) (by decide) (by decide), g 209 67 (by omega), hi 242 4 (by omega)]
    refine ⟨q1, q2, q3, fun k k1 k2 => ?_⟩
    rw [lo 25 k (by decide) (by decide) (by decide) (by decide) (by decide), lo 26 k (by decide) (by decide) (by decide) (by decide) (by decide), g 260 _ (by omega), g 260 _ (by omega)]; exact q4 k k1 k2
  · have hl := R_land h
    rw [hL1] at hl
    rw [h2 1 (by omega), hL1]
    exact rLand_hi (fun a k a0 a1 a2 => g a k (by omega)) hi (fun k k0 => gj 243 k (by omega)) hl
  · exact rNow_hi hc (hi 242 4 (by omega)) (hi 242 5 (by omega)) (hi 242 6 (by omega)) (fun a k q1 q2 => lo a k (by omega) (by omega) (by omega) (by omega) (by omega)) (fun k => g 254 k (by omega)) (R_now h)
  · exact rPast_hi hc (hi 242 4 (by omega)) (hi 242 5 (by omega)) (hi 242 6 (by omega)) (lo 0 16 (by decide) (by decide) (by decide) (by decide) (by decide)) (lo 0 17 (by decide) (by decide) (by decide) (by decide) (by decide)) (g 209 74 (by omega)) (g 209 75 (by omega)) (fun a k q1 q2 => g a k (by omega)) (fun k => g 262 k (by omega)) (R_past h)
  · have := R_most h
    unfold rMost at this ⊢
    rw [g 44 1 (by omega), g 46 1 (by omega), g 48 1 (by omega), g 67 1 (by omega), g 69 1 (by omega), g 71 1 (by omega)]
    exact this
end
