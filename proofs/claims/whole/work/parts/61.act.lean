/-! ===== the relation behind a change ===== -/
section
variable {n m : Nat} {s t : zS}
theorem rRefu_eq {f g : Nat → Int → Int} (h1 : ∀ k, g 41 k = f 41 k) (h2 : ∀ k, g 211 k = f 211 k) (h : rRefu n f) : rRefu (n + 1) g := by
  intro k k1 k2
  rw [h1, h2]
  obtain ⟨q1, q2, q3⟩ := h k k1 k2
  exact ⟨q1, q2, by omega⟩
theorem rRefu_inc {f g : Nat → Int → Int} {j : Int} (j0 : 0 ≤ j) (j1 : j < 6) (h1 : ∀ k, g 41 k = if k = j then f 41 k + 1 else f 41 k) (h2 : ∀ k, g 211 k = if k = j then f 211 k + 1 else f 211 k) (h : rRefu n f) : rRefu (n + 1) g := by
  intro k k1 k2
  rw [h1, h2]
  obtain ⟨q1, q2, q3⟩ := h k k1 k2
  split <;> omega
theorem rImg_eq {f g : Nat → Int → Int} (h1 : g 0 15 = f 0 15) (h2 : g 209 110 = f 209 110) (h3 : ∀ k, g 42 k = f 42 k) (h4 : ∀ k, g 288 k = f 288 k) (h : rImg f) : rImg g := by
  unfold rImg at h ⊢
  simp only [h1, h2, h3, h4]
  exact h
theorem rRows_eq {f g : Nat → Int → Int} (h1 : g 24 0 = f 24 0) (h2 : g 209 67 = f 209 67) (h3 : ∀ k, g 25 k = f 25 k) (h4 : ∀ k, g 26 k = f 26 k) (h5 : ∀ k, g 260 k = f 260 k) (h6 : g 242 4 = f 242 4) (h : rRows f) : rRows g := by
  unfold rRows at h ⊢
  simp only [h1, h2, h3, h4, h5, h6]
  exact h
theorem rSeed_eq {f g j j' : Nat → Int → Int} (h1 : g 0 18 = f 0 18) (h2 : j' 209 76 = j 209 76) (h : rSeed f j) : rSeed g j' := by
  unfold rSeed at h ⊢
  rw [h1, h2]
  exact h
/-- cells of the land, of words, of limits -/
def Stt (L : Nat) (a : Nat) (k : Int) : Prop := a = 4 ∨ (212 ≤ a ∧ a ≤ 241) ∨ (263 ≤ a ∧ a ≤ 284) ∨ (L ≤ a ∧ a ≤ L + 21 ∧ a ≠ L + 19) ∨ (242 ≤ a ∧ a ≤ 253) ∨ (k = 1 ∧ (a = 44 ∨ a = 46 ∨ a = 48 ∨ a = 67 ∨ a = 69 ∨ a = 71))
theorem R_of (h : R n s) (hM : t.2.2 = s.2.2) (hS : ∀ a k, Stt (s.2.2 1) a k → t.1 a k = s.1 a k ∧ t.2.1 a k = s.2.1 a k) (h1 : rTape t.1) (h2 : rRefu m t.1) (h3 : rSeed t.1 t.2.1) (h4 : rImg t.1) (h5 : rRows t.1) (h6 : rNow t.1) (h7 : rPast t.1) : R m t := by
  have hLL := R_LL h
  generalize hL : s.2.2 1 = L at hLL hS
  have g : ∀ a k, Stt L a k → t.1 a k = s.1 a k := fun a k q => (hS a k q).1
  unfold Stt at g hS
  refine ⟨by rw [hM]; exact R_refs h, h1, h2, ?_, h3, h4, h5, ?_, h6, h7, ?_⟩
  · refine ⟨fun b b1 b2 => ?_, fun e he i hi => ?_⟩
    · rw [g 4 b (by omega)]; exact (R_words h).1 b b1 b2
    · have := wTab_at e he
      rw [g e.1 _ (by omega)]; exact (R_words h).2 e he i hi
  · have := R_land h
    rw [hL] at this
    rw [hM, hL]
    exact rLand_eq (fun a k q => g a k (by omega)) (fun k => (hS 243 k (by omega)).2) this
  · have := R_most h
    unfold rMost at this ⊢
    rw [g 44 1 (by omega), g 46 1 (by omega), g 48 1 (by omega), g 67 1 (by omega), g 69 1 (by omega), g 71 1 (by omega)]
    exact this
theorem e136 {j : Int} (h : R n s) (hn : n < 512) (j0 : 0 ≤ j) (j1 : j < 6) : m136 j s = some (-1, sI s 41 j (s.1 41 j + 1)) := by
  obtain ⟨q1, q2, q3⟩ := R_refu h j j0 j1
  unfold m136
  rw [oX_pos j0 (by omega), oV_eq, oZ_pos (by omega) (by omega), oX_pos j0 (by omega), oV_eq]
theorem e232 {j : Int} (h1 : 0 ≤ s.1 211 j) (h2 : s.1 211 j ≤ 600) (j0 : 0 ≤ j) (j1 : j < 6) : m232 j s = some (-1, sI s 211 j (s.1 211 j + 1)) := by
  unfold m232
  rw [oX_pos j0 (by omega), oV_eq, oZ_pos (by omega) (by omega), oX_pos j0 (by omega), oV_eq]
/-- both have refused -/
theorem R_ref {j : Int} (h : R n s) (j0 : 0 ≤ j) (j1 : j < 6) : R (n + 1) (sI (sI s 41 j (s.1 41 j + 1)) 211 j (s.1 211 j + 1)) := by
  have hLL := R_LL h
  have g : ∀ a k, a ≠ 41 → a ≠ 211 → (sI (sI s 41 j (s.1 41 j + 1)) 211 j (s.1 211 j + 1)).1 a k = s.1 a k := fun a k q1 q2 => by rw [sI_a q2, sI_a q1]
  refine R_of h rfl (fun a k q => ⟨g a k (by unfold Stt at q; omega) (by unfold Stt at q; omega), rfl⟩) ?_ ?_ ?_ ?_ ?_ ?_ ?_
  · exact rTape_eq (g _ _ (by omega) (by omega)) (g _ _ (by omega) (by omega)) (fun k => g _ _ (by omega) (by omega)) (fun k => g _ _ (by omega) (by omega)) (g _ _ (by omega) (by omega)) (g _ _ (by omega) (by omega)) (g _ _ (by omega) (by omega)) (g _ _ (by omega) (by omega)) (R_tape h)
  · refine rRefu_inc j0 j1 (fun k => ?_) (fun k => ?_) (R_refu h)
    · rw [sI_a (by omega), sI_if]
      by_cases e : k = j
      · rw [if_pos ⟨rfl, e⟩, if_pos e, e]
      · rw [if_neg (fun z => e z.2), if_neg e]
    · rw [sI_if]
      by_cases e : k = j
      · rw [if_pos ⟨rfl, e⟩, if_pos e, e]
      · rw [if_neg (fun z => e z.2), if_neg e, sI_a (by omega)]
  · exact rSeed_eq (g _ _ (by omega) (by omega)) rfl (R_seed h)
  · exact rImg_eq (g _ _ (by omega) (by omega)) (g _ _ (by omega) (by omega)) (fun k => g _ _ (by omega) (by omega)) (fun k => g _ _ (by omega) (by omega)) (R_img h)
  · exact rRows_eq (g _ _ (by omega) (by omega)) (g _ _ (by omega) (by omega)) (fun k => g _ _ (by omega) (by omega)) (fun k => g _ _ (by omega) (by omega)) (fun k => g _ _ (by omega) (by omega)) (g _ _ (by omega) (by omega)) (R_rows h)
  · exact rNow_eq (R_cnt h) (fun k => g _ _ (by omega) (by omega)) (fun a k q1 q2 => g _ _ (by omega) (by omega)) (fun k => g _ _ (by omega) (by omega)) (R_now h)
  · exact rPast_eq (R_cnt h) (fun k => g _ _ (by omega) (by omega)) (g _ _ (by omega) (by omega)) (g _ _ (by omega) (by omega)) (g _ _ (by omega) (by omega)) (g _ _ (by omega) (by omega)) (fun a k q1 q2 => g _ _ (by omega) (by omega)) (fun k => g _ _ (by omega) (by omega)) (R_past h)
/-- a call that both refuse -/
theorem two_ref {j r : Int} {x : Option (Int × zS)} {y : zS → Option (Int × zS)} (h : R n s) (hn : n < 512) (j0 : 0 ≤ j) (j1 : j < 6) (hx : x = some (r, sI s 41 j (s.1 41 j + 1))) (hy : ∀ u : zS, (∀ a k, a ≠ 41 → u.1 a k = s.1 a k) → 0 ≤ u.1 211 j → u.1 211 j ≤ 600 → y u = some (r, sI u 211 j (u.1 211 j + 1))) : Two n x y := by
  obtain ⟨q1, q2, q3⟩ := R_refu h j j0 j1
  have e : (sI s 41 j (s.1 41 j + 1)).1 211 j = s.1 211 j := sI_a (by omega)
  have := hy (sI s 41 j (s.1 41 j + 1)) (fun a k q => sI_a q) (by rw [e]; omega) (by rw [e]; omega)
  rw [e] at this
  exact two_e hx this rfl (R_ref h j0 j1)
end
theorem t130 : T130 := by
  intro n s x hx hR hn
  by_cases c : x < 0
  · refine two_ref (j := 5) (r := 0) hR hn (by omega) (by omega) ?_ (fun u hu h1 h2 => ?_)
    · unfold m130; rw [if_pos c, e136 hR hn (by omega) (by omega), oC_some]
    · unfold m245; rw [if_pos c, oX_pos (by omega) (by omega), oV_eq, oZ_pos (by omega) (by omega), oX_pos (by omega) (by omega), oV_eq]
  · refine two_e (r := 1) (r' := 1) (s1 := sI s 0 18 x) (s2 := sJ (sI s 0 18 x) 209 76 x) ?_ ?_ rfl ?_
    · unfold m130; rw [if_neg c, oV_eq]
    · unfold m245; rw [if_neg c, oV_eq]
    have hLL := R_LL hR
    have g : ∀ a k, a ≠ 0 ∨ k ≠ 18 → (sJ (sI s 0 18 x) 209 76 x).1 a k = s.1 a k := fun a k q => by
      show (sI s 0 18 x).1 a k = _
      rw [sI_if, if_neg (by omega)]
    refine R_of (n := n) (s := s) hR rfl (fun a k q => ⟨g a k (by unfold Stt at q; omega), ?_⟩) ?_ ?_ ?_ ?_ ?_ ?_ ?_
    · show (sJ (sI s 0 18 x) 209 76 x).2.1 a k = s.2.1 a k
      rw [sJ_a (by unfold Stt at q; omega)]; rfl
    · exact rTape_eq (g _ _ (by omega)) (g _ _ (by omega)) (fun k => g _ _ (by omega)) (fun k => g _ _ (by omega)) (g _ _ (by omega)) (g _ _ (by omega)) (g _ _ (by omega)) (g _ _ (by omega)) (R_tape hR)
    · exact rRefu_eq (fun k => g _ _ (by omega)) (fun k => g _ _ (by omega)) (R_refu hR)
    · refine ⟨?_, ?_, ?_⟩
      · show (sI s 0 18 x).1 0 18 = (sJ (sI s 0 18 x) 209 76 x).2.1 209 76
        rw [sI_e, sJ_e]
      · show 0 ≤ (sI s 0 18 x).1 0 18
        rw [sI_e]; omega
      · show (sI s 0 18 x).1 0 18 ≤ _
        rw [sI_e]; omega
    · exact rImg_eq (g _ _ (by omega)) (g _ _ (by omega)) (fun k => g _ _ (by omega)) (fun k => g _ _ (by omega)) (R_img hR)
    · exact rRows_eq (g _ _ (by omega)) (g _ _ (by omega)) (fun k => g _ _ (by omega)) (fun k => g _ _ (by omega)) (fun k => g _ _ (by omega)) (g _ _ (by omega)) (R_rows hR)
    · exact rNow_eq (R_cnt hR) (fun k => g _ _ (by omega)) (fun a k q1 q2 => g _ _ (by omega)) (fun k => g _ _ (by omega)) (R_now hR)
    · exact rPast_eq (R_cnt hR) (fun k => g _ _ (by omega)) (g _ _ (by omega)) (g _ _ (by omega)) (g _ _ (by omega)) (g _ _ (by omega)) (fun a k q1 q2 => g _ _ (by omega)) (fun k => g _ _ (by omega)) (R_past hR)
/-- the tape's length is another one, for both -/
theorem R_len {n : Nat} {s t : zS} {v : Int} (hR : R n s) (hv0 : 0 ≤ v) (hv1 : v ≤ 1600) (hM : t.2 = s.2) (g : ∀ a k, ¬ ((a = 1 ∧ k = 2) ∨ (a = 209 ∧ k = 1)) → t.1 a k = s.1 a k) (e1 : t.1 1 2 = v) (e2 : t.1 209 1 = v) : R (n + 1) t := by
  have hLL := R_LL hR
  obtain ⟨q1, q2, q3, q4, q5, q6⟩ := R_tape hR
  refine R_of (n := n) (s := s) hR (by rw [hM]) (fun a k q => ⟨g a k (by unfold Stt at q; omega), by rw [hM]⟩) ?_ ?_ ?_ ?_ ?_ ?_ ?_
  · refine ⟨by rw [e1, e2], by rw [e1]; exact hv0, by rw [e1]; exact hv1, fun k k1 k2 => ?_, ?_, ?_⟩
    · rw [g 2 k (by omega), g 210 k (by omega)]; exact q4 k k1 k2
    · rw [g 1 5 (by omega), g 209 7 (by omega)]; exact q5
    · rw [g 1 6 (by omega), g 209 8 (by omega)]; exact q6
  · exact rRefu_eq (fun k => g _ _ (by omega)) (fun k => g _ _ (by omega)) (R_refu hR)
  · exact rSeed_eq (g _ _ (by omega)) (by rw [hM]) (R_seed hR)
  · exact rImg_eq (g _ _ (by omega)) (g _ _ (by omega)) (fun k => g _ _ (by omega)) (fun k => g _ _ (by omega)) (R_img hR)
  · exact rRows_eq (g _ _ (by omega)) (g _ _ (by omega)) (fun k => g _ _ (by omega)) (fun k => g _ _ (by omega)) (fun k => g _ _ (by omega)) (g _ _ (by omega)) (R_rows hR)
  · exact rNow_eq (R_cnt hR) (fun k => g _ _ (by omega)) (fun a k q1 q2 => g _ _ (by omega)) (fun k => g _ _ (by omega)) (R_now hR)
  · exact rPast_eq (R_cnt hR) (fun k => g _ _ (by omega)) (g _ _ (by omega)) (g _ _ (by omega)) (g _ _ (by omega)) (g _ _ (by omega)) (fun a k q1 q2 => g _ _ (by omega)) (fun k => g _ _ (by omega)) (R_past hR)
theorem t102 : T102 := by
  intro n s x hx hR hn
  obtain ⟨q1, q2, q3, q4, q5, q6⟩ := R_tape hR
  by_cases c : 0 ≤ x ∧ x ≤ s.1 1 2
  · refine two_e (r := 1) (r' := 1) (s1 := sI s 1 2 x) (s2 := sI (sI s 1 2 x) 209 1 x) ?_ ?_ rfl ?_
    · unfold m102; rw [if_neg (by omega), oV_eq, if_neg (by omega), oV_eq]
    · unfold m152; rw [if_neg (by omega), oV_eq, sI_a (by omega), if_neg (by omega), oV_eq]
    · exact R_len (v := x) hR c.1 (by omega) rfl (fun a k q => by rw [sI_if, if_neg (by omega), sI_if, if_neg (by omega)]) (by rw [sI_a (by omega), sI_e]) sI_e
  · refine two_ref (j := 0) (r := 0) hR hn (by omega) (by omega) ?_ (fun u hu h1 h2 => ?_)
    · unfold m102
      by_cases c0 : x < 0
      · rw [if_pos c0, e136 hR hn (by omega) (by omega), oC_some]
      · rw [if_neg c0, oV_eq, if_pos (by omega), e136 hR hn (by omega) (by omega), oC_some]
    · have e12 : m152_12 u = some (0, sI u 211 0 (u.1 211 0 + 1)) := by
        unfold m152_12
        rw [oX_pos (by omega) (by omega), oV_eq, oZ_pos (by omega) (by omega), oX_pos (by omega) (by omega), oV_eq]
      unfold m152
      by_cases c0 : x < 0
      · rw [if_pos c0, e12]
      · rw [if_neg c0, oV_eq, hu 209 1 (by omega), if_pos (by omega), e12]
