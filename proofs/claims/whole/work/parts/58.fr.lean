/-! ===== what may change between two calls without being told ===== -/
def Scr (L : Nat) (a : Nat) (k : Int) : Prop := a = 3 ∨ (5 ≤ a ∧ a ≤ 23) ∨ (a = 24 ∧ 1 ≤ k) ∨ a = 27 ∨ (34 ≤ a ∧ a ≤ 39) ∨ a = L + 19 ∨ a = L + 22 ∨ (a = 1 ∧ (k = 3 ∨ k = 4 ∨ k = 8)) ∨ (a = 209 ∧ ((2 ≤ k ∧ k ≤ 6) ∨ k = 40 ∨ (51 ≤ k ∧ k ≤ 53) ∨ (58 ≤ k ∧ k ≤ 62) ∨ (70 ≤ k ∧ k ≤ 72) ∨ k = 100 ∨ (102 ≤ k ∧ k ≤ 104) ∨ (106 ≤ k ∧ k ≤ 108))) ∨ (255 ≤ a ∧ a ≤ 259) ∨ a = 261 ∨ (285 ≤ a ∧ a ≤ 287)
theorem wTab_at : ∀ e ∈ wTab, (212 ≤ e.1 ∧ e.1 ≤ 241) ∨ (263 ≤ e.1 ∧ e.1 ≤ 284) := by decide
theorem sRel_eq {f g : Nat → Int → Int} {A : Nat} {N M : Int → Int} (h5 : g 242 5 = f 242 5) (h6 : g 242 6 = f 242 6) (hf : ∀ a k, A ≤ a → a ≤ A + 5 → g a k = f a k) (hN : ∀ i, 0 ≤ i → i < 37 → M i = N i) (b1 : f 242 5 ≤ 8) (b2 : f 242 6 ≤ 6) (b3 : N 28 ≤ 8) (h : sRel f A N) : sRel g A M := by
  obtain ⟨q1, q2, q3, q4, q5, q6⟩ := h
  refine ⟨?_, ?_, ?_, ?_, ?_, ?_⟩
  · rw [hf _ _ (by omega) (by omega), hN 0 (by omega) (by omega)]; exact q1
  · rw [hf _ _ (by omega) (by omega), hN 1 (by omega) (by omega)]; exact q2
  · intro p p1 p2
    rw [h5] at p2
    rw [hf _ _ (by omega) (by omega), hN _ (by omega) (by omega)]; exact q3 p p1 p2
  · intro w w1 w2
    rw [h6] at w2
    rw [hf _ _ (by omega) (by omega), hf _ _ (by omega) (by omega), hf _ _ (by omega) (by omega), hN _ (by omega) (by omega), hN _ (by omega) (by omega), hN _ (by omega) (by omega)]; exact q4 w w1 w2
  · rw [hf _ _ (by omega) (by omega), hN 28 (by omega) (by omega)]; exact q5
  · intro k k1 k2
    rw [hN 28 (by omega) (by omega)] at k2
    rw [hf _ _ (by omega) (by omega), hN _ (by omega) (by omega)]; exact q6 k k1 k2
theorem nInv_eq {a b c : Int} {N M : Int → Int} (hb : b ≤ 8) (hc0 : 0 ≤ c) (hc : c ≤ 6) (hN : ∀ i, 0 ≤ i → i < 37 → M i = N i) (h : nInv a b c N) : nInv a b c M := by
  obtain ⟨q1, q2, q3, q4, q5, q6, q7, q8, q9⟩ := h
  refine ⟨?_, ?_, ?_, ?_, ?_, ?_, ?_, ?_, ?_⟩
  · rw [hN 0 (by omega) (by omega)]; exact q1
  · rw [hN 1 (by omega) (by omega)]; exact q2
  · intro p p1 p2; rw [hN _ (by omega) (by omega)]; exact q3 p p1 p2
  · intro w w1 w2; rw [hN _ (by omega) (by omega), hN (11 + 3 * w) (by omega) (by omega), hN (12 + 3 * w) (by omega) (by omega)]; exact q4 w w1 w2
  · rw [hN 28 (by omega) (by omega)]; exact q5
  · intro k k1 k2; rw [hN _ (by omega) (by omega)]; exact q6 k k1 k2
  · intro v w v1 v2 v3; rw [hN _ (by omega) (by omega), hN (10 + 3 * w) (by omega) (by omega)]; exact q7 v w v1 v2 v3
  · intro j k v1 v2 v3; rw [hN _ (by omega) (by omega), hN (29 + k) (by omega) (by omega)]; exact q8 j k v1 v2 v3
  · intro w k v1 v2 v3 v4; rw [hN _ (by omega) (by omega), hN (29 + k) (by omega) (by omega)]; exact q9 w k v1 v2 v3 v4
section
variable {n : Nat} {s t : zS}
theorem R_LL (h : R n s) : s.2.2 1 = 43 ∨ s.2.2 1 = 66 := by rcases (R_refs h).1 with q | q <;> omega
theorem R_M3 (h : R n s) : s.2.2 3 = s.2.2 1 := (R_refs h).2
/-- each piece for itself: where the cells that it speaks of are the same -/
theorem rTape_eq {f g : Nat → Int → Int} (h1 : g 1 2 = f 1 2) (h2 : g 209 1 = f 209 1) (h3 : ∀ k, g 2 k = f 2 k) (h4 : ∀ k, g 210 k = f 210 k) (h5 : g 1 5 = f 1 5) (h6 : g 209 7 = f 209 7) (h7 : g 1 6 = f 1 6) (h8 : g 209 8 = f 209 8) (h : rTape f) : rTape g := by
  unfold rTape at h ⊢
  simp only [h1, h2, h3, h4, h5, h6, h7, h8]
  exact h
theorem rNow_eq {f g : Nat → Int → Int} {L : Nat} (hc : rCount f L) (h242 : ∀ k, g 242 k = f 242 k) (h28 : ∀ a k, 28 ≤ a → a ≤ 33 → g a k = f a k) (h254 : ∀ k, g 254 k = f 254 k) (h : rNow f) : rNow g := by
  obtain ⟨a1, a2, a3, a4, a5, a6, a7, a8, a9, a10⟩ := hc
  have e28 : f 254 28 = f 242 5 - f 242 6 := h.2.2.2.2.2.1
  refine ⟨sRel_eq (h242 5) (h242 6) (fun a k q1 q2 => h28 a k q1 q2) (fun i _ _ => h254 i) a5 a8 (by show f 254 28 ≤ 8; omega) h.1, ?_⟩
  rw [h242, h242, h242]
  exact nInv_eq a5 a7 a8 (fun i _ _ => h254 i) h.2
theorem rPast_eq {f g : Nat → Int → Int} {L : Nat} (hc : rCount f L) (h242 : ∀ k, g 242 k = f 242 k) (h16 : g 0 16 = f 0 16) (h17 : g 0 17 = f 0 17) (h74 : g 209 74 = f 209 74) (h75 : g 209 75 = f 209 75) (h89 : ∀ a k, 89 ≤ a → a ≤ 208 → g a k = f a k) (h262 : ∀ k, g 262 k = f 262 k) (h : rPast f) : rPast g := by
  obtain ⟨a1, a2, a3, a4, a5, a6, a7, a8, a9, a10⟩ := hc
  unfold rPast at h ⊢
  rw [h16, h17, h74, h75]
  obtain ⟨q1, q2, q3, q4, q5, q6, q7, q8⟩ := h
  refine ⟨q1, q2, q3, q4, q5, q6, q7, fun j j1 j2 => ?_⟩
  obtain ⟨z1, z2⟩ := q8 j j1 j2
  have e28 : f 262 (37 * ((f 209 75 - j) % 20) + 28) = f 242 5 - f 242 6 := z2.2.2.2.2.1
  refine ⟨sRel_eq (h242 5) (h242 6) (fun a k y1 y2 => h89 a k (by omega) (by omega)) (fun i _ _ => h262 _) a5 a8 (by rw [e28]; omega) z1, ?_⟩
  rw [h242, h242, h242]
  exact nInv_eq a5 a7 a8 (fun i _ _ => h262 _) z2
theorem R_fr (h : R n s) (hA : FrJ (Scr (s.2.2 1)) s t) : R n t := by
  have hLL := R_LL h
  have hM : t.2.2 = s.2.2 := hA.2
  generalize hL : s.2.2 1 = L at hLL hA
  have g : ∀ a k, ¬ Scr L a k → t.1 a k = s.1 a k := fun a k q => (hA.1 a k q).1
  have gj : ∀ a k, ¬ Scr L a k → t.2.1 a k = s.2.1 a k := fun a k q => (hA.1 a k q).2
  unfold Scr at g gj
  have hc : rCount s.1 L := by rw [← hL]; exact R_cnt h
  refine ⟨by rw [hM]; exact R_refs h, ?_, ?_, ?_, ?_, ?_, ?_, ?_, ?_, ?_, ?_⟩
  · exact rTape_eq (g 1 2 (by omega)) (g 209 1 (by omega)) (fun k => g 2 k (by omega)) (fun k => g 210 k (by omega)) (g 1 5 (by omega)) (g 209 7 (by omega)) (g 1 6 (by omega)) (g 209 8 (by omega)) (R_tape h)
  · intro k k1 k2
    rw [g 41 k (by omega), g 211 k (by omega)]
    exact R_refu h k k1 k2
  · refine ⟨fun b b1 b2 => ?_, fun e he i hi => ?_⟩
    · rw [g 4 b (by omega)]; exact (R_words h).1 b b1 b2
    · have := wTab_at e he
      rw [g e.1 _ (by omega)]; exact (R_words h).2 e he i hi
  · have := R_seed h
    unfold rSeed at this ⊢
    rw [g 0 18 (by omega), gj 209 76 (by omega)]; exact this
  · obtain ⟨q1, q2, q3, q4⟩ := R_img h
    unfold rImg
    rw [g 0 15 (by omega), g 209 110 (by omega)]
    refine ⟨q1, q2, q3, fun k k1 k2 => ?_⟩
    rw [g 42 k (by omega), g 288 k (by omega)]; exact q4 k k1 k2
  · obtain ⟨q1, q2, q3, q4⟩ := R_rows h
    unfold rRows
    rw [g 24 0 (by omega), g 209 67 (by omega), g 242 4 (by omega)]
    refine ⟨q1, q2, q3, fun k k1 k2 => ?_⟩
    rw [g 25 k (by omega), g 26 k (by omega), g 260 _ (by omega), g 260 _ (by omega)]; exact q4 k k1 k2
  · have := R_land h
    rw [hL] at this
    rw [hM, hL]
    exact rLand_eq (fun a k q => g a k (by omega)) (fun k => gj 243 k (by omega)) this
  · exact rNow_eq hc (fun k => g 242 k (by omega)) (fun a k q1 q2 => g a k (by omega)) (fun k => g 254 k (by omega)) (R_now h)
  · exact rPast_eq hc (fun k => g 242 k (by omega)) (g 0 16 (by omega)) (g 0 17 (by omega)) (g 209 74 (by omega)) (g 209 75 (by omega)) (fun a k q1 q2 => g a k (by omega)) (fun k => g 262 k (by omega)) (R_past h)
  · have := R_most h
    unfold rMost at this ⊢
    rw [g 44 1 (by omega), g 46 1 (by omega), g 48 1 (by omega), g 67 1 (by omega), g 69 1 (by omega), g 71 1 (by omega)]
    exact this
end
