/-! ===== how the class's cells and the reference's go together between two calls ===== -/
def kindB (b : Int) : Int := if b = 10 ∨ b = 32 then 4 else if 97 ≤ b ∧ b ≤ 122 then 1 else if 48 ≤ b ∧ b ≤ 57 then 2 else 3
/-- the reference's words: where they lie, their letters -/
def wTab : List (Nat × List Int) := [(212, [112, 108, 97, 99, 101]), (213, [114, 111, 97, 100]), (214, [109, 105, 108, 101, 115]), (215, [112, 97, 105, 114]), (216, [115, 105, 122, 101]), (217, [112, 117, 108, 108, 115]), (218, [98, 121]), (219, [119, 97, 108, 107, 101, 114]), (220, [119, 105, 108, 108]), (221, [116, 111]), (222, [105, 110]), (223, [112, 117, 108, 108]), (224, [115, 116, 114, 105, 118, 101]), (225, [108, 97, 119]), (226, [108, 101, 103, 115]), (227, [114, 97, 105, 110]), (228, [104, 97, 98, 105, 116]), (229, [116, 105, 103, 104, 116]), (230, [119, 97, 108, 107, 101, 100]), (231, [100, 97, 121]), (232, [110, 117, 109, 98, 101, 114]), (233, [116, 104, 101, 114, 101]), (234, [119, 101, 110, 116]), (235, [102, 97, 114]), (236, [111, 114]), (237, [97, 110, 100]), (238, [110, 111, 116]), (239, [97, 108, 108]), (240, [109, 105, 110]), (241, [109, 97, 120]), (263, [102, 105, 114, 115, 116]), (264, [108, 97, 115, 116]), (265, [111, 102, 116, 101, 110]), (266, [116, 111, 116, 97, 108]), (267, [109, 111, 115, 116]), (268, [108, 101, 97, 115, 116]), (269, [110, 111, 116]), (270, [97, 110, 100]), (271, [111, 114]), (272, [97, 108, 108]), (273, [109, 105, 110]), (274, [109, 97, 120]), (275, [104, 97, 98, 105, 116]), (276, [116, 105, 103, 104, 116]), (277, [119, 97, 108, 107, 101, 100]), (278, [119, 105, 108, 108]), (279, [100, 97, 121]), (280, [110, 117, 109, 98, 101, 114]), (281, [115, 105, 122, 101]), (282, [119, 101, 110, 116]), (283, [116, 104, 101, 114, 101]), (284, [102, 97, 114])]
def rTape (f : Nat → Int → Int) : Prop := f 1 2 = f 209 1 ∧ 0 ≤ f 1 2 ∧ f 1 2 ≤ 1600 ∧ (∀ k, 0 ≤ k → k < 1600 → f 2 k = f 210 k ∧ 0 ≤ f 2 k ∧ f 2 k ≤ 255) ∧ f 1 5 = f 209 7 ∧ f 1 6 = f 209 8
def rRefu (n : Nat) (f : Nat → Int → Int) : Prop := ∀ k, 0 ≤ k → k < 6 → f 41 k = f 211 k ∧ 0 ≤ f 41 k ∧ f 41 k ≤ (n : Int)
def rWords (f : Nat → Int → Int) : Prop := (∀ b, 0 ≤ b → b ≤ 255 → f 4 b = kindB b) ∧ ∀ e, e ∈ wTab → ∀ i : Nat, i < e.2.length → f e.1 (i : Int) = e.2.getD i 0
def rSeed (f g : Nat → Int → Int) : Prop := f 0 18 = g 209 76 ∧ 0 ≤ f 0 18 ∧ f 0 18 ≤ 2147483647
def rImg (f : Nat → Int → Int) : Prop := f 0 15 = f 209 110 ∧ 0 ≤ f 0 15 ∧ f 0 15 ≤ 44 ∧ ∀ k, 0 ≤ k → k < f 0 15 → f 42 k = f 288 k
def rRows (f : Nat → Int → Int) : Prop := f 24 0 = f 209 67 ∧ 0 ≤ f 24 0 ∧ f 24 0 ≤ 16 ∧ ∀ k, 0 ≤ k → k < f 24 0 → f 25 k = f 260 (2 * k) ∧ f 26 k = f 260 (2 * k + 1) ∧ 0 ≤ f 25 k ∧ f 25 k ≤ 30 ∧ 0 ≤ f 26 k ∧ f 26 k < f 242 4
/-- a name's number by its first n letters -/
def nmV (l : Int → Int) : Nat → Int
  | 0 => 0
  | n + 1 => 27 * nmV l n + l (n : Int)
def nmRel (l : Int → Int) (v : Int) : Prop := ∃ n : Nat, 1 ≤ n ∧ n ≤ 6 ∧ (∀ k : Int, 0 ≤ k → k < (n : Int) → 1 ≤ l k ∧ l k ≤ 26) ∧ (∀ k : Int, (n : Int) ≤ k → k < 6 → l k = 0) ∧ v = nmV l n
/-- a code of the reference's, as the class has it -/
def cDec (r : Int) : Int := if 1000 ≤ r then r - 1000 else if r = 40 then 10003 else if r = 41 then 10004 else if r = 42 then 10005 else if r = 43 then 10002 else if r = 44 then 10006 else if r = 45 then 10000 else if r = 46 then 10001 else if r = 47 then 10007 else if r = 48 then 10008 else if r = 60 then 20012 else if r = 13 then 1 else 19999 + r
/-- how many values there are behind i codes -/
def cDep (c : Int → Int) : Nat → Int
  | 0 => 0
  | i + 1 => cDep c i + (if 13 ≤ c (i : Int) ∧ c (i : Int) ≠ 60 then 1 else if c (i : Int) = 60 ∨ c (i : Int) = 12 then 0 else -1)
/-- codes of a SUM of a land's -/
def lWf (c : Int → Int) (n : Nat) : Prop := cDep c n = 1 ∧ ∀ i : Nat, i < n → (((1000 ≤ c (i : Int) ∧ c (i : Int) ≤ 10999) ∨ (40 ≤ c (i : Int) ∧ c (i : Int) ≤ 44)) ∧ 0 ≤ cDep c i ∧ cDep c i < 60) ∨ (1 ≤ c (i : Int) ∧ c (i : Int) ≤ 6 ∧ 2 ≤ cDep c i ∧ cDep c i ≤ 60)
/-- the class's formula at b, the reference's of that number -/
def rCode (f : Nat → Int → Int) (b : Nat) (w dflt : Int) : Prop := 1 ≤ f b 2 ∧ f b 2 ≤ 1600 ∧
  ((f 249 (2 + w) = -1 ∧ f b 2 = 1 ∧ f (b + 1) 0 = dflt) ∨
   (0 ≤ f 249 (2 + w) ∧ f 250 (2 + w) = f 249 (2 + w) + f b 2 ∧ f 250 (2 + w) ≤ 1600 ∧ (∀ i, 0 ≤ i → i < f b 2 → f (b + 1) i = cDec (f 251 (1600 + (f 249 (2 + w) + i)))) ∧ lWf (fun i => f 251 (1600 + (f 249 (2 + w) + i))) (f b 2).toNat))
/-- before the first land the class has no codes; nobody walks then -/
def rCo (f : Nat → Int → Int) (b : Nat) (w dflt : Int) : Prop := rCode f b w dflt ∨ (f 242 6 = 0 ∧ f 249 (2 + w) = -1)
theorem rCo_of {f : Nat → Int → Int} {b : Nat} {w dflt : Int} (h : rCo f b w dflt) (h6 : 0 < f 242 6) : rCode f b w dflt := by
  rcases h with h | ⟨h, _⟩
  · exact h
  · omega
/-- the land that stands: the class's at L -/
def rCount (f : Nat → Int → Int) (L : Nat) : Prop := f (L + 1) 0 = f 242 4 ∧ 0 ≤ f 242 4 ∧ f 242 4 ≤ 7 ∧ f (L + 3) 0 = f 242 5 ∧ f 242 5 ≤ 8 ∧ f (L + 5) 0 = f 242 6 ∧ 0 ≤ f 242 6 ∧ f 242 6 ≤ 6 ∧ f 242 6 ≤ f 242 5 ∧ f L 16 = f 242 7
def rNames (f g : Nat → Int → Int) (L : Nat) : Prop := ∀ d w : Int, 0 ≤ d → d < 3 → 0 ≤ w → w < f 242 (4 + d) → nmRel (fun k => f (L + 2 + 2 * d.toNat) (6 * w + k)) (g 243 (24 + 8 * d + w))
def rPairs (f : Nat → Int → Int) (L : Nat) : Prop := ∀ p, 0 ≤ p → p < f 242 5 → f (L + 10) p = f 245 (24 + 3 * p) ∧ f (L + 11) p = f 245 (25 + 3 * p) ∧ 1 ≤ f (L + 10) p ∧ f (L + 10) p ≤ 50 ∧ 0 ≤ f (L + 11) p ∧ f (L + 11) p < f 242 4
def rWalk (f : Nat → Int → Int) (L : Nat) : Prop := ∀ w, 0 ≤ w → w < f 242 6 → f (L + 13) w = f 246 (18 + 3 * w) ∧ f (L + 14) w = f 246 (19 + 3 * w) ∧ f (L + 15) w = f 246 (20 + 3 * w) ∧ 1 ≤ f (L + 13) w ∧ f (L + 13) w ≤ 50 ∧ 0 ≤ f (L + 14) w ∧ f (L + 14) w ≤ 99 ∧ 0 ≤ f (L + 15) w ∧ f (L + 15) w < f 242 4
def rWays (f : Nat → Int → Int) (L : Nat) : Prop := ∀ a b, 0 ≤ a → a < f 242 4 → 0 ≤ b → b < f 242 4 → f 252 (7 * a + b) = (if f (L + 8) (7 * a + b) < 1000 then f (L + 8) (7 * a + b) else -1) ∧ 0 ≤ f (L + 8) (7 * a + b) ∧ f (L + 8) (7 * a + b) ≤ 1000 ∧ f (L + 9) (7 * a + b) = f 253 (7 * a + b) ∧ -1 ≤ f 253 (7 * a + b) ∧ f 253 (7 * a + b) < f 242 4 ∧ (a = b → f 253 (7 * a + b) = -1)
def rLand (f g : Nat → Int → Int) (L : Nat) : Prop := rCount f L ∧ rNames f g L ∧ rPairs f L ∧ rWalk f L ∧ rWays f L ∧ (f L 18 = f 248 4 ∧ 1 ≤ f L 18 ∧ f L 18 ≤ 9) ∧ (f L 19 = f 248 5 ∧ 0 ≤ f L 19 ∧ f L 19 ≤ 100) ∧ rCo f (L + 17) 0 10003 ∧ rCo f (L + 20) 1 10002
/-- a State of the class's at A, a row of the reference's -/
def sRel (f : Nat → Int → Int) (A : Nat) (N : Int → Int) : Prop := f A 6 = N 0 ∧ f A 7 = N 1 ∧ (∀ p, 0 ≤ p → p < f 242 5 → f (A + 1) p = N (2 + p)) ∧ (∀ w, 0 ≤ w → w < f 242 6 → f (A + 2) w = N (10 + 3 * w) ∧ f (A + 3) w = N (11 + 3 * w) - 1 ∧ f (A + 4) w = N (12 + 3 * w)) ∧ f A 5 = N 28 ∧ ∀ k, 0 ≤ k → k < N 28 → f (A + 5) k = N (29 + k)
/-- what holds of a row: a places, b pairs, c walkers -/
def nInv (a b c : Int) (N : Int → Int) : Prop := (0 ≤ N 0 ∧ N 0 ≤ 999) ∧ (0 ≤ N 1 ∧ N 1 ≤ 2) ∧ (∀ p, 0 ≤ p → p < b → 0 ≤ N (2 + p) ∧ N (2 + p) ≤ 9) ∧ (∀ w, 0 ≤ w → w < c → 0 ≤ N (10 + 3 * w) ∧ N (10 + 3 * w) < b ∧ 0 ≤ N (11 + 3 * w) ∧ N (11 + 3 * w) ≤ a ∧ 0 ≤ N (12 + 3 * w) ∧ N (12 + 3 * w) ≤ 999) ∧ N 28 = b - c ∧ (∀ k, 0 ≤ k → k < b - c → 0 ≤ N (29 + k) ∧ N (29 + k) < b) ∧ (∀ v w, 0 ≤ v → v < w → w < c → N (10 + 3 * v) ≠ N (10 + 3 * w)) ∧ (∀ j k, 0 ≤ j → j < k → k < b - c → N (29 + j) ≠ N (29 + k)) ∧ ∀ w k, 0 ≤ w → w < c → 0 ≤ k → k < b - c → N (10 + 3 * w) ≠ N (29 + k)
def rNow (f : Nat → Int → Int) : Prop := sRel f 28 (fun i => f 254 i) ∧ nInv (f 242 4) (f 242 5) (f 242 6) (fun i => f 254 i)
def rPast (f : Nat → Int → Int) : Prop := 0 ≤ f 0 16 ∧ f 0 16 < 20 ∧ 0 ≤ f 0 17 ∧ f 0 17 ≤ 20 ∧ f 0 17 = f 209 74 ∧ 0 ≤ f 209 75 ∧ f 209 75 < 20 ∧ ∀ j, 0 ≤ j → j < f 0 17 → sRel f (89 + 6 * ((f 0 16 + f 0 17 - 1 - j) % 20).toNat) (fun i => f 262 (37 * ((f 209 75 - j) % 20) + i)) ∧ nInv (f 242 4) (f 242 5) (f 242 6) (fun i => f 262 (37 * ((f 209 75 - j) % 20) + i))
def rRefs (h : Nat → Nat) : Prop := ((h 1 = 43 ∧ h 2 = 66) ∨ (h 1 = 66 ∧ h 2 = 43)) ∧ h 3 = h 1
def rMost (f : Nat → Int → Int) : Prop := f 44 1 = 7 ∧ f 46 1 = 8 ∧ f 48 1 = 6 ∧ f 67 1 = 7 ∧ f 69 1 = 8 ∧ f 71 1 = 6
def R (n : Nat) (s : zS) : Prop := rRefs s.2.2 ∧ rTape s.1 ∧ rRefu n s.1 ∧ rWords s.1 ∧ rSeed s.1 s.2.1 ∧ rImg s.1 ∧ rRows s.1 ∧ rLand s.1 s.2.1 (s.2.2 1) ∧ rNow s.1 ∧ rPast s.1 ∧ rMost s.1
section
variable {n : Nat} {s : zS}
theorem R_refs (h : R n s) : rRefs s.2.2 := h.1
theorem R_tape (h : R n s) : rTape s.1 := h.2.1
theorem R_refu (h : R n s) : rRefu n s.1 := h.2.2.1
theorem R_words (h : R n s) : rWords s.1 := h.2.2.2.1
theorem R_seed (h : R n s) : rSeed s.1 s.2.1 := h.2.2.2.2.1
theorem R_img (h : R n s) : rImg s.1 := h.2.2.2.2.2.1
theorem R_rows (h : R n s) : rRows s.1 := h.2.2.2.2.2.2.1
theorem R_land (h : R n s) : rLand s.1 s.2.1 (s.2.2 1) := h.2.2.2.2.2.2.2.1
theorem R_now (h : R n s) : rNow s.1 := h.2.2.2.2.2.2.2.2.1
theorem R_past (h : R n s) : rPast s.1 := h.2.2.2.2.2.2.2.2.2.1
theorem R_most (h : R n s) : rMost s.1 := h.2.2.2.2.2.2.2.2.2.2
theorem R_up (h : R n s) : R (n + 1) s := by
  obtain ⟨h1, h2, h3, h4⟩ := h
  refine ⟨h1, h2, fun k a b => ?_, h4⟩
  obtain ⟨q1, q2, q3⟩ := h3 k a b
  exact ⟨q1, q2, by omega⟩
end
/-- a call of both -/
def Two (n : Nat) (x : Option (Int × zS)) (y : zS → Option (Int × zS)) : Prop := Ok x (fun r s1 => Ok (y s1) (fun r' s2 => r = r' ∧ R (n + 1) s2))
