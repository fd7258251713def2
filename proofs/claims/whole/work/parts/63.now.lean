/-! ===== how things stand ===== -/
/-- the first from k on, of j, that is p -/
def fnd (g : Int → Int) (p : Int) : Nat → Int → Int
  | 0, _ => -1
  | j + 1, k => if g k = p then k else fnd g p j (k + 1)
/-- the sum of j from k on -/
def cn (g : Int → Int) : Nat → Int → Int → Int
  | 0, _, a => a
  | j + 1, k, a => cn g j (k + 1) (a + g k)
theorem fnd_congr {g g' : Int → Int} {p : Int} : ∀ (j : Nat) (k : Int), (∀ w, k ≤ w → w < k + (j : Int) → g w = g' w) → fnd g p j k = fnd g' p j k := by
  intro j
  induction j with
  | zero => intro k _; rfl
  | succ j ih =>
    intro k h
    show (if _ then _ else _) = (if _ then _ else _)
    rw [h k (by omega) (by omega), ih (k + 1) (fun w a b => h w (by omega) (by omega))]
theorem fnd_in {g : Int → Int} {p : Int} : ∀ (j : Nat) (k : Int), fnd g p j k = -1 ∨ (k ≤ fnd g p j k ∧ fnd g p j k < k + (j : Int) ∧ g (fnd g p j k) = p) := by
  intro j
  induction j with
  | zero => intro k; exact Or.inl rfl
  | succ j ih =>
    intro k
    unfold fnd
    split
    · rename_i h; exact Or.inr ⟨by omega, by omega, h⟩
    · rcases ih (k + 1) with q | q
      · exact Or.inl q
      · exact Or.inr ⟨by omega, by omega, q.2.2⟩
/-- none found: none is so -/
theorem fnd_none {g : Int → Int} {p : Int} : ∀ (j : Nat) (k : Int), 0 ≤ k → fnd g p j k = -1 → ∀ w, k ≤ w → w < k + (j : Int) → g w ≠ p := by
  intro j
  induction j with
  | zero => intro k _ _ w a b; omega
  | succ j ih =>
    intro k k0 h w a b
    unfold fnd at h
    split at h
    · omega
    · rename_i c
      by_cases e : w = k
      · rw [e]; exact c
      · exact ih (k + 1) (by omega) h w (by omega) (by omega)
theorem cn_congr {g g' : Int → Int} : ∀ (j : Nat) (k a : Int), (∀ w, k ≤ w → w < k + (j : Int) → g w = g' w) → cn g j k a = cn g' j k a := by
  intro j
  induction j with
  | zero => intro k a _; rfl
  | succ j ih =>
    intro k a h
    show cn g j (k + 1) (a + g k) = cn g' j (k + 1) (a + g' k)
    rw [h k (by omega) (by omega), ih (k + 1) _ (fun w a b => h w (by omega) (by omega))]
theorem cn_in {g : Int → Int} (hg : ∀ k, 0 ≤ g k ∧ g k ≤ 1) : ∀ (j : Nat) (k a : Int), a ≤ cn g j k a ∧ cn g j k a ≤ a + (j : Int) := by
  intro j
  induction j with
  | zero => intro k a; exact ⟨by show a ≤ a; omega, by show a ≤ a + 0; omega⟩
  | succ j ih =>
    intro k a
    have := ih (k + 1) (a + g k)
    have := hg k
    show a ≤ cn g j (k + 1) (a + g k) ∧ cn g j (k + 1) (a + g k) ≤ _
    omega
section
variable {s : zS} {A L : Nat} {p m : Int}
theorem e58 (hm : m ≤ 6) : ∀ (n j : Nat) (k : Int), 0 ≤ k → k = m - (j : Int) → j < n → m58_2 n A p m k s = some (fnd (fun w => s.1 (A + 2) w) p j k, s) := by
  intro n
  induction n with
  | zero => intro j k _ _ h; omega
  | succ n ih =>
    intro j k k0 hk hj
    rw [m58_2]
    cases j with
    | zero => rw [if_neg (by omega)]; rfl
    | succ j =>
      rw [if_pos (by omega), oX_pos k0 (by omega), oV_eq]
      show _ = some (if s.1 (A + 2) k = p then k else _, s)
      by_cases c : s.1 (A + 2) k = p
      · rw [if_pos c, if_pos c]
      · rw [if_neg c, if_neg c, oZ_pos (by omega) (by omega), ih j (k + 1) (by omega) (by omega) (by omega)]
theorem e58m (h0 : 0 ≤ m) (hm : m ≤ 6) : m58 A p m s = some (fnd (fun w => s.1 (A + 2) w) p m.toNat 0, s) := by
  unfold m58
  exact e58 hm zFu m.toNat 0 (by omega) (by omega) (by unfold zFu; omega)
theorem e192_2 (h0 : 0 ≤ s.1 242 6) (hm : s.1 242 6 ≤ 6) : ∀ (n j : Nat) (k : Int), 0 ≤ k → k = s.1 242 6 - (j : Int) → j < n → m192_2 n p k s = some (fnd (fun w => s.1 254 (10 + 3 * w)) p j k, s) := by
  intro n
  induction n with
  | zero => intro j k _ _ h; omega
  | succ n ih =>
    intro j k k0 hk hj
    rw [m192_2, e183, oC_some]
    cases j with
    | zero => rw [if_neg (by omega)]; rfl
    | succ j =>
      rw [if_pos (by omega), e188 k0 (by omega), oC_some]
      show _ = some (if s.1 254 (10 + 3 * k) = p then k else _, s)
      by_cases c : s.1 254 (10 + 3 * k) = p
      · rw [if_pos c, if_pos c]
      · rw [if_neg c, if_neg c, oZ_pos (by omega) (by omega), ih j (k + 1) (by omega) (by omega) (by omega)]
theorem e192 (h0 : 0 ≤ s.1 242 6) (hm : s.1 242 6 ≤ 6) : m192 p s = some (fnd (fun w => s.1 254 (10 + 3 * w)) p (s.1 242 6).toNat 0, s) := by
  unfold m192
  exact e192_2 h0 hm zFu (s.1 242 6).toNat 0 (by omega) (by omega) (by unfold zFu; omega)
theorem e141 (hM : s.2.2 1 = L) (hw : s.1 (L + 5) 0 = m) (hm : m ≤ 6) : ∀ (n j : Nat) (k a : Int), 0 ≤ k → k = m - (j : Int) → j < n → 0 ≤ a → a ≤ k → m141_4 n a k s = some (cn (fun w => if s.1 31 w = -1 then 0 else 1) j k a, s) := by
  intro n
  induction n with
  | zero => intro j k a _ _ h; omega
  | succ n ih =>
    intro j k a k0 hk hj a0 a1
    rw [m141_4, oV_eq, hM, oV_eq, hw]
    cases j with
    | zero => rw [if_neg (by omega)]; rfl
    | succ j =>
      rw [if_pos (by omega), oX_pos k0 (by omega), oV_eq]
      show _ = some (cn _ j (k + 1) (a + (if s.1 31 k = -1 then 0 else 1)), s)
      by_cases c : s.1 31 k = -1
      · rw [if_pos c, if_pos c, oZ_pos (by omega) (by omega), ih j (k + 1) a (by omega) (by omega) (by omega) a0 (by omega), show a + 0 = a by omega]
      · rw [if_neg c, if_neg c, oZ_pos (by omega) (by omega), oZ_pos (by omega) (by omega), ih j (k + 1) (a + 1) (by omega) (by omega) (by omega) (by omega) (by omega)]
theorem e6 (hM : s.2.2 3 = L) (hw : s.1 (L + 5) 0 = m) (hm : m ≤ 6) : ∀ (n j : Nat) (k a : Int), 0 ≤ k → k = m - (j : Int) → j < n → 0 ≤ a → a ≤ k → m6_4 n A a k s = some (cn (fun w => if s.1 (A + 3) w = s.1 (L + 15) w then 1 else 0) j k a, s) := by
  intro n
  induction n with
  | zero => intro j k a _ _ h; omega
  | succ n ih =>
    intro j k a k0 hk hj a0 a1
    rw [m6_4, oV_eq, oV_eq, hM, oV_eq, hw]
    cases j with
    | zero => rw [if_neg (by omega)]; rfl
    | succ j =>
      rw [if_pos (by omega), e5 k0 (by omega) hM, oC_some]
      show _ = some (cn _ j (k + 1) (a + (if s.1 (A + 3) k = s.1 (L + 15) k then 1 else 0)), s)
      by_cases c : s.1 (A + 3) k = s.1 (L + 15) k
      · rw [if_pos c, if_neg (by decide), oZ_pos (by omega) (by omega), oZ_pos (by omega) (by omega), ih j (k + 1) (a + 1) (by omega) (by omega) (by omega) (by omega) (by omega)]
      · rw [if_neg c, if_pos rfl, oZ_pos (by omega) (by omega), ih j (k + 1) a (by omega) (by omega) (by omega) a0 (by omega), show a + 0 = a by omega]
theorem e6m (hM : s.2.2 3 = L) (hw : s.1 (L + 5) 0 = m) (h0 : 0 ≤ m) (hm : m ≤ 6) : m6 A s = some (cn (fun w => if s.1 (A + 3) w = s.1 (L + 15) w then 1 else 0) m.toNat 0 0, s) := by
  unfold m6
  exact e6 hM hw hm zFu m.toNat 0 0 (by omega) (by omega) (by unfold zFu; omega) (by omega) (by omega)
theorem e206 (h0 : 0 ≤ s.1 242 6) (hm : s.1 242 6 ≤ 6) (hp : ∀ w, 0 ≤ w → w < s.1 242 6 → 0 ≤ s.1 254 (11 + 3 * w) ∧ s.1 254 (11 + 3 * w) ≤ 7) : ∀ (n j : Nat) (k a : Int), 0 ≤ k → k = s.1 242 6 - (j : Int) → j < n → 0 ≤ a → a ≤ k → m206_4 n a k s = some (cn (fun w => if s.1 254 (11 + 3 * w) - 1 = -1 then 0 else 1) j k a, s) := by
  intro n
  induction n with
  | zero => intro j k a _ _ h; omega
  | succ n ih =>
    intro j k a k0 hk hj a0 a1
    rw [m206_4, e183, oC_some]
    cases j with
    | zero => rw [if_neg (by omega)]; rfl
    | succ j =>
      have := hp k k0 (by omega)
      rw [if_pos (by omega), e189 k0 (by omega) (by omega) (by omega), oC_some]
      show _ = some (cn _ j (k + 1) (a + (if s.1 254 (11 + 3 * k) - 1 = -1 then 0 else 1)), s)
      by_cases c : s.1 254 (11 + 3 * k) - 1 = -1
      · rw [if_pos c, if_pos c, oZ_pos (by omega) (by omega), ih j (k + 1) a (by omega) (by omega) (by omega) a0 (by omega), show a + 0 = a by omega]
      · rw [if_neg c, if_neg c, oZ_pos (by omega) (by omega), oZ_pos (by omega) (by omega), ih j (k + 1) (a + 1) (by omega) (by omega) (by omega) (by omega) (by omega)]
theorem e200 (h0 : 0 ≤ s.1 242 6) (hm : s.1 242 6 ≤ 6) (hp : ∀ w, 0 ≤ w → w < s.1 242 6 → 0 ≤ s.1 254 (11 + 3 * w) ∧ s.1 254 (11 + 3 * w) ≤ 7) : ∀ (n j : Nat) (k a : Int), 0 ≤ k → k = s.1 242 6 - (j : Int) → j < n → 0 ≤ a → a ≤ k → m200_4 n a k s = some (cn (fun w => if s.1 254 (11 + 3 * w) - 1 = s.1 246 (20 + 3 * w) then 1 else 0) j k a, s) := by
  intro n
  induction n with
  | zero => intro j k a _ _ h; omega
  | succ n ih =>
    intro j k a k0 hk hj a0 a1
    rw [m200_4, e183, oC_some]
    cases j with
    | zero => rw [if_neg (by omega)]; rfl
    | succ j =>
      have := hp k k0 (by omega)
      rw [if_pos (by omega), e193 k0 (by omega) (by omega) (by omega), oC_some]
      show _ = some (cn _ j (k + 1) (a + (if s.1 254 (11 + 3 * k) - 1 = s.1 246 (20 + 3 * k) then 1 else 0)), s)
      by_cases c : s.1 254 (11 + 3 * k) - 1 = s.1 246 (20 + 3 * k)
      · rw [if_pos c, if_neg (by decide), oZ_pos (by omega) (by omega), oZ_pos (by omega) (by omega), ih j (k + 1) (a + 1) (by omega) (by omega) (by omega) (by omega) (by omega)]
      · rw [if_neg c, if_pos rfl, oZ_pos (by omega) (by omega), ih j (k + 1) a (by omega) (by omega) (by omega) a0 (by omega), show a + 0 = a by omega]
theorem e200m (h0 : 0 ≤ s.1 242 6) (hm : s.1 242 6 ≤ 6) (hp : ∀ w, 0 ≤ w → w < s.1 242 6 → 0 ≤ s.1 254 (11 + 3 * w) ∧ s.1 254 (11 + 3 * w) ≤ 7) : m200 s = some (cn (fun w => if s.1 254 (11 + 3 * w) - 1 = s.1 246 (20 + 3 * w) then 1 else 0) (s.1 242 6).toNat 0 0, s) := by
  unfold m200
  exact e200 h0 hm hp zFu (s.1 242 6).toNat 0 0 (by omega) (by omega) (by unfold zFu; omega) (by omega) (by omega)
end
section
variable {n : Nat} {s : zS}
/-- of a walker, by the relation -/
theorem R_w (h : R n s) {w : Int} (w0 : 0 ≤ w) (w1 : w < s.1 242 6) : s.1 30 w = s.1 254 (10 + 3 * w) ∧ s.1 31 w = s.1 254 (11 + 3 * w) - 1 ∧ s.1 32 w = s.1 254 (12 + 3 * w) ∧ 0 ≤ s.1 254 (10 + 3 * w) ∧ s.1 254 (10 + 3 * w) < s.1 242 5 ∧ 0 ≤ s.1 254 (11 + 3 * w) ∧ s.1 254 (11 + 3 * w) ≤ s.1 242 4 ∧ 0 ≤ s.1 254 (12 + 3 * w) ∧ s.1 254 (12 + 3 * w) ≤ 999 := by
  obtain ⟨hN, hI⟩ := R_now h
  have h1 := hN.2.2.2.1 w w0 w1
  have h2 := hI.2.2.2.1 w w0 w1
  exact ⟨h1.1, h1.2.1, h1.2.2, h2.1, h2.2.1, h2.2.2.1, h2.2.2.2.1, h2.2.2.2.2.1, h2.2.2.2.2.2⟩
theorem R_hp (h : R n s) : ∀ w, 0 ≤ w → w < s.1 242 6 → 0 ≤ s.1 254 (11 + 3 * w) ∧ s.1 254 (11 + 3 * w) ≤ 7 := by
  intro w w0 w1
  have := R_w h w0 w1
  have := (R_cnt h).2.2.1
  omega
theorem R_goal (h : R n s) {w : Int} (w0 : 0 ≤ w) (w1 : w < s.1 242 6) : s.1 (s.2.2 1 + 15) w = s.1 246 (20 + 3 * w) := ((R_land h).2.2.2.1 w w0 w1).2.2.1
end
theorem t105 : T105 := by
  intro n s x hx hR hn
  have h := R_up hR
  obtain ⟨b1, b2, b3, b4, b5, b6, b7, b8, b9, b10⟩ := R_cnt hR
  obtain ⟨hN, hI⟩ := R_now hR
  have hM := R_M3 hR
  have n0 : s.1 28 6 = s.1 254 0 := hN.1
  have n1 : s.1 28 7 = s.1 254 1 := hN.2.1
  have n28 : s.1 28 5 = s.1 254 28 := hN.2.2.2.2.1
  by_cases c0 : x = 0
  · exact two_e (s1 := s) (s2 := s) (r := s.1 (s.2.2 1 + 1) 0) (r' := s.1 242 4) (by unfold m105; rw [if_pos c0]; rfl) (by unfold m207; rw [if_pos c0, e181, oC_some]) b1 h
  by_cases c1 : x = 1
  · exact two_e (s1 := s) (s2 := s) (r := s.1 (s.2.2 1) 16) (r' := s.1 242 7) (by unfold m105; rw [if_neg c0, if_pos c1]; rfl) (by unfold m207; rw [if_neg c0, if_pos c1, oX_pos (by omega) (by omega)]; rfl) b10 h
  by_cases c2 : x = 2
  · exact two_e (s1 := s) (s2 := s) (r := s.1 (s.2.2 1 + 3) 0) (r' := s.1 242 5) (by unfold m105; rw [if_neg c0, if_neg c1, if_pos c2]; rfl) (by unfold m207; rw [if_neg c0, if_neg c1, if_pos c2, e182, oC_some]) b4 h
  by_cases c3 : x = 3
  · exact two_e (s1 := s) (s2 := s) (r := s.1 (s.2.2 1 + 5) 0) (r' := s.1 242 6) (by unfold m105; rw [if_neg c0, if_neg c1, if_neg c2, if_pos c3]; rfl) (by unfold m207; rw [if_neg c0, if_neg c1, if_neg c2, if_pos c3, e183, oC_some]) b6 h
  by_cases c4 : x = 4
  · refine two_e (s1 := s) (s2 := s) (r := s.1 28 6) (r' := s.1 254 0) (by unfold m105; rw [if_neg c0, if_neg c1, if_neg c2, if_neg c3, if_pos c4]; rfl) ?_ n0 h
    unfold m207; rw [if_neg c0, if_neg c1, if_neg c2, if_neg c3, if_pos c4, oZ_pos (by omega) (by omega), show x - 4 = 0 by omega, oX_pos (by omega) (by omega)]; rfl
  by_cases c5 : x = 5
  · refine two_e (s1 := s) (s2 := s) (r := s.1 28 7) (r' := s.1 254 1) (by unfold m105; rw [if_neg c0, if_neg c1, if_neg c2, if_neg c3, if_neg c4, if_pos c5]; rfl) ?_ n1 h
    unfold m207; rw [if_neg c0, if_neg c1, if_neg c2, if_neg c3, if_neg c4, if_pos c5, oZ_pos (by omega) (by omega), show x - 4 = 1 by omega, oX_pos (by omega) (by omega)]; rfl
  by_cases c6 : x = 6
  · refine two_e (s1 := s) (s2 := s) (r := s.1 28 5) (r' := s.1 254 28) (by unfold m105; rw [if_neg c0, if_neg c1, if_neg c2, if_neg c3, if_neg c4, if_neg c5, if_pos c6]; rfl) ?_ n28 h
    unfold m207; rw [if_neg c0, if_neg c1, if_neg c2, if_neg c3, if_neg c4, if_neg c5, if_pos c6, oX_pos (by omega) (by omega)]; rfl
  by_cases c7 : x = 7
  · refine two_e (s1 := s) (s2 := s) ?_ ?_ ?_ h (r := cn (fun w => if s.1 31 w = -1 then 0 else 1) (s.1 242 6).toNat 0 0) (r' := cn (fun w => if s.1 254 (11 + 3 * w) - 1 = -1 then 0 else 1) (s.1 242 6).toNat 0 0)
    · unfold m105; rw [if_neg c0, if_neg c1, if_neg c2, if_neg c3, if_neg c4, if_neg c5, if_neg c6, if_pos c7]
      unfold m141
      rw [e141 rfl b6 b8 zFu (s.1 242 6).toNat 0 0 (by omega) (by omega) (by unfold zFu; omega) (by omega) (by omega), oC_some]
    · unfold m207; rw [if_neg c0, if_neg c1, if_neg c2, if_neg c3, if_neg c4, if_neg c5, if_neg c6, if_pos c7]
      unfold m206
      rw [e206 b7 b8 (R_hp hR) zFu (s.1 242 6).toNat 0 0 (by omega) (by omega) (by unfold zFu; omega) (by omega) (by omega), oC_some]
    · refine cn_congr _ _ _ (fun w w0 w1 => ?_)
      rw [(R_w hR w0 (by omega)).2.1]
  by_cases c8 : x = 8
  · refine two_e (s1 := s) (s2 := s) ?_ ?_ ?_ h (r := cn (fun w => if s.1 31 w = s.1 (s.2.2 1 + 15) w then 1 else 0) (s.1 242 6).toNat 0 0) (r' := cn (fun w => if s.1 254 (11 + 3 * w) - 1 = s.1 246 (20 + 3 * w) then 1 else 0) (s.1 242 6).toNat 0 0)
    · unfold m105; rw [if_neg c0, if_neg c1, if_neg c2, if_neg c3, if_neg c4, if_neg c5, if_neg c6, if_neg c7, if_pos c8, e6m (A := 28) hM b6 b7 b8, oC_some]
    · unfold m207; rw [if_neg c0, if_neg c1, if_neg c2, if_neg c3, if_neg c4, if_neg c5, if_neg c6, if_neg c7, if_pos c8, e200m b7 b8 (R_hp hR), oC_some]
    · refine cn_congr _ _ _ (fun w w0 w1 => ?_)
      rw [(R_w hR w0 (by omega)).2.1, R_goal hR w0 (by omega)]
  by_cases c9 : x = 9
  · refine two_e (s1 := s) (s2 := s) (r := s.1 24 0) (r' := s.1 209 67) ?_ ?_ (R_rows hR).1 h
    · unfold m105; rw [if_neg c0, if_neg c1, if_neg c2, if_neg c3, if_neg c4, if_neg c5, if_neg c6, if_neg c7, if_neg c8, if_pos c9]; rfl
    · unfold m207; rw [if_neg c0, if_neg c1, if_neg c2, if_neg c3, if_neg c4, if_neg c5, if_neg c6, if_neg c7, if_neg c8, if_pos c9]; rfl
  by_cases c10 : x = 10
  · refine two_e (s1 := s) (s2 := s) (r := s.1 0 17) (r' := s.1 209 74) ?_ ?_ (R_past hR).2.2.2.2.1 h
    · unfold m105; rw [if_neg c0, if_neg c1, if_neg c2, if_neg c3, if_neg c4, if_neg c5, if_neg c6, if_neg c7, if_neg c8, if_neg c9, if_pos c10]; rfl
    · unfold m207; rw [if_neg c0, if_neg c1, if_neg c2, if_neg c3, if_neg c4, if_neg c5, if_neg c6, if_neg c7, if_neg c8, if_neg c9, if_pos c10]; rfl
  · refine two_e (s1 := s) (s2 := s) (r := -1) (r' := -1) ?_ ?_ rfl h
    · unfold m105; rw [if_neg c0, if_neg c1, if_neg c2, if_neg c3, if_neg c4, if_neg c5, if_neg c6, if_neg c7, if_neg c8, if_neg c9, if_neg c10]
    · unfold m207; rw [if_neg c0, if_neg c1, if_neg c2, if_neg c3, if_neg c4, if_neg c5, if_neg c6, if_neg c7, if_neg c8, if_neg c9, if_neg c10]
theorem t109 : T109 := by
  intro n s x y hx hy hR hn
  have h := R_up hR
  obtain ⟨b1, b2, b3, b4, b5, b6, b7, b8, b9, b10⟩ := R_cnt hR
  obtain ⟨hN, hI⟩ := R_now hR
  have ec : m109 x y s = (if (if 0 ≤ x ∧ x < s.1 242 5 then (1 : Int) else 0) = 0 then some ((-1 : Int), s) else if y = 0 then oV (s.2.2 1) fun w7 => oX x 8 (oV (s.1 (w7 + 10) x) fun z8 => some (z8, s)) else if y = 1 then oV (s.2.2 1) fun w11 => oX x 8 (oV (s.1 (w11 + 11) x) fun z12 => some (z12, s)) else if y = 2 then oX x 8 (oV (s.1 29 x) fun z15 => some (z15, s)) else if y = 3 then oV (s.2.2 1) fun w18 => oV (s.1 (w18 + 5) 0) fun z19 => oC (m58 28 x z19 s) fun z20 s21 => some (z20, s21) else some ((-1 : Int), s)) := by
    unfold m109
    rw [oV_eq, e50, oC_some, b4]
  have em : m211 x y s = (if (if 0 ≤ x ∧ x < s.1 242 5 then (1 : Int) else 0) = 0 then some ((-1 : Int), s) else if (if 0 ≤ y ∧ y ≤ 1 then (1 : Int) else 0) = 0 then if y = 2 then oC (m187 x s) fun z10 s11 => some (z10, s11) else if y = 3 then oC (m192 x s) fun z14 s15 => some (z14, s15) else some ((-1 : Int), s) else oZ (3 * x) fun z17 => oZ (24 + z17) fun z19 => oZ (z19 + y) fun z21 => oX z21 48 (oV (s.1 245 z21) fun z23 => some (z23, s))) := by
    unfold m211
    rw [e185 (by omega) (by omega), oC_some, e150, oC_some]
  by_cases c : 0 ≤ x ∧ x < s.1 242 5
  · rw [if_pos c, if_neg (by decide)] at ec em
    have hp := (R_land hR).2.2.1 x c.1 c.2
    by_cases c0 : y = 0
    · rw [if_pos c0, oV_eq, oX_pos (by omega) (by omega), oV_eq] at ec
      rw [if_pos (show 0 ≤ y ∧ y ≤ 1 by omega), if_neg (by decide), oZ_pos (by omega) (by omega), oZ_pos (by omega) (by omega), oZ_pos (by omega) (by omega), oX_pos (by omega) (by omega), oV_eq, show 24 + 3 * x + y = 24 + 3 * x by omega] at em
      exact two_e ec em hp.1 h
    rw [if_neg c0] at ec
    by_cases c1 : y = 1
    · rw [if_pos c1, oV_eq, oX_pos (by omega) (by omega), oV_eq] at ec
      rw [if_pos (show 0 ≤ y ∧ y ≤ 1 by omega), if_neg (by decide), oZ_pos (by omega) (by omega), oZ_pos (by omega) (by omega), oZ_pos (by omega) (by omega), oX_pos (by omega) (by omega), oV_eq, show 24 + 3 * x + y = 25 + 3 * x by omega] at em
      exact two_e ec em hp.2.1 h
    rw [if_neg c1] at ec
    rw [if_neg (show ¬ (0 ≤ y ∧ y ≤ 1) by omega), if_pos rfl] at em
    by_cases c2 : y = 2
    · rw [if_pos c2, oX_pos (by omega) (by omega), oV_eq] at ec
      rw [if_pos c2, e187 c.1 (by omega), oC_some] at em
      exact two_e ec em (hN.2.2.1 x c.1 c.2) h
    rw [if_neg c2] at ec em
    by_cases c3 : y = 3
    · rw [if_pos c3, oV_eq, oV_eq, b6, e58m b7 b8, oC_some] at ec
      rw [if_pos c3, e192 b7 b8, oC_some] at em
      exact two_e ec em (fnd_congr _ _ (fun w w0 w1 => (R_w hR w0 (by omega)).1)) h
    rw [if_neg c3] at ec em
    exact two_e ec em rfl h
  · rw [if_neg c, if_pos rfl] at ec em
    exact two_e ec em rfl h
