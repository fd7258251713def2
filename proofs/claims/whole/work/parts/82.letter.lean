/-! ===== letter ===== -/
section
variable {g : Int → Int} {n : Nat}
/-- the number of a name by its letters: how large -/
theorem nmV_pos (h : ∀ k : Int, 0 ≤ k → k < (n : Int) → 1 ≤ g k ∧ g k ≤ 26) : ∀ m : Nat, m ≤ n → 0 ≤ nmV g m ∧ (0 < m → 1 ≤ nmV g m) := by
  intro m
  induction m with
  | zero => intro _; exact ⟨by show (0 : Int) ≤ 0; omega, fun z => by omega⟩
  | succ m ih =>
    intro hm
    have := ih (by omega)
    have q := h (m : Int) (by omega) (by omega)
    show 0 ≤ 27 * nmV g m + g (m : Int) ∧ (0 < m + 1 → 1 ≤ 27 * nmV g m + g (m : Int))
    omega
theorem nmV_max (h : ∀ k : Int, 0 ≤ k → k < (n : Int) → 1 ≤ g k ∧ g k ≤ 26) : ∀ m : Nat, m ≤ n → nmV g m < 27 ^ m := by
  intro m
  induction m with
  | zero => intro _; show (0 : Int) < 1; omega
  | succ m ih =>
    intro hm
    have := ih (by omega)
    have q := h (m : Int) (by omega) (by omega)
    show 27 * nmV g m + g (m : Int) < 27 ^ (m + 1)
    rw [Int.pow_succ]
    omega
/-- one letter off -/
theorem nmV_div (h : ∀ k : Int, 0 ≤ k → k < (n : Int) → 1 ≤ g k ∧ g k ≤ 26) {m : Nat} (hm : m + 1 ≤ n) : Int.tdiv (nmV g (m + 1)) 27 = nmV g m ∧ Int.tmod (nmV g (m + 1)) 27 = g (m : Int) := by
  have p := nmV_pos h m (by omega)
  have q := h (m : Int) (by omega) (by omega)
  have e : nmV g (m + 1) = 27 * nmV g m + g (m : Int) := rfl
  rw [e, Int.tdiv_eq_ediv_of_nonneg (by omega), Int.tmod_eq_emod_of_nonneg (by omega)]
  omega
end
section
variable {s : zS} {g : Int → Int} {n : Nat}
theorem nm_lt (h : ∀ k : Int, 0 ≤ k → k < (n : Int) → 1 ≤ g k ∧ g k ≤ 26) (hn : n ≤ 6) {m : Nat} (hm : m ≤ n) : nmV g m < 400000000 := by
  have h1 := nmV_max h m hm
  have h2 : (27 : Int) ^ m ≤ 27 ^ 6 := by
    have : (27 : Nat) ^ m ≤ 27 ^ 6 := Nat.pow_le_pow_right (by decide) (by omega)
    exact_mod_cast this
  have h3 : (27 : Int) ^ 6 = 387420489 := by decide
  omega
/-- letters are taken off from behind -/
theorem e208_104 (h : ∀ k : Int, 0 ≤ k → k < (n : Int) → 1 ≤ g k ∧ g k ≤ 26) (hn : n ≤ 6) {x : Int} (x0 : 0 ≤ x) : ∀ (f j : Nat) (q : Int), q = x + (j : Int) → q < (n : Int) → j < f → m208_104 f x (nmV g (q.toNat + 1)) q s = some (g x, s) := by
  intro f
  induction f with
  | zero => intro j q _ _ h; omega
  | succ f ih =>
    intro j q hq q1 hj
    have dv := nmV_div h (m := q.toNat) (by omega)
    have pm := nmV_pos h q.toNat (by omega)
    have lt := nm_lt h hn (m := q.toNat) (by omega)
    have eq' : ((q.toNat : Nat) : Int) = q := by omega
    rw [m208_104]
    cases j with
    | zero =>
      have gq := h q (by omega) q1
      rw [if_neg (by omega), oN_pos (by omega), oV_eq, dv.2, eq', oZ_pos (by omega) (by omega), show q = x by omega]
    | succ j =>
      rw [if_pos (by omega), oN_pos (by omega), dv.1, oJ_pos (by omega) (by omega), oZ_pos (by omega) (by omega), show q + -1 = q - 1 by omega]
      have := ih j (q - 1) (by omega) (by omega) (by omega)
      rw [show (q - 1).toNat + 1 = q.toNat by omega] at this
      exact this
/-- letters are counted, then taken -/
theorem e208_69 (h : ∀ k : Int, 0 ≤ k → k < (n : Int) → 1 ≤ g k ∧ g k ≤ 26) (hz : ∀ k : Int, (n : Int) ≤ k → k < 6 → g k = 0) (hn0 : 1 ≤ n) (hn : n ≤ 6) {x : Int} (x0 : 0 ≤ x) (x1 : x ≤ 5) : ∀ (f m : Nat), m ≤ n → m < f → m208_69 f x (nmV g n) ((n : Int) - (m : Int)) (nmV g m) s = some (g x, s) := by
  intro f
  induction f with
  | zero => intro m _ h; omega
  | succ f ih =>
    intro m hm hf
    have pm := nmV_pos h m hm
    rw [m208_69, oV_eq]
    cases m with
    | zero =>
      have e0 : nmV g 0 = 0 := rfl
      rw [e0, if_neg (by rw [zcmp_gt]; omega), show ((n : Int) - ((0 : Nat) : Int)) = (n : Int) by omega]
      by_cases c : x < (n : Int)
      · rw [if_pos c, oZ_pos (by omega) (by omega)]
        have := e208_104 (s := s) h hn x0 zFu (n - 1 - x.toNat) ((n : Int) - 1) (by omega) (by omega) (by unfold zFu; omega)
        rw [show ((n : Int) - 1).toNat + 1 = n by omega] at this
        exact this
      · rw [if_neg c, hz x (by omega) (by omega)]
    | succ m =>
      have dv := nmV_div h (m := m) hm
      have pm' := nmV_pos h m (by omega)
      have lt := nm_lt h hn (m := m) (by omega)
      have p1 := pm.2 (by omega)
      rw [if_pos (by rw [zcmp_gt]; omega), oZ_pos (by omega) (by omega), oN_pos (by omega), dv.1, oJ_pos (by omega) (by omega), show (n : Int) - ((m + 1 : Nat) : Int) + 1 = (n : Int) - (m : Int) by omega]
      exact ih m (by omega) (by omega)
end
theorem t106 : T106 := by
  intro n s x y z hx hy hz hR hn
  have h := R_up hR
  have hLL := R_LL hR
  obtain ⟨b1, b2, b3, b4, b5, b6, b7, b8, b9, b10⟩ := R_cnt hR
  have hN := (R_land hR).2.1
  -- the class's Names at c
  have e52 : ∀ c : Nat, m52 c y z s = (if (if 0 ≤ y ∧ y < s.1 c 0 then (1 : Int) else 0) = 0 then some ((-1 : Int), s) else if z < 0 then some ((-1 : Int), s) else if z < 6 then oZ (y * 6) fun z7 => oZ (z7 + z) fun z9 => oX z9 (zNl c) (oV (s.1 (c + 1) z9) fun z11 => some (z11, s)) else some ((-1 : Int), s)) := by
    intro c
    unfold m52
    rw [e50, oC_some]
  have key : ∀ (d : Int) (c : Nat), 0 ≤ d → d < 3 → c = s.2.2 1 + 1 + 2 * d.toNat → s.1 c 0 = s.1 242 (4 + d) → (s.1 242 (4 + d)) * 6 ≤ (zNl c : Int) → s.1 242 (4 + d) ≤ 8 → 0 ≤ s.1 242 (4 + d) → ∃ r, m52 c y z s = some (r, s) ∧ m208 d y z s = some (r, s) := by
    intro d c d0 d1 hc hcnt hcap hle h0
    have em : m208 d y z s = (if (if 0 ≤ y ∧ y ≤ s.1 242 (4 + d) - 1 then (1 : Int) else 0) = 0 then some ((-1 : Int), s) else if (if 0 ≤ z ∧ z ≤ 5 then (1 : Int) else 0) = 0 then some ((-1 : Int), s) else oZ (8 * d) fun z19 => oZ (24 + z19) fun z21 => oZ (z21 + y) fun z23 => oX z23 48 (oV (s.2.1 243 z23) fun z25 => m208_69 zFu z z25 0 z25 s)) := by
      unfold m208
      rw [e150, oC_some, if_pos (show 0 ≤ d ∧ d ≤ 2 by omega), if_neg (by decide), oZ_pos (by omega) (by omega), oX_pos (by omega) (by omega), oV_eq, oZ_pos (by omega) (by omega), e150, oC_some, e150, oC_some]
    by_cases cy : 0 ≤ y ∧ y < s.1 242 (4 + d)
    · by_cases cz : 0 ≤ z ∧ z ≤ 5
      · obtain ⟨m, m1, m2, m3, m4, m5⟩ := hN d y d0 d1 cy.1 cy.2
        refine ⟨s.1 (c + 1) (6 * y + z), ?_, ?_⟩
        · rw [e52, hcnt, if_pos cy, if_neg (by decide), if_neg (by omega), if_pos (by omega), oZ_pos (by omega) (by omega), oZ_pos (by omega) (by omega), oX_pos (by omega) (by omega), oV_eq, show y * 6 + z = 6 * y + z by omega]
        · rw [em, if_pos (show 0 ≤ y ∧ y ≤ s.1 242 (4 + d) - 1 by omega), if_neg (by decide), if_pos cz, if_neg (by decide), oZ_pos (by omega) (by omega), oZ_pos (by omega) (by omega), oZ_pos (by omega) (by omega), oX_pos (by omega) (by omega), oV_eq, m5]
          have := e208_69 (s := s) (g := fun k => s.1 (s.2.2 1 + 2 + 2 * d.toNat) (6 * y + k)) m3 m4 m1 m2 cz.1 cz.2 zFu m (by omega) (by unfold zFu; omega)
          rw [show (m : Int) - (m : Int) = 0 by omega] at this
          rw [this, show c + 1 = s.2.2 1 + 2 + 2 * d.toNat by omega]
      · refine ⟨-1, ?_, ?_⟩
        · rw [e52, hcnt, if_pos cy, if_neg (by decide)]
          by_cases c0 : z < 0
          · rw [if_pos c0]
          · rw [if_neg c0, if_neg (by omega)]
        · rw [em, if_pos (show 0 ≤ y ∧ y ≤ s.1 242 (4 + d) - 1 by omega), if_neg (by decide), if_neg cz, if_pos rfl]
    · refine ⟨-1, ?_, ?_⟩
      · rw [e52, hcnt, if_neg cy, if_pos rfl]
      · rw [em, if_neg (show ¬ (0 ≤ y ∧ y ≤ s.1 242 (4 + d) - 1) by omega), if_pos rfl]
  have nl : zNl (s.2.2 1 + 1) = 42 ∧ zNl (s.2.2 1 + 3) = 48 ∧ zNl (s.2.2 1 + 5) = 36 := by
    rcases hLL with e | e <;> rw [e] <;> exact ⟨rfl, rfl, rfl⟩
  by_cases c0 : x = 0
  · obtain ⟨r, q1, q2⟩ := key 0 (s.2.2 1 + 1) (by omega) (by omega) (by simp) b1 (by rw [nl.1]; show s.1 242 4 * 6 ≤ _; omega) (by show s.1 242 4 ≤ 8; omega) b2
    refine two_e (r := r) (r' := r) (s1 := s) (s2 := s) ?_ (by rw [c0]; exact q2) rfl h
    unfold m106; rw [if_pos c0, oV_eq, q1, oC_some]
  by_cases c1 : x = 1
  · obtain ⟨r, q1, q2⟩ := key 1 (s.2.2 1 + 3) (by omega) (by omega) (by show _ = s.2.2 1 + 1 + 2 * 1; omega) b4 (by rw [nl.2.1]; show s.1 242 5 * 6 ≤ _; omega) (by show s.1 242 5 ≤ 8; omega) (by show 0 ≤ s.1 242 5; omega)
    refine two_e (r := r) (r' := r) (s1 := s) (s2 := s) ?_ (by rw [c1]; exact q2) rfl h
    unfold m106; rw [if_neg c0, if_pos c1, oV_eq, q1, oC_some]
  by_cases c2 : x = 2
  · obtain ⟨r, q1, q2⟩ := key 2 (s.2.2 1 + 5) (by omega) (by omega) (by show _ = s.2.2 1 + 1 + 2 * 2; omega) b6 (by rw [nl.2.2]; show s.1 242 6 * 6 ≤ _; omega) (by show s.1 242 6 ≤ 8; omega) b7
    refine two_e (r := r) (r' := r) (s1 := s) (s2 := s) ?_ (by rw [c2]; exact q2) rfl h
    unfold m106; rw [if_neg c0, if_neg c1, if_pos c2, oV_eq, q1, oC_some]
  · refine two_e (r := -1) (r' := -1) (s1 := s) (s2 := s) ?_ ?_ rfl h
    · unfold m106; rw [if_neg c0, if_neg c1, if_neg c2]
    · unfold m208; rw [e150, oC_some, if_neg (show ¬ (0 ≤ x ∧ x ≤ 2) by omega), if_pos rfl]
