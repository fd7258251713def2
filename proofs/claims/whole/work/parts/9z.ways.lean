/-! ===== the shortest ways: purely, and the class's ===== -/
/-- one stage: by way of k -/
def wSt (k : Int) (M : Int → Int → Int) : Int → Int → Int := fun a b => if M a k + M k b < M a b then M a k + M k b else M a b
def wFl (M : Int → Int → Int) : Nat → Int → Int → Int
  | 0 => M
  | k + 1 => wSt (k : Int) (wFl M k)
/-- lengths, nothing on the diagonal -/
def wLn (n : Int) (M : Int → Int → Int) : Prop := (∀ a b, 0 ≤ a → a < n → 0 ≤ b → b < n → 0 ≤ M a b ∧ M a b ≤ 1000) ∧ ∀ a, 0 ≤ a → a < n → M a a = 0
section
variable {n k : Int} {M : Int → Int → Int}
theorem wSt_ok (h : wLn n M) (k0 : 0 ≤ k) (k1 : k < n) : wLn n (wSt k M) := by
  refine ⟨fun a b a0 a1 b0 b1 => ?_, fun a a0 a1 => ?_⟩
  · have h1 := h.1 a b a0 a1 b0 b1
    have h2 := h.1 a k a0 a1 k0 k1
    have h3 := h.1 k b k0 k1 b0 b1
    unfold wSt
    by_cases c : M a k + M k b < M a b
    · rw [if_pos c]; omega
    · rw [if_neg c]; omega
  · have h2 := h.1 a k a0 a1 k0 k1
    have h3 := h.1 k a k0 k1 a0 a1
    have h4 := h.2 a a0 a1
    unfold wSt
    rw [if_neg (by omega)]
    exact h4
theorem wSt_row (h : wLn n M) (k0 : 0 ≤ k) (k1 : k < n) {b : Int} : wSt k M k b = M k b := by
  have h4 := h.2 k k0 k1
  unfold wSt
  rw [if_neg (by omega)]
theorem wSt_col (h : wLn n M) (k0 : 0 ≤ k) (k1 : k < n) {a : Int} : wSt k M a k = M a k := by
  have h4 := h.2 k k0 k1
  unfold wSt
  rw [if_neg (by omega)]
theorem wFl_ok (h : wLn n M) : ∀ j : Nat, (j : Int) ≤ n → wLn n (wFl M j)
  | 0, _ => h
  | j + 1, hj => wSt_ok (wFl_ok h j (by omega)) (by omega) (by omega)
/-- within a stage: done before (x, y) -/
def wMx (k : Int) (M : Int → Int → Int) (x y : Int) : Int → Int → Int := fun a b => if a < x ∨ (a = x ∧ b < y) then wSt k M a b else M a b
theorem wMx_row (h : wLn n M) (k0 : 0 ≤ k) (k1 : k < n) {x y b : Int} : wMx k M x y k b = M k b := by
  unfold wMx
  by_cases c : k < x ∨ (k = x ∧ b < y)
  · rw [if_pos c, wSt_row h k0 k1]
  · rw [if_neg c]
theorem wMx_col (h : wLn n M) (k0 : 0 ≤ k) (k1 : k < n) {x y a : Int} : wMx k M x y a k = M a k := by
  unfold wMx
  by_cases c : a < x ∨ (a = x ∧ k < y)
  · rw [if_pos c, wSt_col h k0 k1]
  · rw [if_neg c]
theorem wMx_at {x y : Int} : wMx k M x y x y = M x y := if_neg (by omega)
theorem wMx_next {x y a b : Int} : wMx k M x (y + 1) a b = if a = x ∧ b = y then wSt k M x y else wMx k M x y a b := by
  unfold wMx
  by_cases c : a = x ∧ b = y
  · rw [if_pos c, if_pos (by omega), c.1, c.2]
  · rw [if_neg c]
    by_cases d : a < x ∨ (a = x ∧ b < y)
    · rw [if_pos d, if_pos (by omega)]
    · rw [if_neg d, if_neg (by omega)]
end
/-- the class's cells of ways -/
def cWy (L : Nat) (n : Int) (M : Int → Int → Int) (s : zS) : Prop := ∀ a b, 0 ≤ a → a < n → 0 ≤ b → b < n → s.1 (L + 8) (7 * a + b) = M a b
section
variable {L : Nat} {n : Int} {s s0 : zS} {Q : Int → zS → Prop}
theorem p45_77 {K : Nat → Int → Int → zS → Option (Int × zS)} {M : Int → Int → Int} {k x : Int} (n7 : n ≤ 7) (hM : wLn n M) (k0 : 0 ≤ k) (k1 : k < n) (x0 : 0 ≤ x) (x1 : x < n) (hK : ∀ t, cWy L n (wMx k M (x + 1) 0) t → Fr (fun a _ => a = L + 8) s0 t → Ok (K L k (x + 1) t) Q) : ∀ (m j : Nat) (y : Int) (s : zS), y = n - (j : Int) → 0 ≤ y → j < m → s.1 (L + 1) 0 = n → cWy L n (wMx k M x y) s → Fr (fun a _ => a = L + 8) s0 s → Ok (m45_77 K m L k x y s) Q := by
  intro m
  induction m with
  | zero => intro j y s _ _ h; omega
  | succ m ih =>
    intro j y s hy y0 hj hn hs hf
    rw [m45_77]
    refine k_v ?_
    rw [hn]
    cases j with
    | zero =>
      refine k_q (by omega) (k_z (by omega) (by omega) (hK s (fun a b a0 a1 b0 b1 => ?_) hf))
      rw [hs a b a0 a1 b0 b1]
      unfold wMx
      by_cases c : a < x ∨ (a = x ∧ b < y)
      · rw [if_pos c, if_pos (by omega)]
      · rw [if_neg c, if_neg (by omega)]
    | succ j =>
      have b1 := hM.1 x k x0 x1 k0 k1
      have b2 := hM.1 k y k0 k1 y0 (by omega)
      have b3 := hM.1 x y x0 x1 y0 (by omega)
      refine k_p (by omega) (k_z (by omega) (by omega) (k_z (by omega) (by omega) (k_x (by omega) (by omega) (k_v ?_))))
      rw [show x * 7 + k = 7 * x + k by omega, hs x k x0 x1 k0 k1, wMx_col hM k0 k1]
      refine k_z (by omega) (by omega) (k_z (by omega) (by omega) (k_x (by omega) (by omega) (k_v ?_)))
      rw [show k * 7 + y = 7 * k + y by omega, hs k y k0 k1 y0 (by omega), wMx_row hM k0 k1]
      refine k_z (by omega) (by omega) (k_z (by omega) (by omega) (k_z (by omega) (by omega) (k_x (by omega) (by omega) (k_v ?_))))
      rw [show x * 7 + y = 7 * x + y by omega, hs x y x0 x1 y0 (by omega), wMx_at]
      refine k_e e290 (k_x (by omega) (by omega) (k_v (k_z (by omega) (by omega) ?_)))
      refine ih j (y + 1) _ (by omega) (by omega) (by omega) (by rw [sI_a (by omega)]; exact hn) (fun a b a0 a1 b0 b1 => ?_) (fr_trans hf (fr_I rfl))
      rw [wMx_next]
      by_cases c : a = x ∧ b = y
      · rw [if_pos c, c.1, c.2, sI_e]
        rfl
      · rw [if_neg c, sI_k (by omega)]
        exact hs a b a0 a1 b0 b1
theorem p45_64 {K : Nat → Int → zS → Option (Int × zS)} {M : Int → Int → Int} {k : Int} (n7 : n ≤ 7) (hM : wLn n M) (k0 : 0 ≤ k) (k1 : k < n) (hn0 : s0.1 (L + 1) 0 = n) (hK : ∀ t, cWy L n (wSt k M) t → Fr (fun a _ => a = L + 8) s0 t → Ok (K L (k + 1) t) Q) : ∀ (m j : Nat) (x : Int) (s : zS), x = n - (j : Int) → 0 ≤ x → j < m → cWy L n (wMx k M x 0) s → Fr (fun a _ => a = L + 8) s0 s → Ok (m45_64 K m L k x s) Q := by
  intro m
  induction m with
  | zero => intro j x s _ _ h; omega
  | succ m ih =>
    intro j x s hx x0 hj hs hf
    have hn : s.1 (L + 1) 0 = n := by rw [hf.1 _ _ (by omega)]; exact hn0
    rw [m45_64]
    refine k_v ?_
    rw [hn]
    cases j with
    | zero =>
      refine k_q (by omega) (k_z (by omega) (by omega) (hK s (fun a b a0 a1 b0 b1 => ?_) hf))
      rw [hs a b a0 a1 b0 b1]
      exact if_pos (by omega)
    | succ j =>
      refine k_p (by omega) (p45_77 (s0 := s0) n7 hM k0 k1 x0 (by omega) (fun t t1 t2 => ?_) zFu n.toNat 0 s (by omega) (by omega) (by unfold zFu; omega) hn hs hf)
      exact ih j (x + 1) t (by omega) (by omega) (by omega) t1 t2
theorem p45_51 {M : Int → Int → Int} (n7 : n ≤ 7) (hM : wLn n M) (hn0 : s0.1 (L + 1) 0 = n) (hQ : ∀ t, cWy L n (wFl M n.toNat) t → Fr (fun a _ => a = L + 8) s0 t → Q 0 t) : ∀ (m j i : Nat) (s : zS), (i : Int) = n - (j : Int) → j < m → cWy L n (wFl M i) s → Fr (fun a _ => a = L + 8) s0 s → Ok (m45_51 m L (i : Int) s) Q := by
  intro m
  induction m with
  | zero => intro j i s _ h; omega
  | succ m ih =>
    intro j i s hi hj hs hf
    have hn : s.1 (L + 1) 0 = n := by rw [hf.1 _ _ (by omega)]; exact hn0
    rw [m45_51]
    refine k_v ?_
    rw [hn]
    cases j with
    | zero =>
      refine k_q (by omega) (k_r (hQ s ?_ hf))
      rw [show n.toNat = i by omega]
      exact hs
    | succ j =>
      refine k_p (by omega) (p45_64 (s0 := s0) (M := wFl M i) n7 (wFl_ok hM i (by omega)) (by omega) (by omega) hn0 (fun t t1 t2 => ?_) zFu n.toNat 0 s (by omega) (by omega) (by unfold zFu; omega) (fun a b a0 a1 b0 b1 => ?_) hf)
      · rw [show (i : Int) + 1 = ((i + 1 : Nat) : Int) by omega]
        exact ih j (i + 1) t (by omega) (by omega) t1 t2
      · rw [hs a b a0 a1 b0 b1]
        exact (if_neg (by omega)).symm
/-- the roads, and nothing on the diagonal -/
def wDg (R : Int → Int → Int) : Int → Int → Int := fun a b => if a = b then 0 else R a b
theorem p45_20 {R : Int → Int → Int} (n7 : n ≤ 7) (hM : wLn n (wDg R)) (hn0 : s0.1 (L + 1) 0 = n) (hQ : ∀ t, cWy L n (wFl (wDg R) n.toNat) t → Fr (fun a _ => a = L + 8) s0 t → Q 0 t) : ∀ (m j : Nat) (x : Int) (s : zS), x = n - (j : Int) → 0 ≤ x → j < m → cWy L n (fun a b => if a = b ∧ a < x then 0 else R a b) s → Fr (fun a _ => a = L + 8) s0 s → Ok (m45_20 m L x s) Q := by
  intro m
  induction m with
  | zero => intro j x s _ _ h; omega
  | succ m ih =>
    intro j x s hx x0 hj hs hf
    have hn : s.1 (L + 1) 0 = n := by rw [hf.1 _ _ (by omega)]; exact hn0
    rw [m45_20]
    refine k_v ?_
    rw [hn]
    cases j with
    | zero =>
      refine k_q (by omega) (p45_51 (s0 := s0) (M := wDg R) n7 hM hn0 hQ zFu n.toNat 0 s (by omega) (by unfold zFu; omega) (fun a b a0 a1 b0 b1 => ?_) hf)
      rw [hs a b a0 a1 b0 b1]
      show (if a = b ∧ a < x then 0 else R a b) = if a = b then 0 else R a b
      by_cases c : a = b
      · rw [if_pos c, if_pos ⟨c, by omega⟩]
      · rw [if_neg c, if_neg (fun z : a = b ∧ a < x => c z.1)]
    | succ j =>
      refine k_p (by omega) (k_z (by omega) (by omega) (k_z (by omega) (by omega) (k_x (by omega) (by omega) (k_v (k_z (by omega) (by omega) ?_)))))
      refine ih j (x + 1) _ (by omega) (by omega) (by omega) (fun a b a0 a1 b0 b1 => ?_) (fr_trans hf (fr_I rfl))
      show _ = if a = b ∧ a < x + 1 then 0 else R a b
      by_cases c : a = x ∧ b = x
      · rw [if_pos (by omega), c.1, c.2, show x * 7 + x = 7 * x + x by omega, sI_e]
      · rw [sI_k (by omega), hs a b a0 a1 b0 b1]
        show (if a = b ∧ a < x then 0 else R a b) = _
        by_cases d : a = b ∧ a < x
        · rw [if_pos d, if_pos (by omega)]
        · rw [if_neg d, if_neg (by omega)]
/-- the class's ways -/
theorem p45 {R : Int → Int → Int} (n0 : 0 ≤ n) (n7 : n ≤ 7) (hM : wLn n (wDg R)) (hn : s.1 (L + 1) 0 = n) (hR : ∀ a b, 0 ≤ a → a < n → 0 ≤ b → b < n → s.1 (L + 7) (7 * a + b) = R a b) : Ok (m45 L s) (fun _ t => cWy L n (wFl (wDg R) n.toNat) t ∧ Fr (fun a _ => a = L + 8) s t) := by
  unfold m45
  refine k_z (by omega) (by omega) (k_y (by omega) (by omega) (by omega) (by omega) (by omega) (k_v ?_))
  refine p45_20 (s0 := s) n7 hM hn (fun t t1 t2 => ⟨t1, t2⟩) zFu n.toNat 0 _ (by omega) (by omega) (by unfold zFu; omega) (fun a b a0 a1 b0 b1 => ?_) ⟨fun a k h => sC_a h, rfl, rfl⟩
  rw [sC_i (by omega) (by omega), show (0 : Int) + (7 * a + b - 0) = 7 * a + b by omega, hR a b a0 a1 b0 b1]
  exact (if_neg (by omega)).symm
end
