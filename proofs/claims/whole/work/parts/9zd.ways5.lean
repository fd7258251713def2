/-! ===== the reference lays the ways ===== -/
section
variable {L : Nat} {n : Int} {R M : Int → Int → Int} {s s0 : zS} {Q : Int → zS → Prop}
/-- steps known before (x, y) -/
def wNi (n : Int) (R M : Int → Int → Int) (x y : Int) (s : zS) : Prop := ∀ a b, 0 ≤ a → a < n → 0 ≤ b → b < n → s.1 253 (7 * a + b) = if a < x ∨ (a = x ∧ b < y) then wNx n R M a b else -1
theorem p180_227 {K : Int → Int → zS → Option (Int × zS)} {x : Int} (n7 : n ≤ 7) (hR : wRd n R) (hM : wLn n M) (x0 : 0 ≤ x) (x1 : x < n) (h4 : ∀ a b, 0 ≤ a → a < n → 0 ≤ b → b < n → R a b = if 0 < s0.1 244 (49 + 7 * a + b) then s0.1 244 (49 + 7 * a + b) else 1000) (h5 : rWy n M s0) (hK : ∀ t, wNi n R M (x + 1) 0 t → Fr (fun a _ => a = 253) s0 t → Ok (K n (x + 1) t) Q) : ∀ (m j : Nat) (y : Int) (s : zS), y = n - (j : Int) → 0 ≤ y → j < m → wNi n R M x y s → Fr (fun a _ => a = 253) s0 s → Ok (m180_227 K m n x y s) Q := by
  intro m
  induction m with
  | zero => intro j y s _ _ h; omega
  | succ m ih =>
    intro j y s hy y0 hj hs hf
    rw [m180_227]
    cases j with
    | zero =>
      refine k_q (by omega) (k_z (by omega) (by omega) (hK s (fun a b a0 a1 b0 b1 => ?_) hf))
      rw [hs a b a0 a1 b0 b1]
      by_cases c : a < x ∨ (a = x ∧ b < y)
      · rw [if_pos c, if_pos (show a < x + 1 ∨ (a = x + 1 ∧ b < 0) by omega)]
      · rw [if_neg c, if_neg (show ¬ (a < x + 1 ∨ (a = x + 1 ∧ b < 0)) by omega)]
    | succ j =>
      refine k_p (by omega) (k_z (by omega) (by omega) ?_)
      have en : n - 1 = ((n.toNat : Nat) : Int) - 1 := by omega
      rw [en]
      refine p180_237 (s0 := s) (R := R) (M := M) (K := m180_227 K m) (Q := Q) (x := x) (y := y) n7 hR hM x0 x1 y0 (by omega) (fun a b a0 a1 b0 b1 => by rw [hf.1 244 _ (by omega)]; exact h4 a b a0 a1 b0 b1) (fun a b a0 a1 b0 b1 => by rw [hf.1 252 _ (by omega)]; exact h5 a b a0 a1 b0 b1) (fun t t1 t2 => ?_) zFu n.toNat s (by omega) (by unfold zFu; omega) ?_ ⟨fun a k _ => rfl, rfl, rfl⟩
      · refine ih j (y + 1) t (by omega) (by omega) (by omega) (fun a b a0 a1 b0 b1 => ?_) (fr_trans hf (fr_mono (fun a k z => z.1) t2))
        by_cases c : a = x ∧ b = y
        · rw [c.1, c.2, t1, if_pos (show x < x ∨ (x = x ∧ y < y + 1) by omega)]
        · rw [t2.1 _ _ (by omega), hs a b a0 a1 b0 b1]
          by_cases d : a < x ∨ (a = x ∧ b < y)
          · rw [if_pos d, if_pos (show a < x ∨ (a = x ∧ b < y + 1) by omega)]
          · rw [if_neg d, if_neg (show ¬ (a < x ∨ (a = x ∧ b < y + 1)) by omega)]
      · rw [hs x y x0 x1 y0 (by omega), if_neg (show ¬ (x < x ∨ (x = x ∧ y < y)) by omega), show (n - (n.toNat : Int)).toNat = 0 by omega]
        unfold wNj
        by_cases c : x = y
        · rw [if_pos c]
        · rw [if_neg c]
          by_cases d : M x y < 1000
          · rw [if_pos d]; rfl
          · rw [if_neg d]
theorem p180_220 (n7 : n ≤ 7) (hR : wRd n R) (hM : wLn n M) (h4 : ∀ a b, 0 ≤ a → a < n → 0 ≤ b → b < n → R a b = if 0 < s0.1 244 (49 + 7 * a + b) then s0.1 244 (49 + 7 * a + b) else 1000) (h5 : rWy n M s0) : ∀ (m j : Nat) (x : Int) (s : zS), x = n - (j : Int) → 0 ≤ x → j < m → wNi n R M x 0 s → Fr (fun a _ => a = 253) s0 s → Ok (m180_220 m n x s) (fun _ t => (∀ a b, 0 ≤ a → a < n → 0 ≤ b → b < n → t.1 253 (7 * a + b) = wNx n R M a b) ∧ Fr (fun a _ => a = 253) s0 t) := by
  intro m
  induction m with
  | zero => intro j x s _ _ h; omega
  | succ m ih =>
    intro j x s hx x0 hj hs hf
    rw [m180_220]
    cases j with
    | zero => exact k_q (by omega) (k_r ⟨fun a b a0 a1 b0 b1 => by rw [hs a b a0 a1 b0 b1, if_pos (show a < x ∨ (a = x ∧ b < 0) by omega)], hf⟩)
    | succ j =>
      refine k_p (by omega) (p180_227 (s0 := s0) n7 hR hM x0 (by omega) h4 h5 (fun t t1 t2 => ?_) zFu n.toNat 0 s (by omega) (by omega) (by unfold zFu; omega) hs hf)
      exact ih j (x + 1) t (by omega) (by omega) (by omega) t1 t2
/-- all the ways of the reference -/
theorem p180 (n0 : 0 ≤ n) (n7 : n ≤ 7) (hn : s.1 242 4 = n) (h9 : ∀ a b, 0 ≤ a → a < n → 0 ≤ b → b < n → s.1 244 (49 + 7 * a + b) ≤ 9) (h4 : ∀ a b, 0 ≤ a → a < n → 0 ≤ b → b < n → R a b = if 0 < s.1 244 (49 + 7 * a + b) then s.1 244 (49 + 7 * a + b) else 1000) : Ok (m180 s) (fun _ t => rWy n (wFl (wDg R) n.toNat) t ∧ (∀ a b, 0 ≤ a → a < n → 0 ≤ b → b < n → t.1 253 (7 * a + b) = wNx n R (wFl (wDg R) n.toNat) a b) ∧ Fr (fun a _ => a = 252 ∨ a = 253) s t) := by
  have hR : wRd n R := fun a b a0 a1 b0 b1 => by
    have h1 := h9 a b a0 a1 b0 b1
    rw [h4 a b a0 a1 b0 b1]
    by_cases c : 0 < s.1 244 (49 + 7 * a + b)
    · rw [if_pos c]; omega
    · rw [if_neg c]; omega
  have sel : ∀ a b, 0 ≤ a → a < n → 0 ≤ b → b < n → (if 0 < s.1 244 (49 + (7 * a + b)) then s.1 244 (49 + (7 * a + b)) else -1) = wNo (R a b) := fun a b a0 a1 b0 b1 => by
    have h1 := h9 a b a0 a1 b0 b1
    rw [h4 a b a0 a1 b0 b1, show 49 + (7 * a + b) = 49 + 7 * a + b by omega]
    generalize s.1 244 (49 + 7 * a + b) = v at h1 ⊢
    by_cases c : 0 < v
    · rw [if_pos c, if_pos c]
      exact (if_pos (by omega)).symm
    · rw [if_neg c, if_neg c]
      exact (if_neg (by decide)).symm
  unfold m180 m181
  refine k_c (Q := fun r t => r = n ∧ t = s) (k_x (by omega) (by omega) (k_v (k_r ⟨hn, rfl⟩))) ?_
  intro r0 t0 hq
  rw [hq.1, hq.2]
  refine p180_7 (s0 := s) (x1 := n) (fun t t1 t2 => ?_) zFu 49 0 s (by omega) (by omega) (by unfold zFu; omega) (fun i i0 i1 => by omega) ⟨fun a k _ => rfl, rfl, rfl⟩
  refine p180_59 (s0 := t) (R := R) n7 hR (fun u u1 u2 => ?_) zFu n.toNat 0 t (by omega) (by omega) (by unfold zFu; omega) (fun a b a0 a1 b0 b1 => ?_) ⟨fun a k _ => rfl, rfl, rfl⟩
  · have hM := wFl_ok (wDg_ln hR) n.toNat (by omega)
    have fu : Fr (fun a _ => a = 252 ∨ a = 253) s u := fr_trans t2 (fr_mono (fun a k z => Or.inl z) u2)
    have u3 : wNi n R (wFl (wDg R) n.toNat) 0 0 u := fun a b a0 a1 b0 b1 => by
      rw [if_neg (show ¬ (a < 0 ∨ (a = 0 ∧ b < 0)) by omega), u2.1 253 _ (by omega)]
      exact (t1 (7 * a + b) (by omega) (by omega)).2
    have h4u : ∀ a b, 0 ≤ a → a < n → 0 ≤ b → b < n → R a b = if 0 < u.1 244 (49 + 7 * a + b) then u.1 244 (49 + 7 * a + b) else 1000 := fun a b a0 a1 b0 b1 => by
      rw [fu.1 244 _ (by omega)]
      exact h4 a b a0 a1 b0 b1
    have hp := p180_220 (s0 := u) n7 hR hM h4u u1 zFu n.toNat 0 u (by omega) (by omega) (by unfold zFu; omega) u3 ⟨fun a k _ => rfl, rfl, rfl⟩
    refine k_m hp ?_
    rintro _ v ⟨v1, v2⟩
    exact ⟨fun a b a0 a1 b0 b1 => by rw [v2.1 252 _ (by omega)]; exact u1 a b a0 a1 b0 b1, v1, fr_trans fu (fr_mono (fun a k z => Or.inr z) v2)⟩
  · show t.1 252 (7 * a + b) = wNo (if a = b ∧ a < 0 then 0 else R a b)
    rw [if_neg (show ¬ (a = b ∧ a < 0) by omega), (t1 (7 * a + b) (by omega) (by omega)).1]
    exact sel a b a0 a1 b0 b1
end
