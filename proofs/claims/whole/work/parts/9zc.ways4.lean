/-! ===== the first steps, in both ===== -/
def wNj (R M : Int → Int → Int) (a b : Int) (j : Nat) (k : Int) : Int := if a = b then -1 else if M a b < 1000 then fnd (fun m => R a m + M m b) (M a b) j k else -1
abbrev wNx (n : Int) (R M : Int → Int → Int) (a b : Int) : Int := wNj R M a b n.toNat 0
section
variable {L : Nat} {n : Int} {R M : Int → Int → Int} {s s0 : zS} {Q : Int → zS → Prop}
theorem wNj_in {a b k : Int} {j : Nat} : wNj R M a b j k = -1 ∨ (k ≤ wNj R M a b j k ∧ wNj R M a b j k < k + (j : Int)) := by
  unfold wNj
  by_cases c : a = b
  · rw [if_pos c]; exact Or.inl rfl
  · rw [if_neg c]
    by_cases d : M a b < 1000
    · rw [if_pos d]
      rcases fnd_in (g := fun m => R a m + M m b) (p := M a b) j k with h | h
      · exact Or.inl h
      · exact Or.inr ⟨h.1, h.2.1⟩
    · rw [if_neg d]; exact Or.inl rfl
theorem e46_29 {a b p : Int} (n7 : n ≤ 7) (a0 : 0 ≤ a) (a1 : a < n) (b0 : 0 ≤ b) (b1 : b < n) (hR : wRd n R) (hM : wLn n M) (hn : s.1 (L + 1) 0 = n) (h7 : ∀ a b, 0 ≤ a → a < n → 0 ≤ b → b < n → s.1 (L + 7) (7 * a + b) = R a b) (h8 : cWy L n M s) : ∀ (m j : Nat) (k : Int), k = n - (j : Int) → 0 ≤ k → j < m → m46_29 m L a b p k s = some (fnd (fun m => R a m + M m b) p j k, s) := by
  intro m
  induction m with
  | zero => intro j k _ _ h; omega
  | succ m ih =>
    intro j k hk k0 hj
    rw [m46_29, oV_eq, hn]
    cases j with
    | zero => rw [if_neg (by omega)]; rfl
    | succ j =>
      have r1 := hR a k a0 a1 k0 (by omega)
      have r2 := hM.1 k b k0 (by omega) b0 b1
      rw [if_pos (by omega), oZ_pos (by omega) (by omega), oZ_pos (by omega) (by omega), oX_pos (by omega) (by omega), oV_eq, oZ_pos (by omega) (by omega), oZ_pos (by omega) (by omega), oX_pos (by omega) (by omega), oV_eq, show a * 7 + k = 7 * a + k by omega, show k * 7 + b = 7 * k + b by omega, h7 a k a0 a1 k0 (by omega), h8 k b k0 (by omega) b0 b1, oZ_pos (by omega) (by omega)]
      show _ = some (if R a k + M k b = p then k else fnd (fun m => R a m + M m b) p j (k + 1), s)
      by_cases c : R a k + M k b = p
      · rw [if_pos c, if_pos c]
      · rw [if_neg c, if_neg c, oZ_pos (by omega) (by omega), ih j (k + 1) (by omega) (by omega) (by omega)]
theorem e46 {a b : Int} (n7 : n ≤ 7) (a0 : 0 ≤ a) (a1 : a < n) (b0 : 0 ≤ b) (b1 : b < n) (hR : wRd n R) (hM : wLn n M) (hn : s.1 (L + 1) 0 = n) (h7 : ∀ a b, 0 ≤ a → a < n → 0 ≤ b → b < n → s.1 (L + 7) (7 * a + b) = R a b) (h8 : cWy L n M s) : m46 L a b s = some (wNx n R M a b, s) := by
  unfold m46
  rw [oZ_pos (by omega) (by omega), oZ_pos (by omega) (by omega), oX_pos (by omega) (by omega), oV_eq, show a * 7 + b = 7 * a + b by omega, h8 a b a0 a1 b0 b1]
  unfold wNx wNj
  by_cases c : a = b
  · rw [if_pos c, if_pos c]
  · rw [if_neg c, if_neg c]
    by_cases d : M a b < 1000
    · rw [if_pos d, if_pos d]
      exact e46_29 n7 a0 a1 b0 b1 hR hM hn h7 h8 zFu n.toNat 0 (by omega) (by omega) (by unfold zFu; omega)
    · rw [if_neg d, if_neg d]
theorem p44_59 {K : Nat → Int → zS → Option (Int × zS)} {x : Int} (n7 : n ≤ 7) (hR : wRd n R) (hM : wLn n M) (hn : s0.1 (L + 1) 0 = n) (h7 : ∀ a b, 0 ≤ a → a < n → 0 ≤ b → b < n → s0.1 (L + 7) (7 * a + b) = R a b) (h8 : cWy L n M s0) (x0 : 0 ≤ x) (x1 : x < n) (hK : ∀ t, (∀ a b, 0 ≤ a → a < x + 1 → 0 ≤ b → b < n → t.1 (L + 9) (7 * a + b) = wNx n R M a b) → Fr (fun a _ => a = L + 9) s0 t → Ok (K L (x + 1) t) Q) : ∀ (m j : Nat) (y : Int) (s : zS), y = n - (j : Int) → 0 ≤ y → j < m → (∀ a b, 0 ≤ a → a < n → 0 ≤ b → b < n → a < x ∨ (a = x ∧ b < y) → s.1 (L + 9) (7 * a + b) = wNx n R M a b) → Fr (fun a _ => a = L + 9) s0 s → Ok (m44_59 K m L x y s) Q := by
  intro m
  induction m with
  | zero => intro j y s _ _ h; omega
  | succ m ih =>
    intro j y s hy y0 hj hs hf
    rw [m44_59]
    refine k_v ?_
    rw [hf.1 (L + 1) 0 (by omega), hn]
    cases j with
    | zero => exact k_q (by omega) (k_z (by omega) (by omega) (hK s (fun a b a0 a1 b0 b1 => hs a b a0 (by omega) b0 b1 (by omega)) hf))
    | succ j =>
      have e := e46 (s := s) (R := R) (M := M) n7 x0 x1 y0 (show y < n by omega) hR hM (by rw [hf.1 (L + 1) 0 (by omega)]; exact hn) (fun a b a0 a1 b0 b1 => by rw [hf.1 _ _ (by omega)]; exact h7 a b a0 a1 b0 b1) (fun a b a0 a1 b0 b1 => by rw [hf.1 _ _ (by omega)]; exact h8 a b a0 a1 b0 b1)
      refine k_p (by omega) (k_z (by omega) (by omega) (k_z (by omega) (by omega) (k_e e (k_x (by omega) (by omega) (k_v (k_z (by omega) (by omega) ?_))))))
      refine ih j (y + 1) _ (by omega) (by omega) (by omega) (fun a b a0 a1 b0 b1 hab => ?_) (fr_trans hf (fr_I rfl))
      rw [show x * 7 + y = 7 * x + y by omega]
      by_cases c : a = x ∧ b = y
      · rw [c.1, c.2, sI_e]
      · rw [sI_k (by omega)]
        exact hs a b a0 a1 b0 b1 (by omega)
theorem p44_46 (n7 : n ≤ 7) (hR : wRd n R) (hM : wLn n M) (hn : s0.1 (L + 1) 0 = n) (h7 : ∀ a b, 0 ≤ a → a < n → 0 ≤ b → b < n → s0.1 (L + 7) (7 * a + b) = R a b) (h8 : cWy L n M s0) : ∀ (m j : Nat) (x : Int) (s : zS), x = n - (j : Int) → 0 ≤ x → j < m → (∀ a b, 0 ≤ a → a < x → 0 ≤ b → b < n → s.1 (L + 9) (7 * a + b) = wNx n R M a b) → Fr (fun a _ => a = L + 9) s0 s → Ok (m44_46 m L x s) (fun _ t => (∀ a b, 0 ≤ a → a < n → 0 ≤ b → b < n → t.1 (L + 9) (7 * a + b) = wNx n R M a b) ∧ Fr (fun a _ => a = L + 9) s0 t) := by
  intro m
  induction m with
  | zero => intro j x s _ _ h; omega
  | succ m ih =>
    intro j x s hx x0 hj hs hf
    rw [m44_46]
    refine k_v ?_
    rw [hf.1 (L + 1) 0 (by omega), hn]
    cases j with
    | zero => exact k_q (by omega) (k_r ⟨fun a b a0 a1 b0 b1 => hs a b a0 (by omega) b0 b1, hf⟩)
    | succ j =>
      refine k_p (by omega) (p44_59 (s0 := s0) n7 hR hM hn h7 h8 x0 (by omega) (fun t t1 t2 => ?_) zFu n.toNat 0 s (by omega) (by omega) (by unfold zFu; omega) (fun a b a0 a1 b0 b1 hab => hs a b a0 (by omega) b0 b1) hf)
      exact ih j (x + 1) t (by omega) (by omega) (by omega) (fun a b a0 a1 b0 b1 => t1 a b a0 a1 b0 b1) t2
/-- the reference's, downward -/
theorem p180_237 {K : Int → Int → Int → zS → Option (Int × zS)} {x y : Int} (n7 : n ≤ 7) (hR : wRd n R) (hM : wLn n M) (x0 : 0 ≤ x) (x1 : x < n) (y0 : 0 ≤ y) (y1 : y < n) (h4 : ∀ a b, 0 ≤ a → a < n → 0 ≤ b → b < n → R a b = if 0 < s0.1 244 (49 + 7 * a + b) then s0.1 244 (49 + 7 * a + b) else 1000) (h5 : rWy n M s0) (hK : ∀ t, t.1 253 (7 * x + y) = wNx n R M x y → Fr (fun a k => a = 253 ∧ k = 7 * x + y) s0 t → Ok (K n x (y + 1) t) Q) : ∀ (m i : Nat) (s : zS), (i : Int) ≤ n → i < m → s.1 253 (7 * x + y) = wNj R M x y (n - (i : Int)).toNat (i : Int) → Fr (fun a k => a = 253 ∧ k = 7 * x + y) s0 s → Ok (m180_237 K m n x y ((i : Int) - 1) s) Q := by
  intro m
  induction m with
  | zero => intro i s _ h; omega
  | succ m ih =>
    intro i s hi hm hs hf
    rw [m180_237]
    cases i with
    | zero =>
      refine k_p (by omega) (k_z (by omega) (by omega) (hK s ?_ hf))
      rw [hs]
      show wNj R M x y (n - ((0 : Nat) : Int)).toNat ((0 : Nat) : Int) = wNj R M x y n.toNat 0
      rw [show n - ((0 : Nat) : Int) = n by omega]
      rfl
    | succ i =>
      have i7 : ((i + 1 : Nat) : Int) - 1 = (i : Int) := by omega
      rw [i7]
      have r1 := hR x i x0 x1 (by omega) (by omega)
      have r2 := hM.1 i y (by omega) (by omega) y0 y1
      have r3 := hM.1 x y x0 x1 y0 y1
      have w1 : s.1 252 (7 * (i : Int) + y) = wNo (M i y) := by rw [hf.1 _ _ (by omega)]; exact h5 i y (by omega) (by omega) y0 y1
      have w2 : s.1 252 (7 * x + y) = wNo (M x y) := by rw [hf.1 _ _ (by omega)]; exact h5 x y x0 x1 y0 y1
      have w4 : s.1 244 (49 + 7 * x + (i : Int)) = s0.1 244 (49 + 7 * x + (i : Int)) := hf.1 _ _ (by omega)
      have r4 := h4 x i x0 x1 (by omega) (by omega)
      have fs : fnd (fun m => R x m + M m y) (M x y) (n - (i : Int)).toNat (i : Int) = if R x i + M i y = M x y then (i : Int) else fnd (fun m => R x m + M m y) (M x y) (n - ((i + 1 : Nat) : Int)).toNat ((i + 1 : Nat) : Int) := by
        rw [show (n - (i : Int)).toNat = (n - ((i + 1 : Nat) : Int)).toNat + 1 by omega]
        rfl
      have stay : wNj R M x y (n - (i : Int)).toNat (i : Int) = wNj R M x y (n - ((i + 1 : Nat) : Int)).toNat ((i + 1 : Nat) : Int) → Ok (m180_237 K m n x y ((i : Int) + -1) s) Q := fun he => by
        rw [show (i : Int) + -1 = (i : Int) - 1 by omega]
        exact ih i s (by omega) (by omega) (by rw [he]; exact hs) hf
      refine k_q (by omega) (k_z (by omega) (by omega) (k_z (by omega) (by omega) (k_z (by omega) (by omega) (k_x (by omega) (by omega) (k_v (k_z (by omega) (by omega) (k_z (by omega) (by omega) (k_x (by omega) (by omega) (k_v ?_)))))))))
      rw [w1, w4]
      by_cases c : x = y
      · refine k_p c (k_z (by omega) (by omega) (stay ?_))
        unfold wNj
        rw [if_pos c, if_pos c]
      refine k_q c ?_
      have nj : ∀ j k, wNj R M x y j k = if M x y < 1000 then fnd (fun m => R x m + M m y) (M x y) j k else -1 := fun j k => if_neg c
      have miss : ¬ (M x y < 1000 ∧ R x i + M i y = M x y) → wNj R M x y (n - (i : Int)).toNat (i : Int) = wNj R M x y (n - ((i + 1 : Nat) : Int)).toNat ((i + 1 : Nat) : Int) := fun h => by
        rw [nj, nj]
        by_cases d : M x y < 1000
        · rw [if_pos d, if_pos d, fs, if_neg (fun z => h ⟨d, z⟩)]
        · rw [if_neg d, if_neg d]
      by_cases d1 : 0 < s0.1 244 (49 + 7 * x + (i : Int))
      · rw [if_pos d1] at r4
        refine k_p d1 ?_
        by_cases d2 : M i y < 1000
        · rw [show wNo (M i y) = M i y from if_pos d2]
          refine k_q (by omega) (k_z (by omega) (by omega) (k_z (by omega) (by omega) (k_z (by omega) (by omega) (k_x (by omega) (by omega) (k_v ?_)))))
          rw [w2, ← r4]
          by_cases d3 : M x y < 1000
          · rw [show wNo (M x y) = M x y from if_pos d3]
            by_cases d4 : R x i + M i y = M x y
            · refine k_p d4 (k_z (by omega) (by omega) (k_z (by omega) (by omega) (k_x (by omega) (by omega) (k_v (k_z (by omega) (by omega) ?_)))))
              rw [show (i : Int) + -1 = (i : Int) - 1 by omega]
              refine ih i _ (by omega) (by omega) ?_ (fr_trans hf (fr_I ⟨rfl, rfl⟩))
              rw [sI_e, nj, if_pos d3, fs, if_pos d4]
            · exact k_q d4 (k_z (by omega) (by omega) (stay (miss (fun z => d4 z.2))))
          · rw [show wNo (M x y) = -1 from if_neg d3]
            exact k_q (by omega) (k_z (by omega) (by omega) (stay (miss (fun z => d3 z.1))))
        · rw [show wNo (M i y) = -1 from if_neg d2]
          exact k_p rfl (k_z (by omega) (by omega) (stay (miss (fun z => by omega))))
      · rw [if_neg d1] at r4
        exact k_q d1 (k_z (by omega) (by omega) (stay (miss (fun z => by omega))))
end
