/-! ===== the shortest ways: bounds, and the reference's ===== -/
section
variable {n : Int} {R M : Int → Int → Int}
/-- roads: of 1 to 9, or none -/
def wRd (n : Int) (R : Int → Int → Int) : Prop := ∀ a b, 0 ≤ a → a < n → 0 ≤ b → b < n → (1 ≤ R a b ∧ R a b ≤ 9) ∨ R a b = 1000
theorem wDg_ln (h : wRd n R) : wLn n (wDg R) := by
  refine ⟨fun a b a0 a1 b0 b1 => ?_, fun a _ _ => if_pos rfl⟩
  have := h a b a0 a1 b0 b1
  unfold wDg
  by_cases c : a = b
  · rw [if_pos c]; omega
  · rw [if_neg c]; omega
def wBd (n B : Int) (M : Int → Int → Int) : Prop := ∀ a b, 0 ≤ a → a < n → 0 ≤ b → b < n → M a b < 1000 → M a b ≤ B
theorem wBd_0 (h : wRd n R) : wBd n 9 (wDg R) := by
  intro a b a0 a1 b0 b1 hf
  have := h a b a0 a1 b0 b1
  unfold wDg at hf ⊢
  by_cases c : a = b
  · rw [if_pos c]; omega
  · rw [if_neg c] at hf ⊢; omega
theorem wBd_s {B k : Int} (hM : wLn n M) (k0 : 0 ≤ k) (k1 : k < n) (B0 : 0 ≤ B) (h : wBd n B M) : wBd n (2 * B) (wSt k M) := by
  intro a b a0 a1 b0 b1 hf
  have h1 := hM.1 a b a0 a1 b0 b1
  have h2 := hM.1 a k a0 a1 k0 k1
  have h3 := hM.1 k b k0 k1 b0 b1
  have g1 := h a b a0 a1 b0 b1
  have g2 := h a k a0 a1 k0 k1
  have g3 := h k b k0 k1 b0 b1
  unfold wSt at hf ⊢
  by_cases c : M a k + M k b < M a b
  · rw [if_pos c] at hf ⊢
    have := g2 (by omega)
    have := g3 (by omega)
    omega
  · rw [if_neg c] at hf ⊢
    have := g1 (by omega)
    omega
/-- the first two stages -/
theorem wBd_2 (hM : wLn n M) (n2 : 1 < n) (h : wBd n 9 M) : wBd n 27 (wSt 1 (wSt 0 M)) := by
  intro a b a0 a1 b0 b1 hf
  have hM1 := wSt_ok (k := 0) hM (by omega) (by omega)
  have h18 := wBd_s (k := 0) hM (by omega) (by omega) (by omega) h
  have q1 := hM1.1 a b a0 a1 b0 b1
  have q2 := hM1.1 a 1 a0 a1 (by omega) n2
  have q3 := hM1.1 1 b (by omega) n2 b0 b1
  have p1 := h18 a b a0 a1 b0 b1
  have p2 := h18 a 1 a0 a1 (by omega) n2
  have p3 := h18 1 b (by omega) n2 b0 b1
  have e : wSt 1 (wSt 0 M) a b = if wSt 0 M a 1 + wSt 0 M 1 b < wSt 0 M a b then wSt 0 M a 1 + wSt 0 M 1 b else wSt 0 M a b := rfl
  rw [e] at hf ⊢
  by_cases c : wSt 0 M a 1 + wSt 0 M 1 b < wSt 0 M a b
  · rw [if_pos c] at hf ⊢
    have p2 := p2 (by omega)
    have p3 := p3 (by omega)
    have e1 : wSt 0 M a 1 = if M a 0 + M 0 1 < M a 1 then M a 0 + M 0 1 else M a 1 := rfl
    have e2 : wSt 0 M 1 b = if M 1 0 + M 0 b < M 1 b then M 1 0 + M 0 b else M 1 b := rfl
    have e3 : wSt 0 M a b = if M a 0 + M 0 b < M a b then M a 0 + M 0 b else M a b := rfl
    have le3 : wSt 0 M a b ≤ M a 0 + M 0 b := by
      rw [e3]
      by_cases d : M a 0 + M 0 b < M a b
      · rw [if_pos d]; omega
      · rw [if_neg d]; omega
    by_cases d1 : M a 0 + M 0 1 < M a 1
    · by_cases d2 : M 1 0 + M 0 b < M 1 b
      · rw [if_pos d1] at e1
        rw [if_pos d2] at e2
        have r1 := hM.1 0 1 (by omega) (by omega) (by omega) n2
        have r2 := hM.1 1 0 (by omega) n2 (by omega) (by omega)
        omega
      · rw [if_neg d2] at e2
        have := h 1 b (by omega) n2 b0 b1 (by omega)
        omega
    · rw [if_neg d1] at e1
      have := h a 1 a0 a1 (by omega) n2 (by omega)
      omega
  · rw [if_neg c] at hf ⊢
    have := p1 (by omega)
    omega
theorem wBd_fl (hR : wRd n R) (n7 : n ≤ 7) : ∀ j : Nat, (j : Int) ≤ n → wBd n (27 * 2 ^ (j - 2)) (wFl (wDg R) j) := by
  have h0 := wDg_ln hR
  intro j
  induction j with
  | zero => intro _ a b a0 a1 b0 b1 hf; have := wBd_0 hR a b a0 a1 b0 b1 hf; exact Int.le_trans this (by decide)
  | succ j ih =>
    intro hj
    have hl := wFl_ok h0 j (by omega)
    by_cases c0 : j = 0
    · subst c0
      intro a b a0 a1 b0 b1 hf
      have := wBd_s (k := 0) h0 (by omega) (by omega) (by omega) (wBd_0 hR) a b a0 a1 b0 b1 hf
      exact Int.le_trans this (by decide)
    by_cases c1 : j = 1
    · subst c1
      exact wBd_2 h0 (by omega) (wBd_0 hR)
    · have := wBd_s (k := (j : Int)) hl (by omega) (by omega) (Int.mul_nonneg (by omega) (Int.pow_nonneg (by omega))) (ih (by omega))
      rw [show j + 1 - 2 = (j - 2) + 1 by omega, Int.pow_succ, show (27 : Int) * (2 ^ (j - 2) * 2) = 2 * (27 * 2 ^ (j - 2)) by generalize (2 : Int) ^ (j - 2) = X; omega]
      exact this
/-- before a stage a finite way is of at most 432 -/
theorem wBd_432 (hR : wRd n R) (n7 : n ≤ 7) {j : Nat} (hj : (j : Int) < n) : wBd n 432 (wFl (wDg R) j) := by
  intro a b a0 a1 b0 b1 hf
  have := wBd_fl hR n7 j (by omega) a b a0 a1 b0 b1 hf
  refine Int.le_trans this ?_
  have : j < 7 := by omega
  revert this
  clear hj hf this
  revert j
  decide
end
/-- the reference's: -1 for none -/
abbrev wNo (v : Int) : Int := if v < 1000 then v else -1
def rWy (n : Int) (M : Int → Int → Int) (s : zS) : Prop := ∀ a b, 0 ≤ a → a < n → 0 ≤ b → b < n → s.1 252 (7 * a + b) = wNo (M a b)
section
variable {n : Int} {s s0 : zS} {Q : Int → zS → Prop}
theorem p180_99 {K : Int → Int → Int → zS → Option (Int × zS)} {M : Int → Int → Int} {k x : Int} (n7 : n ≤ 7) (hM : wLn n M) (hB : wBd n 432 M) (k0 : 0 ≤ k) (k1 : k < n) (x0 : 0 ≤ x) (x1 : x < n) (hK : ∀ t, rWy n (wMx k M (x + 1) 0) t → Fr (fun a _ => a = 252) s0 t → Ok (K n k (x + 1) t) Q) : ∀ (m j : Nat) (y : Int) (s : zS), y = n - (j : Int) → 0 ≤ y → j < m → rWy n (wMx k M x y) s → Fr (fun a _ => a = 252) s0 s → Ok (m180_99 K m n k x y s) Q := by
  intro m
  induction m with
  | zero => intro j y s _ _ h; omega
  | succ m ih =>
    intro j y s hy y0 hj hs hf
    rw [m180_99]
    cases j with
    | zero =>
      refine k_q (by omega) (k_z (by omega) (by omega) (hK s (fun a b a0 a1 b0 b1 => ?_) hf))
      rw [hs a b a0 a1 b0 b1]
      unfold wMx
      by_cases c : a < x ∨ (a = x ∧ b < y)
      · rw [if_pos c, if_pos (by omega)]
      · rw [if_neg c, if_neg (by omega)]
    | succ j =>
      have b1 := hM.1 x k x0 x1 k0 k1
      have b2 := hM.1 k y k0 k1 y0 (by omega)
      have b3 := hM.1 x y x0 x1 y0 (by omega)
      have g1 := hB x k x0 x1 k0 k1
      have g2 := hB k y k0 k1 y0 (by omega)
      have stay : wSt k M x y = M x y → Ok (m180_99 K m n k x (y + 1) s) Q := fun he => by
        refine ih j (y + 1) _ (by omega) (by omega) (by omega) (fun a b a0 a1 b0 b1 => ?_) hf
        rw [wMx_next, hs a b a0 a1 b0 b1]
        by_cases c : a = x ∧ b = y
        · rw [if_pos c, c.1, c.2, wMx_at, he]
        · rw [if_neg c]
      have put : ∀ v, wSt k M x y = v → v < 1000 → Ok (m180_99 K m n k x (y + 1) (sI s 252 (7 * x + y) v)) Q := fun v he hv => by
        refine ih j (y + 1) _ (by omega) (by omega) (by omega) (fun a b a0 a1 b0 b1 => ?_) (fr_trans hf (fr_I rfl))
        rw [wMx_next]
        by_cases c : a = x ∧ b = y
        · rw [if_pos c, c.1, c.2, sI_e, he]
          exact (if_pos hv).symm
        · rw [if_neg c, sI_k (by omega)]
          exact hs a b a0 a1 b0 b1
      have e0 : wSt k M x y = if M x k + M k y < M x y then M x k + M k y else M x y := rfl
      have s1 := hs x k x0 x1 k0 k1
      have s2 := hs k y k0 k1 y0 (by omega)
      have s3 := hs x y x0 x1 y0 (by omega)
      rw [wMx_col hM k0 k1] at s1
      rw [wMx_row hM k0 k1] at s2
      rw [wMx_at] at s3
      refine k_p (by omega) (k_z (by omega) (by omega) (k_z (by omega) (by omega) (k_x (by omega) (by omega) (k_v (k_z (by omega) (by omega) (k_z (by omega) (by omega) (k_x (by omega) (by omega) (k_v ?_))))))))
      rw [s1, s2]
      by_cases c1 : M x k < 1000
      · rw [show wNo (M x k) = M x k from if_pos c1]
        refine k_q (by omega) ?_
        by_cases c2 : M k y < 1000
        · rw [show wNo (M k y) = M k y from if_pos c2]
          have g1 := g1 c1
          have g2 := g2 c2
          refine k_q (by omega) (k_z (by omega) (by omega) (k_z (by omega) (by omega) (k_x (by omega) (by omega) (k_v ?_))))
          rw [s3]
          by_cases c3 : M x y < 1000
          · rw [show wNo (M x y) = M x y from if_pos c3]
            refine k_q (by omega) (k_z (by omega) (by omega) (k_z (by omega) (by omega) (k_z (by omega) (by omega) (k_x (by omega) (by omega) (k_v ?_)))))
            rw [s3, show wNo (M x y) = M x y from if_pos c3]
            by_cases c4 : M x k + M k y < M x y
            · refine k_p c4 ?_
              unfold m180_183
              exact k_z (by omega) (by omega) (k_z (by omega) (by omega) (k_z (by omega) (by omega) (k_x (by omega) (by omega) (k_v (k_z (by omega) (by omega) (put _ (by rw [e0, if_pos c4]) (by omega)))))))
            · exact k_q c4 (k_z (by omega) (by omega) (stay (by rw [e0, if_neg c4])))
          · rw [show wNo (M x y) = -1 from if_neg c3]
            refine k_p rfl ?_
            unfold m180_183
            exact k_z (by omega) (by omega) (k_z (by omega) (by omega) (k_z (by omega) (by omega) (k_x (by omega) (by omega) (k_v (k_z (by omega) (by omega) (put _ (by rw [e0, if_pos (by omega)]) (by omega)))))))
        · rw [show wNo (M k y) = -1 from if_neg c2]
          exact k_p rfl (k_z (by omega) (by omega) (stay (by rw [e0, if_neg (by omega)])))
      · rw [show wNo (M x k) = -1 from if_neg c1]
        exact k_p rfl (k_z (by omega) (by omega) (stay (by rw [e0, if_neg (by omega)])))
end
