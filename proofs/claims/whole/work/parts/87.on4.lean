/-! ===== on: the reference writes its row ===== -/
abbrev rF (a : Nat) (k : Int) : Prop := a = 254 ∨ (a = 209 ∧ k = 74)
/-- a row that an image tells -/
def onN (b : Int → Int) (nS nW : Int) (N : Int → Int) : Prop := N 0 = 256 * b 0 + b 1 ∧ N 1 = b 2 ∧ (∀ p, 0 ≤ p → p < nS → N (2 + p) = b (3 + p)) ∧ (∀ w, 0 ≤ w → w < nW → N (10 + 3 * w) = b (3 + nS + 4 * w) ∧ N (11 + 3 * w) = b (3 + nS + 4 * w + 1) ∧ N (12 + 3 * w) = 256 * b (3 + nS + 4 * w + 2) + b (3 + nS + 4 * w + 3)) ∧ N 28 = nS - nW ∧ ∀ k, 0 ≤ k → k < nS - nW → N (29 + k) = b (3 + nS + 4 * nW + k)
section
variable {s0 : zS} {nS nW : Int}
theorem p284_216 (hS : s0.1 242 5 = nS) (hW : s0.1 242 6 = nW) (hw0 : 0 ≤ nW) (hw6 : nW ≤ 6) (hws : nW ≤ nS) (hs8 : nS ≤ 8) : ∀ (n j : Nat) (x : Int) (u : zS), x = nS - (j : Int) → nW ≤ x → j < n → Fr rF s0 u → u.1 254 0 = 256 * s0.1 210 0 + s0.1 210 1 → u.1 254 1 = s0.1 210 2 → (∀ p, 0 ≤ p → p < nS → u.1 254 (2 + p) = s0.1 210 (3 + p)) → (∀ w, 0 ≤ w → w < nW → u.1 254 (10 + 3 * w) = s0.1 210 (3 + nS + 4 * w) ∧ u.1 254 (11 + 3 * w) = s0.1 210 (3 + nS + 4 * w + 1) ∧ u.1 254 (12 + 3 * w) = 256 * s0.1 210 (3 + nS + 4 * w + 2) + s0.1 210 (3 + nS + 4 * w + 3)) → u.1 254 28 = x - nW → (∀ k, 0 ≤ k → k < x - nW → u.1 254 (29 + k) = s0.1 210 (3 + nS + 4 * nW + k)) → Ok (m284_216 n x u) (fun r t => r = 1 ∧ Fr rF s0 t ∧ t.1 209 74 = 0 ∧ onN (fun i => s0.1 210 i) nS nW (fun i => t.1 254 i)) := by
  intro n
  induction n with
  | zero => intro j x u _ _ h; omega
  | succ n ih =>
    intro j x u hx x0 hj hu g0 g1 g2 g3 g4 g5
    rw [m284_216]
    refine k_e e182 ?_
    rw [hu.1 242 5 (by omega), hS]
    cases j with
    | zero =>
      refine k_q (by omega) (k_v (k_r ⟨rfl, fr_trans hu (fr_I (Or.inr ⟨rfl, rfl⟩)), sI_e, ?_⟩))
      refine ⟨?_, ?_, fun p p0 p1 => ?_, fun w w0 w1 => ?_, ?_, fun k k0 k1 => ?_⟩
      · show (sI u 209 74 0).1 254 0 = _; rw [sI_a (by omega)]; exact g0
      · show (sI u 209 74 0).1 254 1 = _; rw [sI_a (by omega)]; exact g1
      · show (sI u 209 74 0).1 254 (2 + p) = _; rw [sI_a (by omega)]; exact g2 p p0 p1
      · show (sI u 209 74 0).1 254 (10 + 3 * w) = _ ∧ (sI u 209 74 0).1 254 (11 + 3 * w) = _ ∧ (sI u 209 74 0).1 254 (12 + 3 * w) = _; rw [sI_a (by omega), sI_a (by omega), sI_a (by omega)]; exact g3 w w0 w1
      · show (sI u 209 74 0).1 254 28 = _; rw [sI_a (by omega), g4]; omega
      · show (sI u 209 74 0).1 254 (29 + k) = _; rw [sI_a (by omega)]; exact g5 k k0 (by omega)
    | succ j =>
      have e281u : m281 x u = some (s0.1 210 (3 + nS + 3 * nW + x), u) := by
        rw [e281 (nS := nS) (nW := nW) (by rw [hu.1 242 5 (by omega)]; exact hS) (by rw [hu.1 242 6 (by omega)]; exact hW) hw0 hw6 hws hs8 (by omega) (by omega)]
        unfold prA
        rw [if_neg (by omega)]
        show some (u.1 210 (3 + nS + 3 * nW + x), u) = _
        rw [hu.1 210 _ (by omega)]
      refine k_p (by omega) (k_e e281u (k_e (e195 g4 (by omega) (by omega)) (k_z (by omega) (by omega) ?_)))
      generalize hv : sI (sI u 254 (29 + (x - nW)) (s0.1 210 (3 + nS + 3 * nW + x))) 254 28 (x - nW + 1) = v
      have fv : Fr rF s0 v := by rw [← hv]; exact fr_trans hu (fr_trans (fr_I (Or.inl rfl)) (fr_I (Or.inl rfl)))
      have k28 : ∀ q, q < 28 → v.1 254 q = u.1 254 q := fun q q1 => by rw [← hv, sI_k (by omega), sI_k (by omega)]
      refine ih j (x + 1) v (by omega) (by omega) (by omega) fv (by rw [k28 _ (by omega)]; exact g0) (by rw [k28 _ (by omega)]; exact g1) (fun p p0 p1 => by rw [k28 _ (by omega)]; exact g2 p p0 p1) (fun w w0 w1 => by rw [k28 _ (by omega), k28 _ (by omega), k28 _ (by omega)]; exact g3 w w0 w1) (by rw [← hv, sI_e]; omega) (fun k k0 k1 => ?_)
      by_cases e : k = x - nW
      · rw [e, ← hv, sI_k (by omega), sI_e, show 3 + nS + 3 * nW + x = 3 + nS + 4 * nW + (x - nW) by omega]
      · rw [← hv, sI_k (by omega), sI_k (by omega)]; exact g5 k k0 (by omega)
theorem p284_106 (hS : s0.1 242 5 = nS) (hW : s0.1 242 6 = nW) (hb : ∀ k, 0 ≤ k → k < 1600 → 0 ≤ s0.1 210 k ∧ s0.1 210 k ≤ 255) (hw0 : 0 ≤ nW) (hw6 : nW ≤ 6) (hws : nW ≤ nS) (hs8 : nS ≤ 8) : ∀ (n j : Nat) (w : Int) (u : zS), w = nW - (j : Int) → 0 ≤ w → j < n → Fr rF s0 u → u.1 254 0 = 256 * s0.1 210 0 + s0.1 210 1 → u.1 254 1 = s0.1 210 2 → (∀ p, 0 ≤ p → p < nS → u.1 254 (2 + p) = s0.1 210 (3 + p)) → (∀ v, 0 ≤ v → v < w → u.1 254 (10 + 3 * v) = s0.1 210 (3 + nS + 4 * v) ∧ u.1 254 (11 + 3 * v) = s0.1 210 (3 + nS + 4 * v + 1) ∧ u.1 254 (12 + 3 * v) = 256 * s0.1 210 (3 + nS + 4 * v + 2) + s0.1 210 (3 + nS + 4 * v + 3)) → Ok (m284_106 n (3 + nS) w u) (fun r t => r = 1 ∧ Fr rF s0 t ∧ t.1 209 74 = 0 ∧ onN (fun i => s0.1 210 i) nS nW (fun i => t.1 254 i)) := by
  intro n
  induction n with
  | zero => intro j w u _ _ h; omega
  | succ n ih =>
    intro j w u hw w0 hj hu g0 g1 g2 g3
    rw [m284_106]
    refine k_e e183 ?_
    rw [hu.1 242 6 (by omega), hW]
    cases j with
    | zero =>
      refine k_q (by omega) (k_x (by omega) (by omega) (k_v (k_e e183 ?_)))
      rw [sI_a (by omega), hu.1 242 6 (by omega), hW]
      generalize hv : sI u 254 28 0 = v
      have fv : Fr rF s0 v := by rw [← hv]; exact fr_trans hu (fr_I (Or.inl rfl))
      have k28 : ∀ q, q < 28 → v.1 254 q = u.1 254 q := fun q q1 => by rw [← hv, sI_k (by omega)]
      exact p284_216 hS hW hw0 hw6 hws hs8 zFu (nS - nW).toNat nW v (by omega) (by omega) (by unfold zFu; omega) fv (by rw [k28 _ (by omega)]; exact g0) (by rw [k28 _ (by omega)]; exact g1) (fun p p0 p1 => by rw [k28 _ (by omega)]; exact g2 p p0 p1) (fun v v0 v1 => by rw [k28 _ (by omega), k28 _ (by omega), k28 _ (by omega)]; exact g3 v v0 (by omega)) (by rw [← hv, sI_e]; omega) (fun k k0 k1 => by omega)
    | succ j =>
      have b2 := hb (3 + nS + 4 * w + 2) (by omega) (by omega)
      have b3 := hb (3 + nS + 4 * w + 3) (by omega) (by omega)
      refine k_p (by omega) (k_z (by omega) (by omega) (k_z (by omega) (by omega) (k_z (by omega) (by omega) (k_z (by omega) (by omega) (k_x (by omega) (by omega) (k_v (k_x (by omega) (by omega) (k_v ?_))))))))
      rw [hu.1 210 _ (by omega)]
      generalize h1 : sI u 254 (10 + 3 * w) (s0.1 210 (3 + nS + 4 * w)) = u1
      have f1 : Fr rF s0 u1 := by rw [← h1]; exact fr_trans hu (fr_I (Or.inl rfl))
      refine k_z (by omega) (by omega) (k_z (by omega) (by omega) (k_z (by omega) (by omega) (k_z (by omega) (by omega) (k_x (by omega) (by omega) (k_v (k_x (by omega) (by omega) (k_v ?_)))))))
      rw [f1.1 210 _ (by omega)]
      generalize h2 : sI u1 254 (10 + 3 * w + 1) (s0.1 210 (3 + nS + 4 * w + 1)) = u2
      have f2 : Fr rF s0 u2 := by rw [← h2]; exact fr_trans f1 (fr_I (Or.inl rfl))
      refine k_z (by omega) (by omega) (k_z (by omega) (by omega) (k_z (by omega) (by omega) (k_z (by omega) (by omega) (k_x (by omega) (by omega) (k_v ?_)))))
      rw [f2.1 210 _ (by omega)]
      refine k_z (by omega) (by omega) (k_z (by omega) (by omega) (k_x (by omega) (by omega) (k_v ?_)))
      rw [f2.1 210 _ (by omega)]
      refine k_z (by omega) (by omega) (k_x (by omega) (by omega) (k_v ?_))
      generalize h3 : sI u2 254 (10 + 3 * w + 2) (256 * s0.1 210 (3 + nS + 4 * w + 2) + s0.1 210 (3 + nS + 4 * w + 3)) = u3
      have f3 : Fr rF s0 u3 := by rw [← h3]; exact fr_trans f2 (fr_I (Or.inl rfl))
      have kk : ∀ q, q ≠ 10 + 3 * w → q ≠ 10 + 3 * w + 1 → q ≠ 10 + 3 * w + 2 → u3.1 254 q = u.1 254 q := fun q q1 q2 q3 => by rw [← h3, sI_k q3, ← h2, sI_k q2, ← h1, sI_k q1]
      refine k_z (by omega) (by omega) (ih j (w + 1) u3 (by omega) (by omega) (by omega) f3 (by rw [kk _ (by omega) (by omega) (by omega)]; exact g0) (by rw [kk _ (by omega) (by omega) (by omega)]; exact g1) (fun p p0 p1 => by rw [kk _ (by omega) (by omega) (by omega)]; exact g2 p p0 p1) (fun v v0 v1 => ?_))
      by_cases e : v = w
      · subst e
        refine ⟨?_, ?_, ?_⟩
        · rw [← h3, sI_k (by omega), ← h2, sI_k (by omega), ← h1, sI_e]
        · rw [show 11 + 3 * v = 10 + 3 * v + 1 by omega, ← h3, sI_k (by omega), ← h2, sI_e]
        · rw [show 12 + 3 * v = 10 + 3 * v + 2 by omega, ← h3, sI_e]
      · rw [kk _ (by omega) (by omega) (by omega), kk _ (by omega) (by omega) (by omega), kk _ (by omega) (by omega) (by omega)]; exact g3 v v0 (by omega)
theorem p284_74 (hS : s0.1 242 5 = nS) (hW : s0.1 242 6 = nW) (hb : ∀ k, 0 ≤ k → k < 1600 → 0 ≤ s0.1 210 k ∧ s0.1 210 k ≤ 255) (hw0 : 0 ≤ nW) (hw6 : nW ≤ 6) (hws : nW ≤ nS) (hs8 : nS ≤ 8) : ∀ (n j : Nat) (p : Int) (u : zS), p = nS - (j : Int) → 0 ≤ p → j < n → Fr rF s0 u → u.1 254 0 = 256 * s0.1 210 0 + s0.1 210 1 → u.1 254 1 = s0.1 210 2 → (∀ q, 0 ≤ q → q < p → u.1 254 (2 + q) = s0.1 210 (3 + q)) → Ok (m284_74 n (3 + nS) p u) (fun r t => r = 1 ∧ Fr rF s0 t ∧ t.1 209 74 = 0 ∧ onN (fun i => s0.1 210 i) nS nW (fun i => t.1 254 i)) := by
  intro n
  induction n with
  | zero => intro j p u _ _ h; omega
  | succ n ih =>
    intro j p u hp p0 hj hu g0 g1 g2
    rw [m284_74]
    refine k_e e182 ?_
    rw [hu.1 242 5 (by omega), hS]
    cases j with
    | zero => exact k_q (by omega) (p284_106 hS hW hb hw0 hw6 hws hs8 zFu nW.toNat 0 u (by omega) (by omega) (by unfold zFu; omega) hu g0 g1 (fun q q0 q1 => g2 q q0 (by omega)) (fun v v0 v1 => by omega))
    | succ j =>
      refine k_p (by omega) (k_z (by omega) (by omega) (k_z (by omega) (by omega) (k_x (by omega) (by omega) (k_v (k_x (by omega) (by omega) (k_v ?_))))))
      rw [hu.1 210 _ (by omega)]
      refine k_z (by omega) (by omega) (ih j (p + 1) _ (by omega) (by omega) (by omega) (fr_trans hu (fr_I (Or.inl rfl))) (by rw [sI_k (by omega)]; exact g0) (by rw [sI_k (by omega)]; exact g1) (fun q q0 q1 => ?_))
      by_cases e : q = p
      · rw [e, sI_e]
      · rw [sI_k (by omega)]; exact g2 q q0 (by omega)
end
