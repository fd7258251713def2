/-! ===== the shortest ways: the reference's, from the roads on ===== -/
section
variable {n : Int} {s s0 : zS} {Q : Int → zS → Prop}
theorem p180_91 {K : Int → Int → zS → Option (Int × zS)} {M : Int → Int → Int} {k : Int} (n7 : n ≤ 7) (hM : wLn n M) (hB : wBd n 432 M) (k0 : 0 ≤ k) (k1 : k < n) (hK : ∀ t, rWy n (wSt k M) t → Fr (fun a _ => a = 252) s0 t → Ok (K n (k + 1) t) Q) : ∀ (m j : Nat) (x : Int) (s : zS), x = n - (j : Int) → 0 ≤ x → j < m → rWy n (wMx k M x 0) s → Fr (fun a _ => a = 252) s0 s → Ok (m180_91 K m n k x s) Q := by
  intro m
  induction m with
  | zero => intro j x s _ _ h; omega
  | succ m ih =>
    intro j x s hx x0 hj hs hf
    rw [m180_91]
    cases j with
    | zero =>
      refine k_q (by omega) (k_z (by omega) (by omega) (hK s (fun a b a0 a1 b0 b1 => ?_) hf))
      rw [hs a b a0 a1 b0 b1]
      unfold wMx
      rw [if_pos (by omega)]
    | succ j =>
      refine k_p (by omega) (p180_99 (s0 := s0) n7 hM hB k0 k1 x0 (by omega) (fun t t1 t2 => ?_) zFu n.toNat 0 s (by omega) (by omega) (by unfold zFu; omega) hs hf)
      exact ih j (x + 1) t (by omega) (by omega) (by omega) t1 t2
theorem p180_84 {R : Int → Int → Int} (n7 : n ≤ 7) (hR : wRd n R) (hQ : ∀ t, rWy n (wFl (wDg R) n.toNat) t → Fr (fun a _ => a = 252) s0 t → Ok (m180_220 zFu n 0 t) Q) : ∀ (m j i : Nat) (s : zS), (i : Int) = n - (j : Int) → j < m → rWy n (wFl (wDg R) i) s → Fr (fun a _ => a = 252) s0 s → Ok (m180_84 m n (i : Int) s) Q := by
  intro m
  induction m with
  | zero => intro j i s _ h; omega
  | succ m ih =>
    intro j i s hi hj hs hf
    rw [m180_84]
    cases j with
    | zero =>
      refine k_q (by omega) (hQ s ?_ hf)
      rw [show n.toNat = i by omega]
      exact hs
    | succ j =>
      refine k_p (by omega) (p180_91 (s0 := s0) (M := wFl (wDg R) i) n7 (wFl_ok (wDg_ln hR) i (by omega)) (wBd_432 hR n7 (by omega)) (by omega) (by omega) (fun t t1 t2 => ?_) zFu n.toNat 0 s (by omega) (by omega) (by unfold zFu; omega) (fun a b a0 a1 b0 b1 => ?_) hf)
      · rw [show (i : Int) + 1 = ((i + 1 : Nat) : Int) by omega]
        exact ih j (i + 1) t (by omega) (by omega) t1 t2
      · rw [hs a b a0 a1 b0 b1, show wMx (i : Int) (wFl (wDg R) i) 0 0 a b = wFl (wDg R) i a b from if_neg (by omega)]
theorem p180_59 {R : Int → Int → Int} (n7 : n ≤ 7) (hR : wRd n R) (hQ : ∀ t, rWy n (wFl (wDg R) n.toNat) t → Fr (fun a _ => a = 252) s0 t → Ok (m180_220 zFu n 0 t) Q) : ∀ (m j : Nat) (x : Int) (s : zS), x = n - (j : Int) → 0 ≤ x → j < m → rWy n (fun a b => if a = b ∧ a < x then 0 else R a b) s → Fr (fun a _ => a = 252) s0 s → Ok (m180_59 m n x s) Q := by
  intro m
  induction m with
  | zero => intro j x s _ _ h; omega
  | succ m ih =>
    intro j x s hx x0 hj hs hf
    rw [m180_59]
    cases j with
    | zero =>
      refine k_q (by omega) (p180_84 (s0 := s0) n7 hR hQ zFu n.toNat 0 s (by omega) (by unfold zFu; omega) (fun a b a0 a1 b0 b1 => ?_) hf)
      rw [hs a b a0 a1 b0 b1]
      show wNo (if a = b ∧ a < x then 0 else R a b) = wNo (if a = b then 0 else R a b)
      by_cases c : a = b
      · rw [if_pos (show a = b ∧ a < x from ⟨c, by omega⟩), if_pos c]
      · rw [if_neg (fun z : a = b ∧ a < x => c z.1), if_neg c]
    | succ j =>
      refine k_p (by omega) (k_z (by omega) (by omega) (k_z (by omega) (by omega) (k_x (by omega) (by omega) (k_v (k_z (by omega) (by omega) ?_)))))
      refine ih j (x + 1) _ (by omega) (by omega) (by omega) (fun a b a0 a1 b0 b1 => ?_) (fr_trans hf (fr_I rfl))
      show _ = wNo (if a = b ∧ a < x + 1 then 0 else R a b)
      by_cases c : a = x ∧ b = x
      · rw [if_pos (show a = b ∧ a < x + 1 by omega), c.1, c.2, sI_e]
        rfl
      · rw [sI_k (by omega), hs a b a0 a1 b0 b1]
        show wNo (if a = b ∧ a < x then 0 else R a b) = _
        by_cases d : a = b ∧ a < x
        · rw [if_pos d, if_pos (show a = b ∧ a < x + 1 by omega)]
        · rw [if_neg d, if_neg (show ¬ (a = b ∧ a < x + 1) by omega)]
/-- the roads' lengths, -1 for none; no next step -/
theorem p180_7 {x1 : Int} (hQ : ∀ t, (∀ i, 0 ≤ i → i < 49 → t.1 252 i = (if 0 < s0.1 244 (49 + i) then s0.1 244 (49 + i) else -1) ∧ t.1 253 i = -1) → Fr (fun a _ => a = 252 ∨ a = 253) s0 t → Ok (m180_59 zFu x1 0 t) Q) : ∀ (m j : Nat) (x : Int) (s : zS), x = 49 - (j : Int) → 0 ≤ x → j < m → (∀ i, 0 ≤ i → i < x → s.1 252 i = (if 0 < s0.1 244 (49 + i) then s0.1 244 (49 + i) else -1) ∧ s.1 253 i = -1) → Fr (fun a _ => a = 252 ∨ a = 253) s0 s → Ok (m180_7 m x1 x s) Q := by
  intro m
  induction m with
  | zero => intro j x s _ _ h; omega
  | succ m ih =>
    intro j x s hx x0 hj hs hf
    rw [m180_7]
    cases j with
    | zero => exact k_q (by omega) (hQ s (fun i i0 i1 => hs i i0 (by omega)) hf)
    | succ j =>
      have go : ∀ v, v = (if 0 < s0.1 244 (49 + x) then s0.1 244 (49 + x) else -1) → Ok (m180_43 (m180_7 m) x1 x x v s) Q := by
        intro v hv
        unfold m180_43
        refine k_x (by omega) (by omega) (k_v (k_x (by omega) (by omega) (k_v (k_z (by omega) (by omega) ?_))))
        refine ih j (x + 1) _ (by omega) (by omega) (by omega) (fun i i0 i1 => ?_) (fr_trans hf (fr_trans (fr_I (Or.inl rfl)) (fr_I (Or.inr rfl))))
        by_cases c : i = x
        · subst c
          exact ⟨by rw [sI_a (by decide), sI_e]; exact hv, sI_e⟩
        · have := hs i i0 (by omega)
          exact ⟨by rw [sI_a (by decide), sI_k c]; exact this.1, by rw [sI_k c, sI_a (by decide)]; exact this.2⟩
      have h244 : s.1 244 (49 + x) = s0.1 244 (49 + x) := hf.1 _ _ (by omega)
      refine k_p (by omega) (k_z (by omega) (by omega) (k_x (by omega) (by omega) (k_v ?_)))
      rw [h244]
      by_cases c : 0 < s0.1 244 (49 + x)
      · refine k_p c (k_z (by omega) (by omega) (k_x (by omega) (by omega) (k_v ?_)))
        rw [h244]
        exact go _ (by rw [if_pos c])
      · exact k_q c (go _ (by rw [if_neg c]))
end
