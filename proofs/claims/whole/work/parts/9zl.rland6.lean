/-! ===== the reference: a new land ===== -/
/-- the row of a new land -/
def rS (D : dL) (t : zS) : Prop := t.1 254 0 = 0 ∧ t.1 254 1 = D.1 6 0 ∧ (∀ p, 0 ≤ p → p < D.1 0 1 → t.1 254 (2 + p) = D.1 3 (3 * p + 2)) ∧ (∀ w, 0 ≤ w → w < D.1 0 2 → t.1 254 (10 + 3 * w) = D.1 5 w ∧ t.1 254 (11 + 3 * w) = 0 ∧ t.1 254 (12 + 3 * w) = 0) ∧ t.1 254 28 = uwN (D.1 5) (D.1 0 2).toNat (D.1 0 1).toNat ∧ ∀ k, 0 ≤ k → k < uwN (D.1 5) (D.1 0 2).toNat (D.1 0 1).toNat → t.1 254 (29 + k) = uwS (D.1 5) (D.1 0 2).toNat (D.1 0 1).toNat k
section
variable {s s0 : zS} {Q : Int → zS → Prop} {b c : Int} {W : Int → Int}
theorem p178_335 (h1 : s0.1 242 1 = b) (b8 : b ≤ 8) (h6 : s0.1 242 6 = c) (c0 : 0 ≤ c) (c6 : c ≤ 6) (hW : ∀ w, 0 ≤ w → w < c → s0.1 254 (10 + 3 * w) = W w) (hK : ∀ t, t.1 254 28 = uwN W c.toNat b.toNat → (∀ k, 0 ≤ k → k < uwN W c.toNat b.toNat → t.1 254 (29 + k) = uwS W c.toNat b.toNat k) → FrJ (fun a k => a = 254 ∧ 28 ≤ k) s0 t → Ok (oC (m180 t) fun _ s16 => oV (sI s16 209 74 (0 : Int)) fun s18 => oV (sI s18 209 67 (0 : Int)) fun s19 => some ((0 : Int), s19)) Q) : ∀ (n j p : Nat) (s : zS), (p : Int) = b - (j : Int) → j < n → s.1 254 28 = uwN W c.toNat p → (∀ k, 0 ≤ k → k < uwN W c.toNat p → s.1 254 (29 + k) = uwS W c.toNat p k) → FrJ (fun a k => a = 254 ∧ 28 ≤ k) s0 s → Ok (m178_335 n (p : Int) s) Q := by
  intro n
  induction n with
  | zero => intro j p s _ h; omega
  | succ n ih =>
    intro j p s hp hj h28 hk hf
    rw [m178_335]
    refine k_x (by omega) (by omega) (k_v ?_)
    rw [(hf.1 242 1 (by omega)).1, h1]
    cases j with
    | zero =>
      have e : b.toNat = p := by omega
      rw [e] at hK
      exact k_q (by omega) (hK s h28 hk hf)
    | succ j =>
      have hu := uwN_in (f := W) (c := c.toNat) p
      have e6 : s.1 242 6 = c := by rw [(hf.1 242 6 (by omega)).1]; exact h6
      have h192 := e192 (s := s) (p := (p : Int)) (by omega) (by omega)
      rw [e6] at h192
      have ef : fnd (fun w => s.1 254 (10 + 3 * w)) (p : Int) c.toNat 0 = fnd W (p : Int) c.toNat 0 := fnd_congr _ _ (fun w w0 w1 => by rw [(hf.1 254 _ (by omega)).1]; exact hW w w0 (by omega))
      rw [ef] at h192
      have ep : ((p + 1 : Nat) : Int) = (p : Int) + 1 := by omega
      refine k_p (by omega) (k_e h192 ?_)
      by_cases z : fnd W (p : Int) c.toNat 0 = -1
      · refine k_p z (k_e (e195 h28 (by omega) (by omega)) (k_z (by omega) (by omega) ?_))
        rw [← ep]
        refine ih j (p + 1) _ (by omega) (by omega) (by rw [sI_e, uwN_y z]) (fun k k0 k1 => ?_) (frj_trans hf (frj_trans (frj_I ⟨rfl, by omega⟩) (frj_I ⟨rfl, by omega⟩)))
        rw [uwN_y z] at k1
        rw [sI_k (by omega)]
        by_cases y : k = uwN W c.toNat p
        · rw [uwS_y z y, y, sI_e]
        · rw [uwS_n (fun x => y x.2), sI_k (by omega)]
          exact hk k k0 (by omega)
      · refine k_q z (k_z (by omega) (by omega) ?_)
        rw [← ep]
        refine ih j (p + 1) _ (by omega) (by omega) (by rw [uwN_n z]; exact h28) (fun k k0 k1 => ?_) hf
        rw [uwN_n z] at k1
        rw [uwS_n (fun x => z x.1)]
        exact hk k k0 k1
theorem p178_300 (h2 : s0.1 242 2 = c) (c6 : c ≤ 6) (hK : ∀ t, (∀ w, 0 ≤ w → w < c → t.1 254 (10 + 3 * w) = s0.1 247 w) → FrJ (fun a k => a = 254 ∧ ∃ w, 0 ≤ w ∧ w < c ∧ k = 10 + 3 * w) s0 t → Ok (m178_335 zFu 0 t) Q) : ∀ (n j : Nat) (x : Int) (s : zS), x = c - (j : Int) → 0 ≤ x → j < n → (∀ w, 0 ≤ w → w < x → s.1 254 (10 + 3 * w) = s0.1 247 w) → FrJ (fun a k => a = 254 ∧ ∃ w, 0 ≤ w ∧ w < c ∧ k = 10 + 3 * w) s0 s → Ok (m178_300 n x s) Q := by
  intro n
  induction n with
  | zero => intro j x s _ _ h; omega
  | succ n ih =>
    intro j x s hx x0 hj hs hf
    rw [m178_300]
    refine k_x (by omega) (by omega) (k_v ?_)
    rw [(hf.1 242 2 (fun z => absurd z.1 (by decide))).1, h2]
    cases j with
    | zero => exact k_q (by omega) (hK s (fun k k0 k1 => hs k k0 (by omega)) hf)
    | succ j =>
      refine k_p (by omega) (k_z (by omega) (by omega) (k_z (by omega) (by omega) (k_x (by omega) (by omega) (k_v (k_x (by omega) (by omega) (k_v (k_z (by omega) (by omega) ?_)))))))
      refine ih j (x + 1) _ (by omega) (by omega) (by omega) (fun k k0 k1 => ?_) (frj_trans hf (frj_I ⟨rfl, x, x0, by omega, rfl⟩))
      by_cases z : k = x
      · rw [z, sI_e]; exact (hf.1 247 x (fun z => absurd z.1 (by decide))).1
      · rw [sI_k (by omega)]; exact hs k k0 (by omega)
theorem p178_264 (h1 : s0.1 242 1 = b) (b8 : b ≤ 8) (hK : ∀ t, (∀ p, 0 ≤ p → p < b → t.1 254 (2 + p) = s0.1 245 (3 * p + 2)) → FrJ (fun a k => a = 254 ∧ 2 ≤ k ∧ k < 2 + b) s0 t → Ok (m178_300 zFu 0 t) Q) : ∀ (n j : Nat) (x : Int) (s : zS), x = b - (j : Int) → 0 ≤ x → j < n → (∀ p, 0 ≤ p → p < x → s.1 254 (2 + p) = s0.1 245 (3 * p + 2)) → FrJ (fun a k => a = 254 ∧ 2 ≤ k ∧ k < 2 + b) s0 s → Ok (m178_264 n x s) Q := by
  intro n
  induction n with
  | zero => intro j x s _ _ h; omega
  | succ n ih =>
    intro j x s hx x0 hj hs hf
    rw [m178_264]
    refine k_x (by omega) (by omega) (k_v ?_)
    rw [(hf.1 242 1 (by omega)).1, h1]
    cases j with
    | zero => exact k_q (by omega) (hK s (fun k k0 k1 => hs k k0 (by omega)) hf)
    | succ j =>
      refine k_p (by omega) (k_z (by omega) (by omega) (k_z (by omega) (by omega) (k_z (by omega) (by omega) (k_x (by omega) (by omega) (k_v (k_x (by omega) (by omega) (k_v (k_z (by omega) (by omega) ?_))))))))
      refine ih j (x + 1) _ (by omega) (by omega) (by omega) (fun k k0 k1 => ?_) (frj_trans hf (frj_I ⟨rfl, by omega, by omega⟩))
      by_cases z : k = x
      · rw [z, sI_e]; exact (hf.1 245 _ (by omega)).1
      · rw [sI_k (by omega)]; exact hs k k0 (by omega)
theorem p178_231 (hK : ∀ t, (∀ k, 0 ≤ k → k < 37 → t.1 254 k = if k = 1 then s0.1 248 0 else 0) → FrJ (fun a _ => a = 254) s0 t → Ok (m178_264 zFu 0 t) Q) : ∀ (n j : Nat) (x : Int) (s : zS), x = 37 - (j : Int) → 0 ≤ x → j < n → (∀ k, 0 ≤ k → k < x → s.1 254 k = 0) → FrJ (fun a _ => a = 254) s0 s → Ok (m178_231 n x s) Q := by
  intro n
  induction n with
  | zero => intro j x s _ _ h; omega
  | succ n ih =>
    intro j x s hx x0 hj hs hf
    rw [m178_231]
    cases j with
    | zero =>
      refine k_q (by omega) (k_x (by omega) (by omega) (k_v (k_x (by omega) (by omega) (k_v (hK _ (fun k k0 k1 => ?_) (frj_trans hf (frj_I rfl)))))))
      rw [(hf.1 248 0 (by omega)).1]
      by_cases z : k = 1
      · rw [if_pos z, z, sI_e]
      · rw [if_neg z, sI_k z]; exact hs k k0 (by omega)
    | succ j =>
      refine k_p (by omega) (k_x (by omega) (by omega) (k_v (k_z (by omega) (by omega) ?_)))
      refine ih j (x + 1) _ (by omega) (by omega) (by omega) (fun k k0 k1 => ?_) (frj_trans hf (frj_I rfl))
      by_cases z : k = x
      · rw [z, sI_e]
      · rw [sI_k z]; exact hs k k0 (by omega)
theorem p178_199 (h51 : s0.1 209 51 = b) (b16 : b ≤ 1600) (hK : ∀ t, (∀ k, 0 ≤ k → k < b → t.1 251 (1600 + k) = s0.1 251 k) → FrJ (fun a k => a = 251 ∧ 1600 ≤ k) s0 t → Ok (m178_231 zFu 0 t) Q) : ∀ (n j : Nat) (x : Int) (s : zS), x = b - (j : Int) → 0 ≤ x → j < n → (∀ k, 0 ≤ k → k < x → s.1 251 (1600 + k) = s0.1 251 k) → FrJ (fun a k => a = 251 ∧ 1600 ≤ k) s0 s → Ok (m178_199 n x s) Q := by
  intro n
  induction n with
  | zero => intro j x s _ _ h; omega
  | succ n ih =>
    intro j x s hx x0 hj hs hf
    rw [m178_199]
    refine k_v ?_
    rw [(hf.1 209 51 (by omega)).1, h51]
    cases j with
    | zero => exact k_q (by omega) (hK s (fun k k0 k1 => hs k k0 (by omega)) hf)
    | succ j =>
      refine k_p (by omega) (k_z (by omega) (by omega) (k_x (by omega) (by omega) (k_v (k_x (by omega) (by omega) (k_v (k_z (by omega) (by omega) ?_))))))
      refine ih j (x + 1) _ (by omega) (by omega) (by omega) (fun k k0 k1 => ?_) (frj_trans hf (frj_I ⟨rfl, by omega⟩))
      by_cases z : k = x
      · rw [z, sI_e]; exact (hf.1 251 x (by omega)).1
      · rw [sI_k (by omega)]; exact hs k k0 (by omega)
theorem p178_158 (hK : ∀ t, (∀ k, 0 ≤ k → k < 2 → t.1 249 (2 + k) = s0.1 249 k ∧ t.1 250 (2 + k) = s0.1 250 k) → FrJ (fun a k => (a = 249 ∨ a = 250) ∧ 2 ≤ k) s0 t → Ok (m178_199 zFu 0 t) Q) : ∀ (n j : Nat) (x : Int) (s : zS), x = 2 - (j : Int) → 0 ≤ x → j < n → (∀ k, 0 ≤ k → k < x → s.1 249 (2 + k) = s0.1 249 k ∧ s.1 250 (2 + k) = s0.1 250 k) → FrJ (fun a k => (a = 249 ∨ a = 250) ∧ 2 ≤ k) s0 s → Ok (m178_158 n x s) Q := by
  intro n
  induction n with
  | zero => intro j x s _ _ h; omega
  | succ n ih =>
    intro j x s hx x0 hj hs hf
    rw [m178_158]
    cases j with
    | zero => exact k_q (by omega) (hK s (fun k k0 k1 => hs k k0 (by omega)) hf)
    | succ j =>
      refine k_p (by omega) (k_z (by omega) (by omega) (k_x (by omega) (by omega) (k_v (k_x (by omega) (by omega) (k_v (k_z (by omega) (by omega) (k_x (by omega) (by omega) (k_v (k_x (by omega) (by omega) (k_v (k_z (by omega) (by omega) ?_)))))))))))
      refine ih j (x + 1) _ (by omega) (by omega) (by omega) (fun k k0 k1 => ?_) (frj_trans hf (frj_trans (frj_I ⟨Or.inl rfl, by omega⟩) (frj_I ⟨Or.inr rfl, by omega⟩)))
      rw [sI_a (show (249 : Nat) ≠ 250 by decide)]
      by_cases z : k = x
      · rw [z, sI_e, sI_e, sI_a (by decide)]; exact ⟨(hf.1 249 x (by omega)).1, (hf.1 250 x (by omega)).1⟩
      · rw [sI_k (by omega), sI_k (by omega), sI_k (by omega)]; exact hs k k0 (by omega)
theorem p178_131 (hK : ∀ t, (∀ k, 0 ≤ k → k < 3 → t.1 248 (3 + k) = s0.1 248 k) → FrJ (fun a k => a = 248 ∧ 3 ≤ k) s0 t → Ok (m178_158 zFu 0 t) Q) : ∀ (n j : Nat) (x : Int) (s : zS), x = 3 - (j : Int) → 0 ≤ x → j < n → (∀ k, 0 ≤ k → k < x → s.1 248 (3 + k) = s0.1 248 k) → FrJ (fun a k => a = 248 ∧ 3 ≤ k) s0 s → Ok (m178_131 n x s) Q := by
  intro n
  induction n with
  | zero => intro j x s _ _ h; omega
  | succ n ih =>
    intro j x s hx x0 hj hs hf
    rw [m178_131]
    cases j with
    | zero => exact k_q (by omega) (hK s (fun k k0 k1 => hs k k0 (by omega)) hf)
    | succ j =>
      refine k_p (by omega) (k_z (by omega) (by omega) (k_x (by omega) (by omega) (k_v (k_x (by omega) (by omega) (k_v (k_z (by omega) (by omega) ?_))))))
      refine ih j (x + 1) _ (by omega) (by omega) (by omega) (fun k k0 k1 => ?_) (frj_trans hf (frj_I ⟨rfl, by omega⟩))
      by_cases z : k = x
      · rw [z, sI_e]; exact (hf.1 248 x (by omega)).1
      · rw [sI_k (by omega)]; exact hs k k0 (by omega)
theorem p178_102 (hK : ∀ t, (∀ k, 0 ≤ k → k < 18 → t.1 246 (18 + k) = s0.1 246 k) → FrJ (fun a k => a = 246 ∧ 18 ≤ k) s0 t → Ok (m178_131 zFu 0 t) Q) : ∀ (n j : Nat) (x : Int) (s : zS), x = 18 - (j : Int) → 0 ≤ x → j < n → (∀ k, 0 ≤ k → k < x → s.1 246 (18 + k) = s0.1 246 k) → FrJ (fun a k => a = 246 ∧ 18 ≤ k) s0 s → Ok (m178_102 n x s) Q := by
  intro n
  induction n with
  | zero => intro j x s _ _ h; omega
  | succ n ih =>
    intro j x s hx x0 hj hs hf
    rw [m178_102]
    cases j with
    | zero => exact k_q (by omega) (hK s (fun k k0 k1 => hs k k0 (by omega)) hf)
    | succ j =>
      refine k_p (by omega) (k_z (by omega) (by omega) (k_x (by omega) (by omega) (k_v (k_x (by omega) (by omega) (k_v (k_z (by omega) (by omega) ?_))))))
      refine ih j (x + 1) _ (by omega) (by omega) (by omega) (fun k k0 k1 => ?_) (frj_trans hf (frj_I ⟨rfl, by omega⟩))
      by_cases z : k = x
      · rw [z, sI_e]; exact (hf.1 246 x (by omega)).1
      · rw [sI_k (by omega)]; exact hs k k0 (by omega)
theorem p178_73 (hK : ∀ t, (∀ k, 0 ≤ k → k < 49 → t.1 244 (49 + k) = s0.1 244 k) → FrJ (fun a k => a = 244 ∧ 49 ≤ k) s0 t → Ok (m178_102 zFu 0 t) Q) : ∀ (n j : Nat) (x : Int) (s : zS), x = 49 - (j : Int) → 0 ≤ x → j < n → (∀ k, 0 ≤ k → k < x → s.1 244 (49 + k) = s0.1 244 k) → FrJ (fun a k => a = 244 ∧ 49 ≤ k) s0 s → Ok (m178_73 n x s) Q := by
  intro n
  induction n with
  | zero => intro j x s _ _ h; omega
  | succ n ih =>
    intro j x s hx x0 hj hs hf
    rw [m178_73]
    cases j with
    | zero => exact k_q (by omega) (hK s (fun k k0 k1 => hs k k0 (by omega)) hf)
    | succ j =>
      refine k_p (by omega) (k_z (by omega) (by omega) (k_x (by omega) (by omega) (k_v (k_x (by omega) (by omega) (k_v (k_z (by omega) (by omega) ?_))))))
      refine ih j (x + 1) _ (by omega) (by omega) (by omega) (fun k k0 k1 => ?_) (frj_trans hf (frj_I ⟨rfl, by omega⟩))
      by_cases z : k = x
      · rw [z, sI_e]; exact (hf.1 244 x (by omega)).1
      · rw [sI_k (by omega)]; exact hs k k0 (by omega)
theorem p178_29 (hK : ∀ t, (∀ k, 0 ≤ k → k < 24 → t.2.1 243 (24 + k) = s0.2.1 243 k ∧ t.1 245 (24 + k) = s0.1 245 k) → FrJ (fun a k => (a = 243 ∨ a = 245) ∧ 24 ≤ k) s0 t → Ok (m178_73 zFu 0 t) Q) : ∀ (n j : Nat) (x : Int) (s : zS), x = 24 - (j : Int) → 0 ≤ x → j < n → (∀ k, 0 ≤ k → k < x → s.2.1 243 (24 + k) = s0.2.1 243 k ∧ s.1 245 (24 + k) = s0.1 245 k) → FrJ (fun a k => (a = 243 ∨ a = 245) ∧ 24 ≤ k) s0 s → Ok (m178_29 n x s) Q := by
  intro n
  induction n with
  | zero => intro j x s _ _ h; omega
  | succ n ih =>
    intro j x s hx x0 hj hs hf
    rw [m178_29]
    cases j with
    | zero => exact k_q (by omega) (hK s (fun k k0 k1 => hs k k0 (by omega)) hf)
    | succ j =>
      refine k_p (by omega) (k_z (by omega) (by omega) (k_x (by omega) (by omega) (k_v (k_x (by omega) (by omega) (k_v (k_z (by omega) (by omega) (k_x (by omega) (by omega) (k_v (k_x (by omega) (by omega) (k_v (k_z (by omega) (by omega) ?_)))))))))))
      refine ih j (x + 1) _ (by omega) (by omega) (by omega) (fun k k0 k1 => ?_) (frj_trans hf (frj_trans (frj_J ⟨Or.inl rfl, by omega⟩) (frj_I ⟨Or.inr rfl, by omega⟩)))
      rw [sI_21, sJ_1]
      by_cases z : k = x
      · rw [z, sI_e, sJ_e]; exact ⟨(hf.1 243 x (by omega)).2, (hf.1 245 x (by omega)).1⟩
      · rw [sI_k (by omega), sJ_1, sJ_k (by omega)]; exact hs k k0 (by omega)
theorem p178_2 (hK : ∀ t, (∀ k, 0 ≤ k → k < 4 → t.1 242 (4 + k) = s0.1 242 k) → FrJ (fun a k => a = 242 ∧ 4 ≤ k) s0 t → Ok (m178_29 zFu 0 t) Q) : ∀ (n j : Nat) (x : Int) (s : zS), x = 4 - (j : Int) → 0 ≤ x → j < n → (∀ k, 0 ≤ k → k < x → s.1 242 (4 + k) = s0.1 242 k) → FrJ (fun a k => a = 242 ∧ 4 ≤ k) s0 s → Ok (m178_2 n x s) Q := by
  intro n
  induction n with
  | zero => intro j x s _ _ h; omega
  | succ n ih =>
    intro j x s hx x0 hj hs hf
    rw [m178_2]
    cases j with
    | zero => exact k_q (by omega) (hK s (fun k k0 k1 => hs k k0 (by omega)) hf)
    | succ j =>
      refine k_p (by omega) (k_z (by omega) (by omega) (k_x (by omega) (by omega) (k_v (k_x (by omega) (by omega) (k_v (k_z (by omega) (by omega) ?_))))))
      refine ih j (x + 1) _ (by omega) (by omega) (by omega) (fun k k0 k1 => ?_) (frj_trans hf (frj_I ⟨rfl, by omega⟩))
      by_cases z : k = x
      · rw [z, sI_e]; exact (hf.1 242 x (by omega)).1
      · rw [sI_k (by omega)]; exact hs k k0 (by omega)
end
