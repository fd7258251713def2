/-! ===== the shelf at the start; the class's State ===== -/
/-- how many of the first pairs nobody wears, and which -/
def uwN (f : Int → Int) (c : Nat) : Nat → Int
  | 0 => 0
  | p + 1 => if fnd f (p : Int) c 0 = -1 then uwN f c p + 1 else uwN f c p
def uwS (f : Int → Int) (c : Nat) : Nat → Int → Int
  | 0, _ => 0
  | p + 1, k => if fnd f (p : Int) c 0 = -1 ∧ k = uwN f c p then (p : Int) else uwS f c p k
section
variable {f : Int → Int} {c : Nat}
theorem uwN_y {p : Nat} (h : fnd f (p : Int) c 0 = -1) : uwN f c (p + 1) = uwN f c p + 1 := if_pos h
theorem uwN_n {p : Nat} (h : ¬ fnd f (p : Int) c 0 = -1) : uwN f c (p + 1) = uwN f c p := if_neg h
theorem uwS_y {p : Nat} {k : Int} (h : fnd f (p : Int) c 0 = -1) (hk : k = uwN f c p) : uwS f c (p + 1) k = (p : Int) := if_pos ⟨h, hk⟩
theorem uwS_n {p : Nat} {k : Int} (h : ¬ (fnd f (p : Int) c 0 = -1 ∧ k = uwN f c p)) : uwS f c (p + 1) k = uwS f c p k := if_neg h
theorem uwN_in : ∀ p : Nat, 0 ≤ uwN f c p ∧ uwN f c p ≤ (p : Int) := by
  intro p
  induction p with
  | zero => exact ⟨Int.le_refl _, Int.le_refl _⟩
  | succ p ih =>
    by_cases h : fnd f (p : Int) c 0 = -1
    · rw [uwN_y h]; omega
    · rw [uwN_n h]; omega
theorem uwS_in : ∀ (p : Nat) (k : Int), 0 ≤ k → k < uwN f c p → 0 ≤ uwS f c p k ∧ uwS f c p k < (p : Int) ∧ fnd f (uwS f c p k) c 0 = -1 := by
  intro p
  induction p with
  | zero => intro k k0 k1; have k1 : k < 0 := k1; omega
  | succ p ih =>
    intro k k0 k1
    by_cases h : fnd f (p : Int) c 0 = -1
    · rw [uwN_y h] at k1
      by_cases hk : k = uwN f c p
      · rw [uwS_y h hk]
        exact ⟨by omega, by omega, h⟩
      · rw [uwS_n (fun z => hk z.2)]
        have := ih k k0 (by omega)
        exact ⟨this.1, by omega, this.2.2⟩
    · rw [uwN_n h] at k1
      rw [uwS_n (fun z => h z.1)]
      have := ih k k0 k1
      exact ⟨this.1, by omega, this.2.2⟩
theorem uwS_lt : ∀ (p : Nat) (j k : Int), 0 ≤ j → j < k → k < uwN f c p → uwS f c p j < uwS f c p k := by
  intro p
  induction p with
  | zero => intro j k j0 jk k1; have k1 : k < 0 := k1; omega
  | succ p ih =>
    intro j k j0 jk k1
    by_cases h : fnd f (p : Int) c 0 = -1
    · rw [uwN_y h] at k1
      rw [uwS_n (k := j) (fun z => by omega)]
      by_cases hk : k = uwN f c p
      · rw [uwS_y h hk]
        exact (uwS_in p j j0 (by omega)).2.1
      · rw [uwS_n (fun z => hk z.2)]
        exact ih j k j0 jk (by omega)
    · rw [uwN_n h] at k1
      rw [uwS_n (fun z => h z.1), uwS_n (fun z => h z.1)]
      exact ih j k j0 jk k1
theorem uwN_s (h0 : 0 ≤ f (c : Int)) (hn : ∀ w, 0 ≤ w → w < (c : Int) → f w ≠ f (c : Int)) : ∀ m : Nat, uwN f (c + 1) m = uwN f c m - (if f (c : Int) < (m : Int) then 1 else 0) := by
  intro m
  induction m with
  | zero => rw [if_neg (by omega)]; rfl
  | succ m ih =>
    by_cases z : f (c : Int) = (m : Int)
    · have h1 : fnd f (m : Int) c 0 = -1 := by
        rcases fnd_in (g := f) (p := (m : Int)) c 0 with h | h
        · exact h
        · exact absurd (h.2.2.trans z.symm) (hn _ h.1 (by omega))
      have h2 : ¬ fnd f (m : Int) (c + 1) 0 = -1 := fun h => fnd_none (c + 1) 0 (by omega) h (c : Int) (by omega) (by omega) z
      rw [uwN_n h2, uwN_y h1, ih, if_neg (by omega), if_pos (by omega)]
      omega
    · have h1 : fnd f (m : Int) (c + 1) 0 = fnd f (m : Int) c 0 := fnd_snoc c 0 (by rw [Int.zero_add]; exact z)
      by_cases h : fnd f (m : Int) c 0 = -1
      · rw [uwN_y h, uwN_y (by rw [h1]; exact h), ih]
        by_cases y : f (c : Int) < (m : Int)
        · rw [if_pos y, if_pos (by omega)]; omega
        · rw [if_neg y, if_neg (by omega)]; omega
      · rw [uwN_n h, uwN_n (by rw [h1]; exact h), ih]
        by_cases y : f (c : Int) < (m : Int)
        · rw [if_pos y, if_pos (by omega)]
        · rw [if_neg y, if_neg (by omega)]
theorem uwN_0 : ∀ m : Nat, uwN f 0 m = (m : Int) := by
  intro m
  induction m with
  | zero => rfl
  | succ m ih => rw [uwN_y rfl, ih]; omega
theorem uwN_eq {b : Nat} : ∀ c : Nat, (∀ w, 0 ≤ w → w < (c : Int) → 0 ≤ f w ∧ f w < (b : Int)) → (∀ v w, 0 ≤ v → v < w → w < (c : Int) → f v ≠ f w) → uwN f c b = (b : Int) - (c : Int) := by
  intro c
  induction c with
  | zero => intro _ _; rw [uwN_0]; omega
  | succ c ih =>
    intro h1 h2
    have hc := h1 (c : Int) (by omega) (by omega)
    rw [uwN_s hc.1 (fun w w0 w1 => h2 w (c : Int) w0 w1 (by omega)) b, if_pos hc.2, ih (fun w w0 w1 => h1 w w0 (by omega)) (fun v w v0 vw w1 => h2 v w v0 vw (by omega))]
    omega
theorem uwN_congr {f' : Int → Int} (h : ∀ w, 0 ≤ w → w < (c : Int) → f w = f' w) : ∀ m : Nat, uwN f c m = uwN f' c m := by
  intro m
  induction m with
  | zero => rfl
  | succ m ih =>
    have e := fnd_congr (p := (m : Int)) c 0 (fun w w0 w1 => h w w0 (by omega))
    show (if fnd f (m : Int) c 0 = -1 then _ else _) = (if fnd f' (m : Int) c 0 = -1 then _ else _)
    rw [e, ih]
theorem uwS_congr {f' : Int → Int} (h : ∀ w, 0 ≤ w → w < (c : Int) → f w = f' w) : ∀ (m : Nat) (k : Int), uwS f c m k = uwS f' c m k := by
  intro m
  induction m with
  | zero => intro k; rfl
  | succ m ih =>
    intro k
    have e := fnd_congr (p := (m : Int)) c 0 (fun w w0 w1 => h w w0 (by omega))
    show (if fnd f (m : Int) c 0 = -1 ∧ k = uwN f c m then _ else _) = (if fnd f' (m : Int) c 0 = -1 ∧ k = uwN f' c m then _ else _)
    rw [e, ih, uwN_congr h]
end
section
variable {A L : Nat} {s s0 : zS} {b c : Int} {Q : Int → zS → Prop}
theorem p57_65 (hA : A + 5 < 43) (hL : 43 ≤ L) (hb : s0.1 (L + 3) 0 = b) (b8 : b ≤ 8) (hc : s0.1 (L + 5) 0 = c) (c0 : 0 ≤ c) (c6 : c ≤ 6) : ∀ (n j p : Nat) (s : zS), (p : Int) = b - (j : Int) → j < n → s.1 A 5 = uwN (s0.1 (L + 16)) c.toNat p → (∀ k, 0 ≤ k → k < uwN (s0.1 (L + 16)) c.toNat p → s.1 (A + 5) k = uwS (s0.1 (L + 16)) c.toNat p k) → (∀ i, 0 ≤ i → i < (p : Int) → s.1 (A + 1) i = s0.1 (L + 12) i) → Fr (fun a k => (a = A ∧ k = 5) ∨ a = A + 1 ∨ a = A + 5) s0 s → Ok (m57_65 n A L (p : Int) s) (fun _ t => t.1 A 5 = uwN (s0.1 (L + 16)) c.toNat b.toNat ∧ (∀ k, 0 ≤ k → k < uwN (s0.1 (L + 16)) c.toNat b.toNat → t.1 (A + 5) k = uwS (s0.1 (L + 16)) c.toNat b.toNat k) ∧ (∀ i, 0 ≤ i → i < b → t.1 (A + 1) i = s0.1 (L + 12) i) ∧ Fr (fun a k => (a = A ∧ k = 5) ∨ a = A + 1 ∨ a = A + 5) s0 t) := by
  intro n
  induction n with
  | zero => intro j p s _ h; omega
  | succ n ih =>
    intro j p s hp hj h5 hk hi hf
    rw [m57_65]
    refine k_v ?_
    rw [hf.1 (L + 3) 0 (by omega), hb]
    cases j with
    | zero =>
      have e : b.toNat = p := by omega
      rw [e]
      exact k_q (by omega) (k_r ⟨h5, hk, fun i i0 i1 => hi i i0 (by omega), hf⟩)
    | succ j =>
      have hu := uwN_in (f := s0.1 (L + 16)) (c := c.toNat) p
      refine k_p (by omega) (k_x (by omega) (by omega) (k_v (k_x (by omega) (by omega) (k_v ?_))))
      rw [hf.1 (L + 12) _ (by omega)]
      generalize hv : sI s (A + 1) (p : Int) (s0.1 (L + 12) (p : Int)) = v
      have fv : Fr (fun a k => (a = A ∧ k = 5) ∨ a = A + 1 ∨ a = A + 5) s0 v := by rw [← hv]; exact fr_trans hf (fr_I (Or.inr (Or.inl rfl)))
      have v5 : v.1 A 5 = uwN (s0.1 (L + 16)) c.toNat p := by rw [← hv, sI_a (by omega)]; exact h5
      have vk : ∀ k, 0 ≤ k → k < uwN (s0.1 (L + 16)) c.toNat p → v.1 (A + 5) k = uwS (s0.1 (L + 16)) c.toNat p k := fun k k0 k1 => by rw [← hv, sI_a (by omega)]; exact hk k k0 k1
      have vi : ∀ i, 0 ≤ i → i < (p : Int) + 1 → v.1 (A + 1) i = s0.1 (L + 12) i := fun i i0 i1 => by
        rw [← hv]
        by_cases z : i = (p : Int)
        · rw [z, sI_e]
        · rw [sI_k z]; exact hi i i0 (by omega)
      have h43 := e43 (s := v) (L := L) (p := (p : Int)) (by rw [fv.1 (L + 5) 0 (by omega)]; exact hc) c6 zFu c.toNat 0 (by omega) (by omega) (by unfold zFu; omega)
      have e16 : (fun x => v.1 (L + 16) x) = s0.1 (L + 16) := funext fun x => fv.1 _ _ (by omega)
      rw [e16] at h43
      unfold m43
      refine k_e h43 ?_
      have ep : ((p + 1 : Nat) : Int) = (p : Int) + 1 := by omega
      by_cases z : fnd (s0.1 (L + 16)) (p : Int) c.toNat 0 = -1
      · rw [if_pos z]
        refine k_p rfl (k_e (e59 v5 (by omega) (by omega)) (k_z (by omega) (by omega) ?_))
        rw [← ep]
        refine ih j (p + 1) _ (by omega) (by omega) ?_ (fun k k0 k1 => ?_) (fun i i0 i1 => ?_) (fr_trans fv (fr_trans (fr_I (Or.inr (Or.inr rfl))) (fr_I (Or.inl ⟨rfl, rfl⟩))))
        · rw [sI_e, uwN_y z]
        · rw [uwN_y z] at k1
          rw [sI_a (by omega)]
          by_cases y : k = uwN (s0.1 (L + 16)) c.toNat p
          · rw [uwS_y z y, y, sI_e]
          · rw [uwS_n (fun x => y x.2), sI_k y]
            exact vk k k0 (by omega)
        · rw [sI_a (by omega), sI_a (by omega)]
          exact vi i i0 (by omega)
      · rw [if_neg z]
        refine k_q (by decide) (k_z (by omega) (by omega) ?_)
        rw [← ep]
        refine ih j (p + 1) _ (by omega) (by omega) (by rw [uwN_n z]; exact v5) (fun k k0 k1 => ?_) (fun i i0 i1 => vi i i0 (by omega)) fv
        rw [uwN_n z] at k1
        rw [uwS_n (fun x => z x.1)]
        exact vk k k0 k1
theorem p57_20 (hA : A + 5 < 43) (hL : 43 ≤ L) (hc : s0.1 (L + 5) 0 = c) (c6 : c ≤ 6) (hK : ∀ t, (∀ w, 0 ≤ w → w < c → t.1 (A + 2) w = s0.1 (L + 16) w ∧ t.1 (A + 3) w = -1 ∧ t.1 (A + 4) w = 0) → Fr (fun a _ => a = A + 2 ∨ a = A + 3 ∨ a = A + 4) s0 t → Ok (m57_65 zFu A L 0 t) Q) : ∀ (n j : Nat) (x : Int) (s : zS), x = c - (j : Int) → 0 ≤ x → j < n → (∀ w, 0 ≤ w → w < x → s.1 (A + 2) w = s0.1 (L + 16) w ∧ s.1 (A + 3) w = -1 ∧ s.1 (A + 4) w = 0) → Fr (fun a _ => a = A + 2 ∨ a = A + 3 ∨ a = A + 4) s0 s → Ok (m57_20 n A L x s) Q := by
  intro n
  induction n with
  | zero => intro j x s _ _ h; omega
  | succ n ih =>
    intro j x s hx x0 hj hs hf
    rw [m57_20]
    refine k_v ?_
    rw [hf.1 (L + 5) 0 (by omega), hc]
    cases j with
    | zero => exact k_q (by omega) (hK s (fun w w0 w1 => hs w w0 (by omega)) hf)
    | succ j =>
      refine k_p (by omega) (k_x (by omega) (by omega) (k_v (k_x (by omega) (by omega) (k_v (k_x (by omega) (by omega) (k_v (k_x (by omega) (by omega) (k_v (k_z (by omega) (by omega) ?_)))))))))
      refine ih j (x + 1) _ (by omega) (by omega) (by omega) (fun w w0 w1 => ?_) (fr_trans hf (fr_trans (fr_I (by omega)) (fr_trans (fr_I (by omega)) (fr_I (by omega)))))
      rw [hf.1 (L + 16) x (by omega), sI_a (show A + 2 ≠ A + 4 by omega), sI_a (show A + 2 ≠ A + 3 by omega), sI_a (show A + 3 ≠ A + 4 by omega)]
      by_cases z : w = x
      · rw [z, sI_e, sI_e, sI_e]
        exact ⟨rfl, rfl, rfl⟩
      · simp only [sI_k z]
        exact hs w w0 (by omega)
/-- the class's State at the start -/
theorem p57 (hA : A + 5 < 43) (hL : 43 ≤ L) (hb : s.1 (L + 3) 0 = b) (b0 : 0 ≤ b) (b8 : b ≤ 8) (hc : s.1 (L + 5) 0 = c) (c0 : 0 ≤ c) (c6 : c ≤ 6) : Ok (m57 A L s) (fun _ t => t.1 A 6 = 0 ∧ t.1 A 7 = s.1 L 17 ∧ (∀ w, 0 ≤ w → w < c → t.1 (A + 2) w = s.1 (L + 16) w ∧ t.1 (A + 3) w = -1 ∧ t.1 (A + 4) w = 0) ∧ t.1 A 5 = uwN (s.1 (L + 16)) c.toNat b.toNat ∧ (∀ k, 0 ≤ k → k < uwN (s.1 (L + 16)) c.toNat b.toNat → t.1 (A + 5) k = uwS (s.1 (L + 16)) c.toNat b.toNat k) ∧ (∀ i, 0 ≤ i → i < b → t.1 (A + 1) i = s.1 (L + 12) i) ∧ Fr (fun a k => (a = A ∧ 5 ≤ k ∧ k ≤ 7) ∨ (A + 1 ≤ a ∧ a ≤ A + 5)) s t) := by
  unfold m57
  refine k_v (k_v (k_v (k_v ?_)))
  rw [sI_a (show L ≠ A by omega)]
  generalize hu : sI (sI (sI s A 6 0) A 7 (s.1 L 17)) A 5 0 = u
  have fu : Fr (fun a k => a = A ∧ 5 ≤ k ∧ k ≤ 7) s u := by rw [← hu]; exact fr_trans (fr_I (by omega)) (fr_trans (fr_I (by omega)) (fr_I (by omega)))
  have u6 : u.1 A 6 = 0 := by rw [← hu, sI_k (by decide), sI_k (by decide), sI_e]
  have u7 : u.1 A 7 = s.1 L 17 := by rw [← hu, sI_k (by decide), sI_e]
  have u5 : u.1 A 5 = 0 := by rw [← hu, sI_e]
  refine p57_20 (s0 := u) (c := c) hA hL (by rw [fu.1 (L + 5) 0 (by omega)]; exact hc) c6 (fun t t1 t2 => ?_) zFu c.toNat 0 u (by omega) (by omega) (by unfold zFu; omega) (fun w w0 w1 => by omega) fr_refl
  have ft : Fr (fun a k => (a = A ∧ 5 ≤ k ∧ k ≤ 7) ∨ (A + 1 ≤ a ∧ a ≤ A + 5)) s t := fr_trans (fr_mono (fun a k z => Or.inl z) fu) (fr_mono (fun a k z => by omega) t2)
  have hp := p57_65 (s0 := t) (b := b) (c := c) hA hL (by rw [ft.1 (L + 3) 0 (by omega)]; exact hb) b8 (by rw [ft.1 (L + 5) 0 (by omega)]; exact hc) c0 c6 zFu b.toNat 0 t (by omega) (by unfold zFu; omega) (by rw [t2.1 A 5 (by omega)]; exact u5) (fun k k0 k1 => by have k1 : k < 0 := k1; omega) (fun i i0 i1 => by omega) fr_refl
  refine k_m hp ?_
  rintro _ v ⟨v1, v2, v3, v4⟩
  have e16 : t.1 (L + 16) = s.1 (L + 16) := funext fun x => ft.1 _ _ (by omega)
  have e12 : t.1 (L + 12) = s.1 (L + 12) := funext fun x => ft.1 _ _ (by omega)
  rw [e16] at v1 v2
  rw [e12] at v3
  refine ⟨by rw [v4.1 A 6 (by omega), t2.1 A 6 (by omega)]; exact u6, by rw [v4.1 A 7 (by omega), t2.1 A 7 (by omega)]; exact u7, fun w w0 w1 => ?_, v1, v2, v3, fr_trans ft (fr_mono (fun a k z => by omega) v4)⟩
  rw [v4.1 (A + 2) w (by omega), v4.1 (A + 3) w (by omega), v4.1 (A + 4) w (by omega), t1 w w0 w1 |>.1, t1 w w0 w1 |>.2.1, t1 w w0 w1 |>.2.2, fu.1 (L + 16) w (by omega)]
  exact ⟨rfl, rfl, rfl⟩
end
