/-! ===== deal: the class's table ===== -/
/-- in how many legs one is there, tried -/
def dT (f : Nat → Int → Int) (w p : Int) : Int := trT f w p p (f 246 (19 + 3 * w)) (f 254 0) (fun q => f 254 (2 + q)) 31
/-- of the first k on the shelf -/
def shL (f : Nat → Int → Int) (w p : Int) : Nat → Int
  | 0 => -1
  | k + 1 => if f 254 (29 + (k : Int)) = p then dT f w p else shL f w p k
def dlK (f : Nat → Int → Int) (w : Int) (k : Nat) (p : Int) : Int := if f 254 (11 + 3 * w) = 0 then shL f w p k else -1
def dlG (f : Nat → Int → Int) (w p : Int) : Int := dlK f w (f 254 28).toNat p
section
variable {f : Nat → Int → Int} {w p : Int}
theorem dT_in : -1 ≤ dT f w p ∧ dT f w p ≤ 30 := by
  unfold dT
  have := trT_in (f := f) (w := w) (p1 := p) (p2 := p) (will := f 246 (19 + 3 * w)) (day := f 254 0) (h0 := fun q => f 254 (2 + q)) 31
  omega
theorem shL_or : ∀ k : Nat, (shL f w p k = -1 ∧ ∀ i : Nat, i < k → f 254 (29 + (i : Int)) ≠ p) ∨ (shL f w p k = dT f w p ∧ ∃ i : Nat, i < k ∧ f 254 (29 + (i : Int)) = p) := by
  intro k
  induction k with
  | zero => exact Or.inl ⟨rfl, fun i hi => by omega⟩
  | succ k ih =>
    unfold shL
    by_cases c : f 254 (29 + (k : Int)) = p
    · rw [if_pos c]; exact Or.inr ⟨rfl, k, by omega, c⟩
    · rw [if_neg c]
      rcases ih with ⟨h1, h2⟩ | ⟨h1, i, h2, h3⟩
      · refine Or.inl ⟨h1, fun i hi => ?_⟩
        by_cases e : i = k
        · rw [e]; exact c
        · exact h2 i (by omega)
      · exact Or.inr ⟨h1, i, by omega, h3⟩
theorem dlG_in : -1 ≤ dlG f w p ∧ dlG f w p ≤ 30 := by
  unfold dlG dlK
  split
  · rcases shL_or (f := f) (w := w) (p := p) (f 254 28).toNat with h | h
    · omega
    · rw [h.1]; exact dT_in
  · omega
end
theorem p293 {m a : Nat} {v : Int} {s0 : zS} (hm : m ≤ 2000) : ∀ (n j : Nat) (u : zS), j ≤ m → m - j < n → (∀ i, 0 ≤ i → i < (j : Int) → u.1 a i = v) → Fr (fun a' q => a' = a ∧ 0 ≤ q ∧ q < (m : Int)) s0 u → Ok (m293_5 n m a v (j : Int) (m : Int) u) (fun _ t => (∀ i, 0 ≤ i → i < (m : Int) → t.1 a i = v) ∧ Fr (fun a' q => a' = a ∧ 0 ≤ q ∧ q < (m : Int)) s0 t) := by
  intro n
  induction n with
  | zero => intro j u h1 h2; omega
  | succ n ih =>
    intro j u h1 h2 hk hf
    rw [m293_5]
    by_cases hj : j = m
    · subst hj; exact k_q (by omega) (k_r ⟨hk, hf⟩)
    · refine k_p (by omega) (k_x (by omega) (by omega) (k_v (k_z (by omega) (by omega) ?_)))
      refine ih (j + 1) _ (by omega) (by omega) (fun i i0 i1 => ?_) (fr_trans hf (fr_I ⟨rfl, by omega, by omega⟩))
      by_cases e : i = (j : Int)
      · rw [e, sI_e]
      · rw [sI_k e]; exact hk i i0 (by omega)
theorem p293m {m a : Nat} {v : Int} {s : zS} (hm : m ≤ 2000) : Ok (m293 m a v s) (fun _ t => (∀ i, 0 ≤ i → i < (m : Int) → t.1 a i = v) ∧ Fr (fun a' q => a' = a ∧ 0 ≤ q ∧ q < (m : Int)) s t) := by
  unfold m293
  exact k_z (by omega) (by omega) (p293 hm zFu 0 s (by omega) (by unfold zFu; omega) (fun i i0 i1 => by omega) fr_refl)
abbrev dgF (L : Nat) (a : Nat) (q : Int) : Prop := tFr L a q ∨ (20 ≤ a ∧ a ≤ 23)
theorem scr_dg {L a : Nat} {k : Int} (h : dgF L a k) : Scr L a k := by
  rcases h with (h | h | h | h) | h
  · exact Or.inr (Or.inl (by omega))
  · exact Or.inr (Or.inl (by omega))
  · exact Or.inr (Or.inr (Or.inr (Or.inr (Or.inr (Or.inl h)))))
  · exact Or.inr (Or.inr (Or.inr (Or.inr (Or.inr (Or.inr (Or.inl h))))))
  · exact Or.inr (Or.inl (by omega))
/-- what the table holds behind w walkers, k pairs -/
def dlTb (f : Nat → Int → Int) (w : Int) (k : Nat) (s : zS) : Prop := ∀ v p, 0 ≤ v → v < 6 → 0 ≤ p → p < 8 → s.1 23 (8 * v + p) = if v < w then dlG f v p else if v = w then dlK f w k p else -1
theorem dlTb_0 {f : Nat → Int → Int} {w : Int} {k : Nat} {s : zS} (h : dlTb f w k s) (he : ∀ p, dlK f w k p = dlG f w p) : dlTb f (w + 1) 0 s := by
  intro v p v0 v1 p0 p1
  rw [h v p v0 v1 p0 p1]
  by_cases c : v < w
  · rw [if_pos c, if_pos (by omega)]
  · rw [if_neg c]
    by_cases d : v = w
    · rw [if_pos d, if_pos (by omega), d, he]
    · rw [if_neg d, if_neg (by omega)]
      split
      · unfold dlK shL; split <;> rfl
      · rfl
theorem p1_34 {n0 : Nat} {s0 : zS} {w : Int} {K : Nat → Nat → Int → zS → Option (Int × zS)} {P : Int → zS → Prop} (hR : R n0 s0) (w0 : 0 ≤ w) (w1 : w < s0.1 242 6) : ∀ (n j : Nat) (k : Int) (s : zS), k = s0.1 254 28 - (j : Int) → 0 ≤ k → j < n → dlTb s0.1 w k.toNat s → Fr (dgF (s0.2.2 1)) s0 s → (∀ t, dlTb s0.1 (w + 1) 0 t → Fr (dgF (s0.2.2 1)) s0 t → t.1 20 = s.1 20 → Ok (K 28 (s0.2.2 1) (w + 1) t) P) → Ok (m1_34 K n 28 (s0.2.2 1) w k s) P := by
  have hLL := R_LL hR
  obtain ⟨b1, b2, b3, b4, b5, b6, b7, b8, b9, b10⟩ := R_cnt hR
  have h28 := R_28 hR
  intro n
  induction n with
  | zero => intro j k s _ _ h; omega
  | succ n ih =>
    intro j k s hk k0 hj hT hs hK
    have hRs : R n0 s := R_fr hR (frj_of (fr_mono (fun a k z => scr_dg z) hs))
    have hM : s.2.2 = s0.2.2 := hs.2.2
    have eqs : eqL s0.1 s.1 := eqL_fr hs (fun a k q => by omega)
    have e254 : s.1 254 = s0.1 254 := funext fun q => hs.1 254 q (by omega)
    have hw := R_w hRs w0 (by rw [eqs.1]; exact w1)
    have e31 : s.1 (28 + 3) w = s0.1 254 (11 + 3 * w) - 1 := by rw [← e254]; exact hw.2.1
    have e285 : s.1 28 5 = s0.1 254 28 := by rw [← e254]; exact R_285 hRs
    rw [m1_34]
    refine k_x w0 (by omega) (k_v ?_)
    rw [e31]
    by_cases home : s0.1 254 (11 + 3 * w) = 0
    · refine k_p (by omega) (k_v ?_)
      rw [e285]
      cases j with
      | zero =>
        refine k_q (by omega) (k_z (by omega) (by omega) (hK s (dlTb_0 hT (fun p => ?_)) hs rfl))
        unfold dlG
        rw [show k = s0.1 254 28 by omega]
      | succ j =>
        have k1 : k < s0.1 254 28 := by omega
        have hq := R_sh hR k k0 k1
        have e33 : s.1 (28 + 5) k = s0.1 254 (29 + k) := by rw [← e254]; exact R_33 hRs k k0 (by rw [e254]; exact k1)
        have hwl := (R_land hR).2.2.2.1 w w0 w1
        refine k_p k1 (k_x k0 (by omega) (k_v (k_x w0 (by omega) (k_v ?_))))
        rw [e33, hs.1 (s0.2.2 1 + 14) w (by omega), hwl.2.1]
        refine k_z (by omega) (by omega) (k_z (by omega) (by omega) (k_c (p99 hRs w0 (by rw [eqs.1]; exact w1) hq.1 (by rw [eqs.1]; exact hq.2) hq.1 (by rw [eqs.1]; exact hq.2) (by omega) (by omega)) ?_))
        intro r u hu
        obtain ⟨u1, u2, u3⟩ := hu
        rw [hM] at u3
        have er : r = dT s0.1 w (s0.1 254 (29 + k)) := by
          rw [u1, (trT_eq eqs 31).2, e254]; rfl
        refine k_x (by omega) (by omega) (k_v (k_z (by omega) (by omega) ?_))
        refine ih j (k + 1) _ (by omega) (by omega) (by omega) ?_ (fr_trans hs (fr_trans (fr_mono (fun a q z => Or.inl z) u3) (fr_I (Or.inr (by omega))))) (fun t t1 t2 t3 => hK t t1 t2 ?_)
        · intro v p v0 v1 p0 p1
          have old := hT v p v0 v1 p0 p1
          rw [show w * 8 + s0.1 254 (29 + k) = 8 * w + s0.1 254 (29 + k) by omega]
          by_cases c : 8 * v + p = 8 * w + s0.1 254 (29 + k)
          · have ev : v = w := by omega
            have ep : p = s0.1 254 (29 + k) := by omega
            rw [c, sI_e, if_neg (by omega), if_pos ev, er, ep]
            unfold dlK
            rw [if_pos home, show (k + 1).toNat = k.toNat + 1 by omega]
            unfold shL
            rw [show ((k.toNat : Nat) : Int) = k by omega, if_pos rfl]
          · rw [sI_k c, u3.1 23 _ (by omega), old]
            by_cases d : v < w
            · rw [if_pos d, if_pos d]
            · rw [if_neg d, if_neg d]
              by_cases g : v = w
              · rw [if_pos g, if_pos g]
                unfold dlK
                rw [if_pos home, if_pos home, show (k + 1).toNat = k.toNat + 1 by omega]
                conv => rhs; unfold shL
                rw [show ((k.toNat : Nat) : Int) = k by omega, if_neg (by omega)]
              · rw [if_neg g, if_neg g]
        · rw [t3]
          exact funext fun q => by rw [sI_a (by omega), u3.1 20 q (by omega)]
    · refine k_q (by omega) (k_z (by omega) (by omega) (hK s (dlTb_0 hT (fun p => ?_)) hs rfl))
      unfold dlG dlK
      rw [if_neg home, if_neg home]
/-- what the class has found -/
def dlCl (f : Nat → Int → Int) (t : zS) : Prop := Best (f 242 6) (dlN (f 242 6) (dlG f)) (dlL (f 242 6) (dlG f)) (dlQ (f 242 6) (dlG f)) (fun w => t.1 21 w + 1) ∧ t.1 20 1 = dlN (f 242 6) (dlG f) (fun w => t.1 21 w + 1)
theorem p1_22 {n0 : Nat} {s0 : zS} (hR : R n0 s0) : ∀ (n j : Nat) (w : Int) (s : zS), w = s0.1 242 6 - (j : Int) → 0 ≤ w → j < n → dlTb s0.1 w 0 s → s.1 20 5 = s0.1 242 6 → Fr (dgF (s0.2.2 1)) s0 s → Ok (m1_22 n 28 (s0.2.2 1) w s) (fun _ t => dlCl s0.1 t ∧ Fr (dgF (s0.2.2 1)) s0 t) := by
  obtain ⟨b1, b2, b3, b4, b5, b6, b7, b8, b9, b10⟩ := R_cnt hR
  have h28 := R_28 hR
  intro n
  induction n with
  | zero => intro j w s _ _ h; omega
  | succ n ih =>
    intro j w s hw w0 hj hT h5 hs
    rw [m1_22]
    refine k_v ?_
    rw [h5]
    cases j with
    | zero =>
      refine k_q (by omega) (k_v (k_v ?_))
      generalize hu : sI (sI s 20 1 (-1)) 20 4 0 = u
      have fu : Fr (fun a q => a = 20 ∧ (q = 1 ∨ q = 4)) s u := by rw [← hu]; exact fr_trans (fr_I (by omega)) (fr_I (by omega))
      refine k_c (pM2 (c := s0.1 242 6) (lg := dlG s0.1) (s0 := u) b8 ?_ ?_ (fun _ _ => dlG_in) (s0.1 242 6).toNat zRf2 0 0 0 0 (fun _ => 0) u (by omega) (by omega) (by unfold zRf2; omega) fr_refl (fun w w0 w1 => by omega) (fun w w0 w1 => by omega) (by omega) (by omega) ?_ rfl rfl (Or.inl ⟨?_, ?_⟩)) ?_
      · rw [fu.1 20 5 (by omega)]; exact h5
      · intro v p v0 v1 p0 p1
        rw [fu.1 23 _ (by omega), hT v p v0 (by omega) p0 p1, if_pos (by omega)]
      · intro p p0 p1
        have : zAnd (zShr 0 p) 1 = 0 := by
          have hp : p = 0 ∨ p = 1 ∨ p = 2 ∨ p = 3 ∨ p = 4 ∨ p = 5 ∨ p = 6 ∨ p = 7 := by omega
          rcases hp with rfl | rfl | rfl | rfl | rfl | rfl | rfl | rfl <;> decide +kernel
        exact ⟨fun z => absurd this z, fun z => by obtain ⟨v, v0, v1, _⟩ := z; omega⟩
      · rintro r ⟨_, v, v0, v1, _⟩
        omega
      · rw [← hu, sI_k (by omega), sI_e]
      · intro _ t ht
        obtain ⟨t1, t2, _⟩ := ht
        refine k_r ⟨?_, fr_trans hs (fr_trans (fr_mono (fun a q z => Or.inr (by omega)) fu) (fr_mono (fun a q z => Or.inr (by omega)) t2))⟩
        have t1 := dlB_iff (P' := dlQ (s0.1 242 6) (dlG s0.1)) (fun r => ⟨fun z => z.1, fun z => ⟨z, Or.inr (fun w w0 w1 => by omega)⟩⟩) t1
        rcases t1 with ⟨t1, _⟩ | t1
        · exact absurd (fun w _ _ => ⟨by show (0 : Int) ≤ 0; omega, by show (0 : Int) ≤ 8; omega, fun z => absurd rfl z, fun _ _ _ z => absurd rfl z⟩) (t1 (fun _ => 0))
        · exact ⟨t1.1, t1.2.1⟩
    | succ j =>
      refine k_p (by omega) (p1_34 hR w0 (by omega) zFu (s0.1 254 28).toNat 0 s (by omega) (by omega) (by unfold zFu; omega) hT hs (fun t t1 t2 t3 => ?_))
      exact ih j (w + 1) t (by omega) (by omega) (by omega) t1 (by rw [t3]; exact h5) t2
theorem p1 {n0 : Nat} {s : zS} (hR : R n0 s) : Ok (m1 28 (s.2.2 1) s) (fun _ t => dlCl s.1 t ∧ Fr (dgF (s.2.2 1)) s t) := by
  have hLL := R_LL hR
  obtain ⟨b1, b2, b3, b4, b5, b6, b7, b8, b9, b10⟩ := R_cnt hR
  unfold m1
  refine k_v (k_v ?_)
  rw [b6]
  refine k_c (p293m (m := 48) (a := 23) (by omega)) ?_
  intro _ t ht
  have ft : Fr (dgF (s.2.2 1)) s t := fr_trans (fr_I (Or.inr (by omega))) (fr_mono (fun a q z => Or.inr (by omega)) ht.2)
  refine p1_22 hR zFu (s.1 242 6).toNat 0 t (by omega) (by omega) (by unfold zFu; omega) ?_ ?_ ft
  · intro v p v0 v1 p0 p1
    rw [ht.1 _ (by omega) (by omega), if_neg (by omega)]
    split
    · unfold dlK shL; split <;> rfl
    · rfl
  · rw [ht.2.1 20 5 (by omega), sI_e]
