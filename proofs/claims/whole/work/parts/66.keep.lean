/-! ===== acts: what is kept, the reference's shelf ===== -/
section
variable {s : zS} {w k c law : Int}
/-- the reference takes one off its shelf -/
theorem p196_23 {v : Int} {s0 : zS} (k0 : 0 ≤ k) (c1 : c ≤ 8) : ∀ (n j : Nat) (i : Int) (s : zS), i = c - 1 - (j : Int) → k ≤ i → j < n → s.1 254 28 = c - 1 → (∀ q, 0 ≤ q → q < i → s.1 254 (29 + q) = if q < k then s0.1 254 (29 + q) else s0.1 254 (29 + (q + 1))) → (∀ q, i ≤ q → s.1 254 (29 + q) = s0.1 254 (29 + q)) → Fr (fun a q => a = 254 ∧ 28 ≤ q) s0 s → Ok (m196_23 n v i s) (fun r t => r = v ∧ t.1 254 28 = c - 1 ∧ (∀ q, 0 ≤ q → q < c - 1 → t.1 254 (29 + q) = if q < k then s0.1 254 (29 + q) else s0.1 254 (29 + (q + 1))) ∧ Fr (fun a q => a = 254 ∧ 28 ≤ q) s0 t ∧ ∀ q, c - 1 ≤ q → t.1 254 (29 + q) = s0.1 254 (29 + q)) := by
  intro n
  induction n with
  | zero => intro j i s _ _ h; omega
  | succ n ih =>
    intro j i s hi ki hj h5 hlo hhi hf
    rw [m196_23]
    refine k_x (by omega) (by omega) (k_v ?_)
    rw [h5]
    cases j with
    | zero =>
      refine k_q (by omega) (k_r ⟨rfl, h5, fun q q0 q1 => hlo q q0 (by omega), hf, fun q q0 => hhi q (by omega)⟩)
    | succ j =>
      refine k_p (by omega) (k_z (by omega) (by omega) (k_z (by omega) (by omega) (k_z (by omega) (by omega) (k_x (by omega) (by omega) (k_v (k_x (by omega) (by omega) (k_v (k_z (by omega) (by omega) ?_))))))))
      refine ih j (i + 1) _ (by omega) (by omega) (by omega) (by rw [sI_k (by omega)]; exact h5) (fun q q0 q1 => ?_) (fun q q0 => ?_) (fr_trans hf (fr_I (by omega)))
      · by_cases e : q = i
        · rw [e, sI_e, if_neg (by omega), show 29 + i + 1 = 29 + (i + 1) by omega, hhi (i + 1) (by omega)]
        · rw [sI_k (by omega)]; exact hlo q q0 (by omega)
      · rw [sI_k (by omega)]; exact hhi q (by omega)
theorem p196 (h : s.1 254 28 = c) (k0 : 0 ≤ k) (k1 : k < c) (c1 : c ≤ 8) : Ok (m196 k s) (fun r t => r = s.1 254 (29 + k) ∧ t.1 254 28 = c - 1 ∧ (∀ q, 0 ≤ q → q < c - 1 → t.1 254 (29 + q) = if q < k then s.1 254 (29 + q) else s.1 254 (29 + (q + 1))) ∧ Fr (fun a q => a = 254 ∧ 28 ≤ q) s t ∧ ∀ q, c - 1 ≤ q → t.1 254 (29 + q) = s.1 254 (29 + q)) := by
  unfold m196
  refine k_z (by omega) (by omega) (k_x (by omega) (by omega) (k_v (k_x (by omega) (by omega) (k_v ?_))))
  rw [h]
  refine k_z (by omega) (by omega) (k_x (by omega) (by omega) (k_v ?_))
  refine p196_23 (s0 := s) k0 c1 zFu (c - 1 - k).toNat k _ (by omega) (by omega) (by unfold zFu; omega) sI_e (fun q q0 q1 => ?_) (fun q q0 => ?_) (fr_I (by omega))
  · rw [if_pos q1, sI_k (by omega)]
  · by_cases e : 29 + q = 28
    · omega
    · rw [sI_k (by omega)]
theorem e195 {x : Int} (h : s.1 254 28 = c) (c0 : 0 ≤ c) (c1 : c < 8) : m195 x s = some (0, sI (sI s 254 (29 + c) x) 254 28 (c + 1)) := by
  unfold m195
  rw [oX_pos (by omega) (by omega), oV_eq, h, oZ_pos (by omega) (by omega), oX_pos (by omega) (by omega), oV_eq, oX_pos (by omega) (by omega), sI_k (by omega), oV_eq, h, oZ_pos (by omega) (by omega), oX_pos (by omega) (by omega), oV_eq]
/-- the three cells of a walker -/
theorem p_wset {x1 x2 x3 r : Int} {P : Int → zS → Prop} (w0 : 0 ≤ w) (w1 : w ≤ 5) (h : P r (sI (sI (sI s 254 (10 + 3 * w) x1) 254 (11 + 3 * w) x2) 254 (12 + 3 * w) x3)) : Ok (oZ ((3 : Int) * w) fun z13 => oZ ((10 : Int) + z13) fun z15 => oX z15 37 (oV (sI s 254 z15 x1) fun s17 => oZ ((3 : Int) * w) fun z19 => oZ ((10 : Int) + z19) fun z21 => oZ (z21 + (1 : Int)) fun z23 => oX z23 37 (oV (sI s17 254 z23 x2) fun s25 => oZ ((3 : Int) * w) fun z27 => oZ ((10 : Int) + z27) fun z29 => oZ (z29 + (2 : Int)) fun z31 => oX z31 37 (oV (sI s25 254 z31 x3) fun s33 => some (r, s33))))) P := by
  refine k_z (by omega) (by omega) (k_z (by omega) (by omega) (k_x (by omega) (by omega) (k_v (k_z (by omega) (by omega) (k_z (by omega) (by omega) (k_z (by omega) (by omega) (k_x (by omega) (by omega) (k_v (k_z (by omega) (by omega) (k_z (by omega) (by omega) (k_z (by omega) (by omega) (k_x (by omega) (by omega) (k_v (k_r ?_))))))))))))))
  rw [show 10 + 3 * w + 1 = 11 + 3 * w by omega, show 10 + 3 * w + 2 = 12 + 3 * w by omega]
  exact h
/-- the reference: one takes the pair at k and leaves his own -/
theorem p228 (hm : mLand s.1) (hI : nInv (s.1 242 4) (s.1 242 5) (s.1 242 6) (fun i => s.1 254 i)) (w0 : 0 ≤ w) (w1 : w < s.1 242 6) (hc : s.1 254 28 = c) (c0 : 1 ≤ c) (hl : law ≤ 2) :
    Ok (m228 w law s) (fun r t => r = s.1 254 (29 + chc (fun k => tgt s.1 w (s.1 254 (29 + k))) law c) ∧ (∀ i, 0 ≤ i → i < 37 → t.1 254 i = exN (fun i => s.1 254 i) w (chc (fun k => tgt s.1 w (s.1 254 (29 + k))) law c) c 1 i) ∧ Fr (fun a _ => a = 254) s t) := by
  obtain ⟨a1, a2, a3, a4, a5, a6⟩ := hm.1
  have h28 : s.1 254 28 = s.1 242 5 - s.1 242 6 := hI.2.2.2.2.1
  have hin := chc_in (g := fun k => tgt s.1 w (s.1 254 (29 + k))) (law := law) (c := c) c0
  unfold m228
  refine k_e (e214 hm w0 w1 (by omega) (by omega) hl (fun k k0 k1 => hI.2.2.2.2.2.1 k k0 (by omega))) ?_
  rw [hc]
  generalize chc (fun k => tgt s.1 w (s.1 254 (29 + k))) law c = k at *
  refine k_c (p196 (c := c) hc hin.1 hin.2 (by omega)) ?_
  intro r u hu
  obtain ⟨u1, u2, u3, u4, u5⟩ := hu
  refine k_e (e188 w0 (by omega)) (k_e (e195 u2 (by omega) (by omega)) ?_)
  rw [u4.1 254 (10 + 3 * w) (by omega)]
  refine p_wset w0 (by omega) ⟨u1, fun i i0 i1 => ?_, fr_trans (fr_mono (fun a q z => z.1) u4) (fr_trans (fr_I rfl) (fr_trans (fr_I rfl) (fr_trans (fr_I rfl) (fr_trans (fr_I rfl) (fr_I rfl)))))⟩
  unfold exN
  by_cases e1 : i = 10 + 3 * w
  · rw [if_pos e1, if_pos (by omega), e1, sI_k (by omega), sI_k (by omega), sI_e, u1]
  rw [if_neg e1]
  by_cases e2 : i = 11 + 3 * w
  · rw [if_pos e2, e2, sI_k (by omega), sI_e]
  rw [if_neg e2]
  by_cases e3 : i = 12 + 3 * w
  · rw [if_pos e3, e3, sI_e]
  rw [if_neg e3, sI_k e3, sI_k e2, sI_k e1]
  by_cases e4 : 29 ≤ i ∧ i < 29 + c
  · rw [if_pos e4, sI_k (by omega)]
    by_cases e5 : i = 29 + (c - 1)
    · rw [if_neg (by omega), if_neg (by omega), e5, sI_e]
    · have := u3 (i - 29) (by omega) (by omega)
      rw [show 29 + (i - 29) = i by omega] at this
      rw [sI_k e5, this]
      by_cases e6 : i < 29 + k
      · rw [if_pos (by omega), if_pos e6]
      · rw [if_neg (by omega), if_neg e6, if_pos (by omega), show 29 + (i - 29 + 1) = i + 1 by omega]
  · rw [if_neg e4]
    by_cases e5 : i = 28
    · rw [e5, sI_e]; show c - 1 + 1 = s.1 254 28; omega
    · rw [sI_k e5, sI_k (by omega)]
      by_cases e6 : i < 28
      · exact u4.1 254 i (by omega)
      · have := u5 (i - 29) (by omega)
        rw [show 29 + (i - 29) = i by omega] at this
        exact this
/-- the reference: one gives his pair back, takes the first -/
theorem p242_x (hm : mLand s.1) (hI : nInv (s.1 242 4) (s.1 242 5) (s.1 242 6) (fun i => s.1 254 i)) (w0 : 0 ≤ w) (w1 : w < s.1 242 6) (hc : s.1 254 28 = c) {K : Int → zS → Option (Int × zS)} (hK : ∀ z u, K z u = (oZ ((3 : Int) * w) fun z13 => oZ ((10 : Int) + z13) fun z15 => oX z15 37 (oV (sI u 254 z15 z) fun s17 => oZ ((3 : Int) * w) fun z19 => oZ ((10 : Int) + z19) fun z21 => oZ (z21 + (1 : Int)) fun z23 => oX z23 37 (oV (sI s17 254 z23 0) fun s25 => oZ ((3 : Int) * w) fun z27 => oZ ((10 : Int) + z27) fun z29 => oZ (z29 + (2 : Int)) fun z31 => oX z31 37 (oV (sI s25 254 z31 0) fun s33 => some (z, s33)))))) :
    Ok (oC (m188 w s) fun z18 s19 => oC (m195 z18 s19) fun z21 s22 => oC (m196 (0 : Int) s22) fun z24 s25 => K z24 s25) (fun r t => r = exN (fun i => s.1 254 i) w 0 c 0 (10 + 3 * w) ∧ (∀ i, 0 ≤ i → i < 37 → i ≠ 29 + c → t.1 254 i = exN (fun i => s.1 254 i) w 0 c 0 i) ∧ Fr (fun a _ => a = 254) s t) := by
  obtain ⟨a1, a2, a3, a4, a5, a6⟩ := hm.1
  have h28 : s.1 254 28 = s.1 242 5 - s.1 242 6 := hI.2.2.2.2.1
  refine k_e (e188 w0 (by omega)) (k_e (e195 hc (by omega) (by omega)) ?_)
  generalize hv : sI (sI s 254 (29 + c) (s.1 254 (10 + 3 * w))) 254 28 (c + 1) = v
  have fv : Fr (fun a q => a = 254 ∧ 28 ≤ q) s v := by rw [← hv]; exact fr_trans (fr_I (by omega)) (fr_I (by omega))
  have v28 : v.1 254 28 = c + 1 := by rw [← hv, sI_e]
  have vsh : ∀ q, 0 ≤ q → q < c + 1 → v.1 254 (29 + q) = if q < c then s.1 254 (29 + q) else s.1 254 (10 + 3 * w) := by
    intro q q0 q1
    by_cases e : q = c
    · rw [if_neg (by omega), e, ← hv, sI_k (by omega), sI_e]
    · rw [if_pos (by omega), ← hv, sI_k (by omega), sI_k (by omega)]
  have vhi : ∀ q, c < q → v.1 254 (29 + q) = s.1 254 (29 + q) := fun q q0 => by rw [← hv, sI_k (by omega), sI_k (by omega)]
  refine k_c (p196 (c := c + 1) v28 (by omega) (by omega) (by omega)) ?_
  intro r u hu
  obtain ⟨u1, u2, u3, u4, u5⟩ := hu
  have er : r = exN (fun i => s.1 254 i) w 0 c 0 (10 + 3 * w) := by
    rw [u1, vsh 0 (by omega) (by omega), exN_w w0 (by omega) w0 (by omega), if_pos rfl]
  rw [hK]
  refine p_wset w0 (by omega) ⟨er, fun i i0 i1 i2 => ?_, fr_trans (fr_mono (fun a q z => z.1) (fr_trans fv u4)) (fr_trans (fr_I rfl) (fr_trans (fr_I rfl) (fr_I rfl)))⟩
  by_cases e1 : i = 10 + 3 * w
  · rw [e1, sI_k (by omega), sI_k (by omega), sI_e]; exact er
  unfold exN
  rw [if_neg e1]
  by_cases e2 : i = 11 + 3 * w
  · rw [if_pos e2, e2, sI_k (by omega), sI_e]
  rw [if_neg e2]
  by_cases e3 : i = 12 + 3 * w
  · rw [if_pos e3, e3, sI_e]
  rw [if_neg e3, sI_k e3, sI_k e2, sI_k e1]
  by_cases e4 : 29 ≤ i ∧ i < 29 + c
  · rw [if_pos e4, if_neg (by omega)]
    have := u3 (i - 29) (by omega) (by omega)
    rw [show 29 + (i - 29) = i by omega, if_neg (by omega), vsh _ (by omega) (by omega)] at this
    rw [this]
    by_cases e5 : i < 28 + c
    · rw [if_pos (by omega), if_pos e5, show 29 + (i - 29 + 1) = i + 1 by omega]
    · rw [if_neg (by omega), if_neg e5]
  · rw [if_neg e4]
    by_cases e5 : i = 28
    · rw [e5, u2]; show c + 1 - 1 = s.1 254 28; omega
    · by_cases e6 : i < 28
      · rw [u4.1 254 i (by omega)]; exact fv.1 254 i (by omega)
      · have := u5 (i - 29) (by omega)
        rw [show 29 + (i - 29) = i by omega] at this
        rw [this]
        have := vhi (i - 29) (by omega)
        rw [show 29 + (i - 29) = i by omega] at this
        exact this
end
/-- the class keeps what is now -/
theorem p145 {n : Nat} {s : zS} (hR : R n s) : Ok (m145 s) (fun _ t => t.1 0 17 = (if s.1 0 17 < 20 then s.1 0 17 + 1 else s.1 0 17) ∧ t.1 0 16 = (if s.1 0 17 < 20 then s.1 0 16 else (s.1 0 16 + 1) % 20) ∧ sRel t.1 (89 + 6 * ((s.1 0 16 + s.1 0 17) % 20).toNat) (fun i => s.1 254 i) ∧ Fr (fun a q => (89 + 6 * ((s.1 0 16 + s.1 0 17) % 20).toNat ≤ a ∧ a ≤ 94 + 6 * ((s.1 0 16 + s.1 0 17) % 20).toNat) ∨ (a = 0 ∧ (q = 16 ∨ q = 17))) s t) := by
  obtain ⟨q1, q2, q3, q4, q5, q6, q7, q8⟩ := R_past hR
  obtain ⟨b1, b2, b3, b4, b5, b6, b7, b8, b9, b10⟩ := R_cnt hR
  obtain ⟨hN, hI⟩ := R_now hR
  obtain ⟨z1, z2, z3, z4, z5, z6⟩ := hN
  have h28 := R_28 hR
  unfold m145
  refine k_v (k_v (k_z (by omega) (by omega) (k_n (by decide) (k_v ?_))))
  rw [Int.tmod_eq_emod_of_nonneg (by omega)]
  generalize hsl : (s.1 0 16 + s.1 0 17) % 20 = sl
  have sl0 : 0 ≤ sl ∧ sl < 20 := by omega
  refine k_x (by omega) (by omega) (k_v (k_c (p56 (A := 89 + 6 * sl.toNat) (B := 28) (Or.inr (by omega))) ?_))
  intro _ t ht
  obtain ⟨c1, c2, c3, c4, c5, c6, c7⟩ := ht
  have g : ∀ q, t.1 0 q = s.1 0 q := fun q => c7.1 0 q (by omega)
  have rel : ∀ u : zS, (∀ a q, a ≠ 0 → u.1 a q = t.1 a q) → sRel u.1 (89 + 6 * sl.toNat) (fun i => s.1 254 i) := by
    intro u hu
    have h242 : ∀ q, u.1 242 q = s.1 242 q := fun q => by rw [hu _ _ (by omega)]; exact c7.1 242 q (by omega)
    refine ⟨?_, ?_, ?_, ?_, ?_, ?_⟩
    · rw [hu _ _ (by omega), c5]; exact z1
    · rw [hu _ _ (by omega), c6]; exact z2
    · intro p p0 p1
      rw [h242] at p1
      rw [hu _ _ (by omega), c1 p p0 (by omega)]; exact z3 p p0 p1
    · intro v v0 v1
      rw [h242] at v1
      have := c2 v v0 (by omega)
      rw [hu _ _ (by omega), hu _ _ (by omega), hu _ _ (by omega), this.1, this.2.1, this.2.2]; exact z4 v v0 v1
    · rw [hu _ _ (by omega), c4]; exact z5
    · intro k k0 k1
      have k1' : k < s.1 254 28 := k1
      rw [hu _ _ (by omega), c3 k k0 (by omega)]; exact z6 k k0 k1
  have fr0 : Fr (fun a q => (89 + 6 * sl.toNat ≤ a ∧ a ≤ 94 + 6 * sl.toNat) ∨ (a = 0 ∧ (q = 16 ∨ q = 17))) s t := fr_mono (fun a q z => by omega) c7
  refine k_v ?_
  rw [g 17]
  refine k_i (fun c => ?_) (fun c => ?_)
  · refine k_v ?_
    refine k_z (by omega) (by omega) (k_v (k_r ?_))
    rw [if_pos c, if_pos c]
    exact ⟨sI_e, by rw [sI_k (by omega)]; exact g 16, rel _ (fun a q h => sI_a h), fr_trans fr0 (fr_I (by omega))⟩
  · refine k_v ?_
    rw [g 16]
    refine k_z (by omega) (by omega) (k_n (by decide) (k_v (k_v (k_r ?_))))
    rw [if_neg c, if_neg c, Int.tmod_eq_emod_of_nonneg (by omega)]
    exact ⟨by rw [sI_k (by omega)]; exact g 17, sI_e, rel _ (fun a q h => sI_a h), fr_trans fr0 (fr_I (by omega))⟩
/-- the reference keeps what is now -/
theorem p239_15 {s0 : zS} {nw : Int} (n0 : 0 ≤ nw) (n1 : nw < 20) (u0 : 0 ≤ s0.1 209 74) (u1 : s0.1 209 74 ≤ 20) : ∀ (n j : Nat) (s : zS), j ≤ 37 → 37 - j < n → s.1 209 75 = nw → (∀ i, 0 ≤ i → i < (j : Int) → s.1 262 (37 * nw + i) = s0.1 254 i) → (∀ a q, ¬ (a = 262 ∧ 37 * nw ≤ q ∧ q < 37 * nw + 37) → ¬ (a = 209 ∧ q = 75) → s.1 a q = s0.1 a q) → s.2 = s0.2 → Ok (m239_15 n (j : Int) s) (fun _ t => t.1 209 75 = nw ∧ t.1 209 74 = (if s0.1 209 74 < 20 then s0.1 209 74 + 1 else s0.1 209 74) ∧ (∀ i, 0 ≤ i → i < 37 → t.1 262 (37 * nw + i) = s0.1 254 i) ∧ (∀ a q, ¬ (a = 262 ∧ 37 * nw ≤ q ∧ q < 37 * nw + 37) → ¬ (a = 209 ∧ (q = 74 ∨ q = 75)) → t.1 a q = s0.1 a q) ∧ t.2 = s0.2) := by
  intro n
  induction n with
  | zero => intro j s h1 h2; omega
  | succ n ih =>
    intro j s h1 h2 h75 hk hf hM
    rw [m239_15]
    by_cases hj : j = 37
    · subst hj
      refine k_q (by omega) (k_v ?_)
      rw [hf 209 74 (by omega) (by omega)]
      refine k_i (fun c => ?_) (fun c => ?_)
      · refine k_v ?_
        refine k_z (by omega) (by omega) (k_v (k_r ⟨by rw [sI_k (by omega)]; exact h75, by rw [sI_e, if_pos c], fun i i0 i1 => by rw [sI_a (by omega)]; exact hk i i0 i1, fun a q m1 m2 => by rw [sI_if, if_neg (by omega)]; exact hf a q m1 (by omega), hM⟩))
      · refine k_r ⟨h75, by rw [if_neg c]; exact hf 209 74 (by omega) (by omega), hk, fun a q m1 m2 => hf a q m1 (by omega), hM⟩
    · refine k_p (by omega) (k_v ?_)
      rw [h75]
      refine k_z (by omega) (by omega) (k_z (by omega) (by omega) (k_x (by omega) (by omega) (k_v (k_x (by omega) (by omega) (k_v (k_z (by omega) (by omega) ?_))))))
      refine ih (j + 1) _ (by omega) (by omega) (by rw [sI_a (by omega)]; exact h75) (fun i i0 i1 => ?_) (fun a q m1 m2 => ?_) hM
      · by_cases e : i = (j : Int)
        · rw [e, sI_e]; exact hf 254 _ (by omega) (by omega)
        · rw [sI_k (by omega)]; exact hk i i0 (by omega)
      · rw [sI_if, if_neg (by omega)]; exact hf a q m1 m2
theorem p239 {s : zS} (n0 : 0 ≤ s.1 209 75) (n1 : s.1 209 75 < 20) (u0 : 0 ≤ s.1 209 74) (u1 : s.1 209 74 ≤ 20) : Ok (m239 s) (fun _ t => t.1 209 75 = (s.1 209 75 + 1) % 20 ∧ t.1 209 74 = (if s.1 209 74 < 20 then s.1 209 74 + 1 else s.1 209 74) ∧ (∀ i, 0 ≤ i → i < 37 → t.1 262 (37 * ((s.1 209 75 + 1) % 20) + i) = s.1 254 i) ∧ (∀ a q, ¬ (a = 262 ∧ 37 * ((s.1 209 75 + 1) % 20) ≤ q ∧ q < 37 * ((s.1 209 75 + 1) % 20) + 37) → ¬ (a = 209 ∧ (q = 74 ∨ q = 75)) → t.1 a q = s.1 a q) ∧ t.2 = s.2) := by
  unfold m239
  refine k_v (k_z (by omega) (by omega) (k_n (by decide) (k_v (k_v ?_))))
  rw [Int.tmod_eq_emod_of_nonneg (by omega)]
  have e74 : (sI s 209 75 ((s.1 209 75 + 1) % 20)).1 209 74 = s.1 209 74 := sI_k (by omega)
  refine k_m (p239_15 (s0 := sI s 209 75 ((s.1 209 75 + 1) % 20)) (nw := (s.1 209 75 + 1) % 20) (by omega) (by omega) (by rw [e74]; exact u0) (by rw [e74]; exact u1) zFu 0 _ (by omega) (by unfold zFu; omega) sI_e (fun i i0 i1 => by omega) (fun a q _ _ => rfl) rfl) ?_
  intro _ t ht
  obtain ⟨h1, h2, h3, h4, h5⟩ := ht
  rw [e74] at h2
  refine ⟨h1, h2, fun i i0 i1 => ?_, fun a q m1 m2 => ?_, h5⟩
  · rw [h3 i i0 i1, sI_a (by omega)]
  · rw [h4 a q m1 m2, sI_if, if_neg (by omega)]
/-- both have kept it -/
theorem past_keep {f g : Nat → Int → Int} {L : Nat} (hc : rCount f L) (h242 : ∀ k, g 242 k = f 242 k) (hp : rPast f) (hI : nInv (f 242 4) (f 242 5) (f 242 6) (fun i => f 254 i))
    (e17 : g 0 17 = (if f 0 17 < 20 then f 0 17 + 1 else f 0 17)) (e16 : g 0 16 = (if f 0 17 < 20 then f 0 16 else (f 0 16 + 1) % 20))
    (hs : sRel g (89 + 6 * ((f 0 16 + f 0 17) % 20).toNat) (fun i => f 254 i)) (hso : ∀ a k, 89 ≤ a → a ≤ 208 → ¬ (89 + 6 * ((f 0 16 + f 0 17) % 20).toNat ≤ a ∧ a ≤ 94 + 6 * ((f 0 16 + f 0 17) % 20).toNat) → g a k = f a k)
    (e75 : g 209 75 = (f 209 75 + 1) % 20) (e74 : g 209 74 = (if f 209 74 < 20 then f 209 74 + 1 else f 209 74)) (hk : ∀ i, 0 ≤ i → i < 37 → g 262 (37 * ((f 209 75 + 1) % 20) + i) = f 254 i) (hko : ∀ q, ¬ (37 * ((f 209 75 + 1) % 20) ≤ q ∧ q < 37 * ((f 209 75 + 1) % 20) + 37) → g 262 q = f 262 q) : rPast g := by
  obtain ⟨q1, q2, q3, q4, q5, q6, q7, q8⟩ := hp
  obtain ⟨a1, a2, a3, a4, a5, a6, a7, a8, a9, a10⟩ := hc
  have hN28 : f 254 28 = f 242 5 - f 242 6 := hI.2.2.2.2.1
  refine ⟨?_, ?_, ?_, ?_, ?_, ?_, ?_, ?_⟩
  · rw [e16]; split <;> omega
  · rw [e16]; split <;> omega
  · rw [e17]; split <;> omega
  · rw [e17]; split <;> omega
  · rw [e17, e74, q5]
  · rw [e75]; omega
  · rw [e75]; omega
  · intro j j0 j1
    have hj20 : j < 20 := by rw [e17] at j1; split at j1 <;> omega
    have hslot : (g 0 16 + g 0 17 - 1 - j) % 20 = (f 0 16 + f 0 17 - j) % 20 := by rw [e16, e17]; split <;> omega
    rw [hslot, e75]
    by_cases e : j = 0
    · subst e
      rw [show (f 0 16 + f 0 17 - 0) % 20 = (f 0 16 + f 0 17) % 20 by omega, show ((f 209 75 + 1) % 20 - 0) % 20 = (f 209 75 + 1) % 20 by omega]
      refine ⟨?_, ?_⟩
      · refine sRel_eq (g := g) (f := g) rfl rfl (fun a k _ _ => rfl) (fun i i0 i1 => hk i i0 i1) (by rw [h242]; exact a5) (by rw [h242]; exact a8) (by show f 254 28 ≤ 8; omega) hs
      · rw [h242, h242, h242]
        exact nInv_eq a5 a7 a8 (fun i i0 i1 => hk i i0 i1) hI
    · have hj' : j - 1 < f 0 17 := by rw [e17] at j1; split at j1 <;> omega
      obtain ⟨z1, z2⟩ := q8 (j - 1) (by omega) hj'
      have s1 : (f 0 16 + f 0 17 - 1 - (j - 1)) % 20 = (f 0 16 + f 0 17 - j) % 20 := by omega
      have s2 : (f 209 75 - (j - 1)) % 20 = ((f 209 75 + 1) % 20 - j) % 20 := by omega
      rw [s1, s2] at z1
      rw [s2] at z2
      have d1 : (f 0 16 + f 0 17 - j) % 20 ≠ (f 0 16 + f 0 17) % 20 := by omega
      have d2 : ((f 209 75 + 1) % 20 - j) % 20 ≠ (f 209 75 + 1) % 20 := by omega
      have z28 : f 262 (37 * (((f 209 75 + 1) % 20 - j) % 20) + 28) = f 242 5 - f 242 6 := z2.2.2.2.2.1
      generalize hA : (f 0 16 + f 0 17 - j) % 20 = sa at *
      generalize hB : (f 0 16 + f 0 17) % 20 = sb at *
      generalize hC : ((f 209 75 + 1) % 20 - j) % 20 = sc at *
      generalize hD : (f 209 75 + 1) % 20 = sd at *
      have r1 : 0 ≤ sa ∧ sa < 20 := by omega
      have r2 : 0 ≤ sb ∧ sb < 20 := by omega
      have r3 : 0 ≤ sc ∧ sc < 20 := by omega
      have r4 : 0 ≤ sd ∧ sd < 20 := by omega
      have hcell : ∀ i, 0 ≤ i → i < 37 → g 262 (37 * sc + i) = f 262 (37 * sc + i) := fun i i0 i1 => hko _ (by omega)
      refine ⟨?_, ?_⟩
      · refine sRel_eq (h242 5) (h242 6) (fun a k y1 y2 => hso a k (by omega) (by omega) (by omega)) (fun i i0 i1 => hcell i i0 i1) a5 a8 (by show f 262 (37 * sc + 28) ≤ 8; omega) z1
      · rw [h242, h242, h242]
        exact nInv_eq a5 a7 a8 (fun i i0 i1 => hcell i i0 i1) z2
