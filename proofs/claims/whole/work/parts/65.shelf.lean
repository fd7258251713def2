/-! ===== pairs change hands ===== -/
/-- a row behind it: walker w has the pair at k of the c on the shelf, his own one comes behind all -/
def exN (N : Int → Int) (w k c at' : Int) (i : Int) : Int := if i = 10 + 3 * w then (if 0 < c then N (29 + k) else N (10 + 3 * w)) else if i = 11 + 3 * w then at' else if i = 12 + 3 * w then 0 else if 29 ≤ i ∧ i < 29 + c then (if i < 29 + k then N i else if i < 28 + c then N (i + 1) else N (10 + 3 * w)) else N i
section
variable {N : Int → Int} {w k c q : Int}
theorem exN_0 (w0 : 0 ≤ w) (w1 : w ≤ 5) {i : Int} (h : i < 10 ∨ i = 28) : exN N w k c q i = N i := by
  unfold exN
  rw [if_neg (by omega), if_neg (by omega), if_neg (by omega), if_neg (by omega)]
theorem exN_w (w0 : 0 ≤ w) (w1 : w ≤ 5) {v : Int} (v0 : 0 ≤ v) (v1 : v ≤ 5) : exN N w k c q (10 + 3 * v) = if v = w then (if 0 < c then N (29 + k) else N (10 + 3 * w)) else N (10 + 3 * v) := by
  unfold exN
  by_cases e : v = w
  · rw [if_pos (by omega), if_pos e]
  · rw [if_neg (by omega), if_neg (by omega), if_neg (by omega), if_neg (by omega), if_neg e]
theorem exN_a (w0 : 0 ≤ w) (w1 : w ≤ 5) {v : Int} (v0 : 0 ≤ v) (v1 : v ≤ 5) : exN N w k c q (11 + 3 * v) = if v = w then q else N (11 + 3 * v) := by
  unfold exN
  by_cases e : v = w
  · rw [if_neg (by omega), if_pos (by omega), if_pos e]
  · rw [if_neg (by omega), if_neg (by omega), if_neg (by omega), if_neg (by omega), if_neg e]
theorem exN_l (w0 : 0 ≤ w) (w1 : w ≤ 5) {v : Int} (v0 : 0 ≤ v) (v1 : v ≤ 5) : exN N w k c q (12 + 3 * v) = if v = w then 0 else N (12 + 3 * v) := by
  unfold exN
  by_cases e : v = w
  · rw [if_neg (by omega), if_neg (by omega), if_pos (by omega), if_pos e]
  · rw [if_neg (by omega), if_neg (by omega), if_neg (by omega), if_neg (by omega), if_neg e]
theorem exN_s (w0 : 0 ≤ w) (w1 : w ≤ 5) {i : Int} (i0 : 0 ≤ i) (i1 : i < c) : exN N w k c q (29 + i) = if i < k then N (29 + i) else if i < c - 1 then N (29 + (i + 1)) else N (10 + 3 * w) := by
  unfold exN
  rw [if_neg (by omega), if_neg (by omega), if_neg (by omega), if_pos (by omega)]
  by_cases e : i < k
  · rw [if_pos (by omega), if_pos e]
  · rw [if_neg (by omega), if_neg e]
    by_cases e2 : i < c - 1
    · rw [if_pos (by omega), if_pos e2, show 29 + i + 1 = 29 + (i + 1) by omega]
    · rw [if_neg (by omega), if_neg e2]
theorem nInv_ex {a b d : Int} (hb : b ≤ 8) (hd : d ≤ 6) (w0 : 0 ≤ w) (w1 : w < d) (hc : c = b - d) (k0 : 0 ≤ k) (k1 : k < c ∨ k = 0) (q0 : 0 ≤ q) (q1 : q ≤ a) (h : nInv a b d N) : nInv a b d (exN N w k c q) := by
  obtain ⟨z1, z2, z3, z4, z5, z6, z7, z8, z9⟩ := h
  have w5 : w ≤ 5 := by omega
  have y7 : ∀ v v', 0 ≤ v → v < d → 0 ≤ v' → v' < d → v ≠ v' → N (10 + 3 * v) ≠ N (10 + 3 * v') := by
    intro v v' v0 v1 v2 v3 ne
    by_cases lt : v < v'
    · exact z7 v v' v0 lt v3
    · exact fun z => z7 v' v v2 (by omega) v1 z.symm
  refine ⟨?_, ?_, ?_, ?_, ?_, ?_, ?_, ?_, ?_⟩
  · rw [exN_0 w0 w5 (by omega)]; exact z1
  · rw [exN_0 w0 w5 (by omega)]; exact z2
  · intro p p0 p1
    rw [exN_0 w0 w5 (by omega)]; exact z3 p p0 p1
  · intro v v0 v1
    rw [exN_w w0 w5 v0 (by omega), exN_a w0 w5 v0 (by omega), exN_l w0 w5 v0 (by omega)]
    have y1 := z4 v v0 v1
    have y2 := z4 w w0 w1
    by_cases e : v = w
    · rw [if_pos e, if_pos e, if_pos e]
      by_cases hc0 : 0 < c
      · rw [if_pos hc0]
        have := z6 k k0 (by omega)
        exact ⟨this.1, this.2, q0, q1, by omega, by omega⟩
      · rw [if_neg hc0]
        exact ⟨y2.1, y2.2.1, q0, q1, by omega, by omega⟩
    · rw [if_neg e, if_neg e, if_neg e]; exact y1
  · rw [exN_0 w0 w5 (by omega)]; exact z5
  · intro i i0 i1
    rw [exN_s w0 w5 i0 (by omega)]
    have y2 := z4 w w0 w1
    repeat' split
    · exact z6 i i0 i1
    · exact z6 (i + 1) (by omega) (by omega)
    · exact ⟨y2.1, y2.2.1⟩
  · intro v v' v0 v1 v2
    rw [exN_w w0 w5 v0 (by omega), exN_w w0 w5 (by omega) (by omega)]
    repeat' split
    all_goals first | (exfalso; omega) | exact y7 _ _ (by omega) (by omega) (by omega) (by omega) (by omega) | exact z9 _ _ (by omega) (by omega) (by omega) (by omega) | exact fun z => z9 _ _ (by omega) (by omega) (by omega) (by omega) z.symm
  · intro i j i0 i1 i2
    rw [exN_s w0 w5 i0 (by omega), exN_s w0 w5 (by omega) (by omega)]
    repeat' split
    all_goals first | (exfalso; omega) | exact z8 _ _ (by omega) (by omega) (by omega) | exact fun z => z8 _ _ (by omega) (by omega) (by omega) z.symm | exact z9 _ _ (by omega) (by omega) (by omega) (by omega) | exact fun z => z9 _ _ (by omega) (by omega) (by omega) (by omega) z.symm
  · intro v i v0 v1 i0 i1
    rw [exN_w w0 w5 v0 (by omega), exN_s w0 w5 i0 (by omega)]
    repeat' split
    all_goals first | (exfalso; omega) | exact z9 _ _ (by omega) (by omega) (by omega) (by omega) | exact fun z => z9 _ _ (by omega) (by omega) (by omega) (by omega) z.symm | exact z8 _ _ (by omega) (by omega) (by omega) | exact fun z => z8 _ _ (by omega) (by omega) (by omega) z.symm | exact y7 _ _ (by omega) (by omega) (by omega) (by omega) (by omega)
end
section
variable {s : zS} {A L : Nat} {w k c law : Int}
theorem e59 {x : Int} (h : s.1 A 5 = c) (c0 : 0 ≤ c) (c1 : c < 8) : m59 A x s = some (0, sI (sI s (A + 5) c x) A 5 (c + 1)) := by
  unfold m59
  rw [oV_eq, h, if_pos c1, oV_eq, oX_pos c0 (by omega), oV_eq, sI_a (by omega), oV_eq, h, oZ_pos (by omega) (by omega), oV_eq]
theorem p60_19 {v : Int} {s0 : zS} (k0 : 0 ≤ k) (c1 : c ≤ 8) : ∀ (n j : Nat) (i : Int) (s : zS), i = c - 1 - (j : Int) → k ≤ i → j < n → s.1 A 5 = c - 1 → (∀ q, 0 ≤ q → q < i → s.1 (A + 5) q = if q < k then s0.1 (A + 5) q else s0.1 (A + 5) (q + 1)) → (∀ q, i ≤ q → s.1 (A + 5) q = s0.1 (A + 5) q) → Fr (fun a q => (a = A ∧ q = 5) ∨ a = A + 5) s0 s → Ok (m60_19 n A v i s) (fun r t => r = v ∧ t.1 A 5 = c - 1 ∧ (∀ q, 0 ≤ q → q < c - 1 → t.1 (A + 5) q = if q < k then s0.1 (A + 5) q else s0.1 (A + 5) (q + 1)) ∧ Fr (fun a q => (a = A ∧ q = 5) ∨ a = A + 5) s0 t) := by
  intro n
  induction n with
  | zero => intro j i s _ _ h; omega
  | succ n ih =>
    intro j i s hi ki hj h5 hlo hhi hf
    rw [m60_19]
    refine k_v ?_
    rw [h5]
    cases j with
    | zero =>
      refine k_q (by omega) (k_r ⟨rfl, h5, fun q q0 q1 => hlo q q0 (by omega), hf⟩)
    | succ j =>
      refine k_p (by omega) (k_z (by omega) (by omega) (k_x (by omega) (by omega) (k_v (k_x (by omega) (by omega) (k_v (k_z (by omega) (by omega) ?_))))))
      refine ih j (i + 1) _ (by omega) (by omega) (by omega) (by rw [sI_a (by omega)]; exact h5) (fun q q0 q1 => ?_) (fun q q0 => ?_) (fr_trans hf (fr_I (by omega)))
      · by_cases e : q = i
        · rw [e, sI_e, if_neg (by omega), hhi (i + 1) (by omega)]
        · rw [sI_k e]; exact hlo q q0 (by omega)
      · rw [sI_k (by omega)]; exact hhi q (by omega)
theorem p60 (h : s.1 A 5 = c) (k0 : 0 ≤ k) (k1 : k < c) (c1 : c ≤ 8) : Ok (m60 A k s) (fun r t => r = s.1 (A + 5) k ∧ t.1 A 5 = c - 1 ∧ (∀ q, 0 ≤ q → q < c - 1 → t.1 (A + 5) q = if q < k then s.1 (A + 5) q else s.1 (A + 5) (q + 1)) ∧ Fr (fun a q => (a = A ∧ q = 5) ∨ a = A + 5) s t) := by
  unfold m60
  refine k_x k0 (by omega) (k_v (k_v ?_))
  rw [h]
  refine k_z (by omega) (by omega) (k_v ?_)
  refine p60_19 (s0 := s) k0 c1 zFu (c - 1 - k).toNat k _ (by omega) (by omega) (by unfold zFu; omega) sI_e (fun q q0 q1 => ?_) (fun q q0 => ?_) (fr_I (by omega))
  · rw [if_pos q1, sI_a (by omega)]
  · rw [sI_a (by omega)]
abbrev xFr (A : Nat) (w : Int) (a : Nat) (q : Int) : Prop := (a = A ∧ q = 5) ∨ a = A + 5 ∨ ((a = A + 2 ∨ a = A + 3 ∨ a = A + 4) ∧ q = w)
/-- the class: one takes the pair at k and leaves his own -/
theorem p62 {N : Int → Int} (hL : rLand s.1 s.2.1 L) (hS : sRel s.1 A N) (hI : nInv (s.1 242 4) (s.1 242 5) (s.1 242 6) N) (hA : A + 5 < 242) (w0 : 0 ≤ w) (w1 : w < s.1 242 6) (hc : N 28 = c) (c0 : 1 ≤ c) :
    Ok (m62 A L w law s) (fun r t => r = N (29 + chc (fun k => tgt s.1 w (N (29 + k))) law c) ∧ sRel t.1 A (exN N w (chc (fun k => tgt s.1 w (N (29 + k))) law c) c 1) ∧ Fr (xFr A w) s t) := by
  obtain ⟨b1, b2, b3, b4, b5, b6, b7, b8, b9, b10⟩ := hL.1
  obtain ⟨z1, z2, z3, z4, z5, z6⟩ := hS
  have h28 : N 28 = s.1 242 5 - s.1 242 6 := hI.2.2.2.2.1
  have e : chc (fun k => tgt s.1 w (s.1 (A + 5) k)) law (s.1 A 5) = chc (fun k => tgt s.1 w (N (29 + k))) law c := by
    rw [z5, hc]
    unfold chc
    split
    · rfl
    · exact chs_congr (m := c) (fun k k0 k1 => by rw [z6 k k0 (by omega)]) _ 0 1 (by omega) (by omega) (by omega)
  have hin := chc_in (g := fun k => tgt s.1 w (N (29 + k))) (law := law) (c := c) c0
  unfold m62
  refine k_e (e61 hL w0 w1 (by omega) (by omega) (fun k k0 k1 => by rw [z6 k k0 (by omega)]; exact hI.2.2.2.2.2.1 k k0 (by omega))) ?_
  rw [e]
  generalize chc (fun k => tgt s.1 w (N (29 + k))) law c = k at *
  refine k_q (by omega) (k_c (p60 (c := c) (by omega) hin.1 hin.2 (by omega)) ?_)
  intro r u hu
  obtain ⟨u1, u2, u3, u4⟩ := hu
  refine k_x w0 (by omega) (k_v (k_e (e59 u2 (by omega) (by omega)) (k_x w0 (by omega) (k_v (k_x w0 (by omega) (k_v (k_x w0 (by omega) (k_v (k_r ?_)))))))))
  rw [u1, z6 k hin.1 (by omega), u4.1 (A + 2) w (by omega)]
  generalize ht : sI (sI (sI (sI (sI u (A + 5) (c - 1) (s.1 (A + 2) w)) A 5 (c - 1 + 1)) (A + 2) w (N (29 + k))) (A + 3) w 0) (A + 4) w 0 = t
  have ft : Fr (xFr A w) s t := by
    rw [← ht]
    exact fr_trans (fr_mono (fun a q z => by omega) u4) (fr_trans (fr_I (by omega)) (fr_trans (fr_I (by omega)) (fr_trans (fr_I (by omega)) (fr_trans (fr_I (by omega)) (fr_I (by omega))))))
  refine ⟨rfl, ?_, ft⟩
  have g242 : ∀ q, t.1 242 q = s.1 242 q := fun q => ft.1 242 q (by omega)
  refine ⟨?_, ?_, ?_, ?_, ?_, ?_⟩
  · rw [ft.1 A 6 (by omega), exN_0 w0 (by omega) (by omega)]; exact z1
  · rw [ft.1 A 7 (by omega), exN_0 w0 (by omega) (by omega)]; exact z2
  · intro p p0 p1
    rw [g242] at p1
    rw [ft.1 (A + 1) p (by omega), exN_0 w0 (by omega) (by omega)]; exact z3 p p0 p1
  · intro v v0 v1
    rw [g242] at v1
    rw [exN_w w0 (by omega) v0 (by omega), exN_a w0 (by omega) v0 (by omega), exN_l w0 (by omega) v0 (by omega)]
    have y := z4 v v0 v1
    by_cases ev : v = w
    · subst ev
      rw [if_pos rfl, if_pos rfl, if_pos rfl, if_pos (by omega)]
      refine ⟨?_, ?_, ?_⟩
      · rw [← ht, sI_a (by omega), sI_a (by omega), sI_e]
      · rw [← ht, sI_a (by omega), sI_e]; omega
      · rw [← ht, sI_e]
    · rw [if_neg ev, if_neg ev, if_neg ev, ft.1 (A + 2) v (by omega), ft.1 (A + 3) v (by omega), ft.1 (A + 4) v (by omega)]; exact y
  · rw [exN_0 w0 (by omega) (by omega), hc, ← ht, sI_a (by omega), sI_a (by omega), sI_a (by omega), sI_e]; omega
  · intro i i0 i1
    rw [exN_0 w0 (by omega) (by omega), hc] at i1
    rw [exN_s w0 (by omega) i0 i1, ← ht, sI_a (by omega), sI_a (by omega), sI_a (by omega), sI_a (by omega)]
    by_cases e1 : i = c - 1
    · rw [e1, sI_e, if_neg (by omega), if_neg (by omega)]; exact (z4 w w0 w1).1
    · rw [sI_k e1, u3 i i0 (by omega)]
      by_cases e2 : i < k
      · rw [if_pos e2, if_pos e2]; exact z6 i i0 (by omega)
      · rw [if_neg e2, if_neg e2, if_pos (by omega)]; exact z6 (i + 1) (by omega) (by omega)
/-- the class: one gives his pair back -/
theorem p63 {N : Int → Int} (hS : sRel s.1 A N) (hcn : rCount s.1 L) (hI : nInv (s.1 242 4) (s.1 242 5) (s.1 242 6) N) (hA : A + 5 < 242) (w0 : 0 ≤ w) (w1 : w < s.1 242 6) (hc : N 28 = c) :
    Ok (m63 A w s) (fun r t => r = exN N w 0 c 0 (10 + 3 * w) ∧ sRel t.1 A (exN N w 0 c 0) ∧ Fr (xFr A w) s t) := by
  obtain ⟨b1, b2, b3, b4, b5, b6, b7, b8, b9, b10⟩ := hcn
  obtain ⟨z1, z2, z3, z4, z5, z6⟩ := hS
  have h28 : N 28 = s.1 242 5 - s.1 242 6 := hI.2.2.2.2.1
  -- what stands behind the shelf's change
  have fin : ∀ u : zS, Fr (fun a q => (a = A ∧ q = 5) ∨ a = A + 5 ∨ (a = A + 2 ∧ q = w)) s u → u.1 A 5 = c → u.1 (A + 2) w = exN N w 0 c 0 (10 + 3 * w) → (∀ i, 0 ≤ i → i < c → u.1 (A + 5) i = exN N w 0 c 0 (29 + i)) → Ok (m63_30 A w u) (fun r t => r = exN N w 0 c 0 (10 + 3 * w) ∧ sRel t.1 A (exN N w 0 c 0) ∧ Fr (xFr A w) s t) := by
    intro u fu u5 u2 ush
    unfold m63_30
    refine k_x w0 (by omega) (k_v (k_x w0 (by omega) (k_v (k_x w0 (by omega) (k_v (k_r ?_))))))
    rw [sI_a (by omega), sI_a (by omega), u2]
    generalize ht : sI (sI u (A + 3) w (-1)) (A + 4) w 0 = t
    have ft : Fr (xFr A w) s t := by
      rw [← ht]
      exact fr_trans (fr_mono (fun a q z => by omega) fu) (fr_trans (fr_I (by omega)) (fr_I (by omega)))
    have g242 : ∀ q, t.1 242 q = s.1 242 q := fun q => ft.1 242 q (by omega)
    refine ⟨rfl, ⟨?_, ?_, ?_, ?_, ?_, ?_⟩, ft⟩
    · rw [ft.1 A 6 (by omega), exN_0 w0 (by omega) (by omega)]; exact z1
    · rw [ft.1 A 7 (by omega), exN_0 w0 (by omega) (by omega)]; exact z2
    · intro p p0 p1
      rw [g242] at p1
      rw [ft.1 (A + 1) p (by omega), exN_0 w0 (by omega) (by omega)]; exact z3 p p0 p1
    · intro v v0 v1
      rw [g242] at v1
      have y := z4 v v0 v1
      by_cases ev : v = w
      · subst ev
        refine ⟨?_, ?_, ?_⟩
        · rw [← ht, sI_a (by omega), sI_a (by omega)]; exact u2
        · rw [exN_a w0 (by omega) v0 (by omega), if_pos rfl, ← ht, sI_a (by omega), sI_e]; omega
        · rw [exN_l w0 (by omega) v0 (by omega), if_pos rfl, ← ht, sI_e]
      · rw [exN_w w0 (by omega) v0 (by omega), exN_a w0 (by omega) v0 (by omega), exN_l w0 (by omega) v0 (by omega), if_neg ev, if_neg ev, if_neg ev, ft.1 (A + 2) v (by omega), ft.1 (A + 3) v (by omega), ft.1 (A + 4) v (by omega)]; exact y
    · rw [exN_0 w0 (by omega) (by omega), hc, ← ht, sI_a (by omega), sI_a (by omega)]; exact u5
    · intro i i0 i1
      rw [exN_0 w0 (by omega) (by omega), hc] at i1
      rw [← ht, sI_a (by omega), sI_a (by omega)]; exact ush i i0 i1
  unfold m63
  refine k_x w0 (by omega) (k_v (k_v ?_))
  rw [z5, hc]
  refine k_i (fun c0 => ?_) (fun c0 => ?_)
  · refine k_c (p60 (c := c) (by omega) (by omega) c0 (by omega)) ?_
    intro r u hu
    obtain ⟨u1, u2, u3, u4⟩ := hu
    refine k_x w0 (by omega) (k_v (k_e (e59 (c := c - 1) (by rw [sI_a (by omega)]; exact u2) (by omega) (by omega)) ?_))
    refine fin _ ?_ ?_ ?_ ?_
    · exact fr_trans (fr_mono (fun a q z => by omega) u4) (fr_trans (fr_I (by omega)) (fr_trans (fr_I (by omega)) (fr_I (by omega))))
    · rw [sI_e]; omega
    · rw [sI_a (by omega), sI_a (by omega), sI_e, u1, exN_w w0 (by omega) w0 (by omega), if_pos rfl, if_pos c0]; exact z6 0 (by omega) (by omega)
    · intro i i0 i1
      rw [exN_s w0 (by omega) i0 i1, if_neg (by omega), sI_a (by omega)]
      by_cases e1 : i = c - 1
      · rw [e1, sI_e, if_neg (by omega)]; exact (z4 w w0 w1).1
      · rw [sI_k e1, sI_a (by omega), u3 i i0 (by omega), if_neg (by omega), if_pos (by omega)]; exact z6 (i + 1) (by omega) (by omega)
  · refine fin s fr_refl (by omega) ?_ (fun i i0 i1 => by omega)
    rw [exN_w w0 (by omega) w0 (by omega), if_pos rfl, if_neg c0]; exact (z4 w w0 w1).1
end
