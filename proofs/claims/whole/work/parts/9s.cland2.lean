/-! ===== the class tells a land: names that are new ===== -/
theorem nmRel_ext {l l' : Int → Int} {v : Int} (h : ∀ k : Int, 0 ≤ k → k < 6 → l k = l' k) (hn : nmRel l v) : nmRel l' v := by
  obtain ⟨n, n1, n6, a1, a2, a3⟩ := hn
  refine ⟨n, n1, n6, fun k k0 k1 => ?_, fun k k0 k1 => ?_, ?_⟩
  · rw [← h k k0 (by omega)]; exact a1 k k0 k1
  · rw [← h k (by omega) k1]; exact a2 k k0 k1
  · rw [a3]; exact nmV_congr n (fun k k0 k1 => h k k0 (by omega))
def nwR (g : Int → Int) (e : Int) (D : dL) (F E : Int) : (Int × Int) ⊕ (Int × Int × Int) := match lxNm g e F E with
  | .inl q => .inl q
  | .inr q => if dF D 0 q.1 ≠ -1 ∨ dF D 1 q.1 ≠ -1 ∨ dF D 2 q.1 ≠ -1 then .inl (3, F) else .inr q
theorem tNew_nw {g : Int → Int} {e F E : Int} {D : dL} {k : Int → Int → Int → dR} : tNew g e D F E k = match nwR g e D F E with
    | .inl q => .inl q
    | .inr q => k q.1 q.2.1 q.2.2 := by
  unfold tNew nwR
  rcases lxNm g e F E with q | q
  · rfl
  · dsimp only
    by_cases c : dF D 0 q.1 ≠ -1 ∨ dF D 1 q.1 ≠ -1 ∨ dF D 2 q.1 ≠ -1
    · rw [if_pos c, if_pos c]
    · rw [if_neg c, if_neg c]
theorem nwR_in {g : Int → Int} {e F E : Int} {D : dL} {q : Int × Int × Int} (hW : lxW g e F E) (h : nwR g e D F E = .inr q) : lxW g e q.2.1 q.2.2 ∧ F < q.2.1 ∧ tkK g e F E = 1 ∧ q.2.1 = nxF g e F ∧ q.2.2 = nxE g e F E := by
  unfold nwR at h
  rcases hz : lxNm g e F E with z | z
  · rw [hz] at h; exact absurd h (by simp)
  · rw [hz] at h
    have h : (if dF D 0 z.1 ≠ -1 ∨ dF D 1 z.1 ≠ -1 ∨ dF D 2 z.1 ≠ -1 then (.inl (3, F) : (Int × Int) ⊕ (Int × Int × Int)) else .inr z) = .inr q := h
    by_cases c : dF D 0 z.1 ≠ -1 ∨ dF D 1 z.1 ≠ -1 ∨ dF D 2 z.1 ≠ -1
    · rw [if_pos c] at h; exact absurd h (by simp)
    · rw [if_neg c] at h
      cases h
      exact lxNm_in hW hz
section
variable {g : Int → Int} {e F E : Int} {L : Nat} {D : dL} {s s0 : zS} {bp bw v : Int}
theorem p53_0 (hL : L = 43 ∨ L = 66) (hI : D.1 0 0 ≤ 7 ∧ D.1 0 1 ≤ 8 ∧ D.1 0 2 ≤ 6 ∧ 0 ≤ D.1 0 0 ∧ 0 ≤ D.1 0 1 ∧ 0 ≤ D.1 0 2) (hc0 : 0 ≤ D.1 0 0) (hc : D.1 0 0 < 7) (hD : cDx L D bp bw s) (hn : nmRel (fun k => s.1 3 k) v) : Ok (m53 (L + 1) s) (fun _ t => cDx L (dAdd D 0 v) bp bw t ∧ Fr (fun x k => (x = L + 1 ∧ k = 0) ∨ x = L + 2) s t) := by
  have z := zNl_L hL
  obtain ⟨⟨⟨h0, h1, h2, h3, h4⟩, m7, m8, m6⟩, ⟨n1, n2, n3⟩, r3, r4, r5, r6, r7, r8⟩ := hD
  unfold m53 m51
  have c1 : s.1 (L + 1) 0 = D.1 0 0 := h0
  have c2 : s.1 (L + 1) 1 = 7 := m7
  refine k_e (show (oV (s.1 (L + 1) 0) fun z1 => oV (s.1 (L + 1) 1) fun z2 => if z1 < z2 then some ((0 : Int), s) else some ((1 : Int), s)) = some (0, s) by rw [oV_eq, oV_eq, c1, c2, if_pos hc]) ?_
  refine k_p rfl (k_v ?_)
  rw [c1]
  refine k_z (by omega) (by omega) (k_y (by omega) (by omega) (by omega) (by omega) (by omega) (k_v (k_v ?_)))
  rw [sC_a (by omega), c1]
  refine k_z (by omega) (by omega) (k_v (k_r ?_))
  generalize hu : sI (sC s 3 (L + 1 + 1) 0 (D.1 0 0 * 6) 6) (L + 1) 0 (D.1 0 0 + 1) = u
  have fu : Fr (fun x k => (x = L + 1 ∧ k = 0) ∨ x = L + 2) s u := by
    rw [← hu]
    exact fr_trans (fr_C fun k _ _ => Or.inr rfl) (fr_I (Or.inl ⟨rfl, rfl⟩))
  have u0 : u.1 (L + 1) 0 = D.1 0 0 + 1 := by rw [← hu, sI_e]
  have uo : ∀ w k, 0 ≤ w → w < D.1 0 0 → 0 ≤ k → k < 6 → u.1 (L + 2) (6 * w + k) = s.1 (L + 2) (6 * w + k) := fun w k w0 w1 k0 k1 => by
    rw [← hu, sI_a (by omega)]
    exact sC_o (by omega)
  have un : ∀ k, 0 ≤ k → k < 6 → u.1 (L + 2) (6 * D.1 0 0 + k) = s.1 3 k := fun k k0 k1 => by
    rw [← hu, sI_a (by omega)]
    show (sC s 3 (L + 1 + 1) 0 (D.1 0 0 * 6) 6).1 (L + 1 + 1) (6 * D.1 0 0 + k) = _
    rw [sC_i (by omega) (by omega), show 0 + (6 * D.1 0 0 + k - D.1 0 0 * 6) = k by omega]
  have d0 : (dAdd D 0 v).1 0 0 = D.1 0 0 + 1 := by unfold dAdd; exact dU_e
  have d0o : ∀ k, k ≠ 0 → (dAdd D 0 v).1 0 k = D.1 0 k := fun k hk => by unfold dAdd; rw [dU_k hk, dU_r (by decide)]
  have d1 : ∀ k, (dAdd D 0 v).1 1 k = if k = 8 * 0 + D.1 0 0 then v else D.1 1 k := fun k => by unfold dAdd; rw [dU_r (by decide), dU_s]
  have dr : ∀ r k, r ≠ 0 → r ≠ 1 → (dAdd D 0 v).1 r k = D.1 r k := fun r k a b => by unfold dAdd; rw [dU_r a, dU_r b]
  have d2 : (dAdd D 0 v).2 = D.2 := rfl
  generalize dAdd D 0 v = X at *
  have fo : ∀ x k, ¬ ((x = L + 1 ∧ k = 0) ∨ x = L + 2) → u.1 x k = s.1 x k := fun x k hx => fu.1 x k hx
  refine ⟨⟨⟨⟨?_, ?_, ?_, ?_, ?_⟩, ?_, ?_, ?_⟩, ⟨fun w w0 w1 => ?_, fun w w0 w1 => ?_, fun w w0 w1 => ?_⟩, fun a b a0 a1 b0 b1 => ?_, fun p p0 p1 => ?_, fun w w0 w1 => ?_, ?_, ?_, ?_⟩, fu⟩
  · rw [u0, d0]
  · rw [fo _ _ (by omega), d0o 1 (by decide)]; exact h1
  · rw [fo _ _ (by omega), d0o 2 (by decide)]; exact h2
  · rw [fo _ _ (by omega), d0o 3 (by decide)]; exact h3
  · rw [fo _ _ (by omega), d2]; exact h4
  · rw [fo _ _ (by omega)]; exact m7
  · rw [fo _ _ (by omega)]; exact m8
  · rw [fo _ _ (by omega)]; exact m6
  · rw [d0] at w1
    rw [d1]
    by_cases c : w = D.1 0 0
    · rw [c, if_pos rfl]
      exact nmRel_ext (fun k k0 k1 => (un k k0 k1).symm) hn
    · rw [if_neg (by omega)]
      exact nmRel_ext (fun k k0 k1 => (uo w k w0 (by omega) k0 k1).symm) (n1 w w0 (by omega))
  · rw [d0o 1 (by decide)] at w1
    rw [d1, if_neg (by omega)]
    exact nmRel_ext (fun k k0 k1 => (fo _ _ (by omega)).symm) (n2 w w0 w1)
  · rw [d0o 2 (by decide)] at w1
    rw [d1, if_neg (by omega)]
    exact nmRel_ext (fun k k0 k1 => (fo _ _ (by omega)).symm) (n3 w w0 w1)
  · rw [fo _ _ (by omega), dr 2 _ (by decide) (by decide)]; exact r3 a b a0 a1 b0 b1
  · rw [fo _ _ (by omega), fo _ _ (by omega), fo _ _ (by omega), dr 3 _ (by decide) (by decide), dr 3 _ (by decide) (by decide), dr 3 _ (by decide) (by decide)]; exact r4 p p0 p1
  · rw [fo _ _ (by omega), fo _ _ (by omega), fo _ _ (by omega), fo _ _ (by omega), dr 4 _ (by decide) (by decide), dr 4 _ (by decide) (by decide), dr 4 _ (by decide) (by decide), dr 5 _ (by decide) (by decide)]; exact r5 w w0 w1
  · rw [fo _ _ (by omega), fo _ _ (by omega), fo _ _ (by omega), dr 6 _ (by decide) (by decide), dr 6 _ (by decide) (by decide), dr 6 _ (by decide) (by decide)]; exact r6
  · rw [d2]; exact ⟨by rw [fo _ _ (by omega)]; exact r7.1, fun i hi => by rw [fo _ _ (by omega)]; exact r7.2 i hi⟩
  · rw [d2]; exact ⟨by rw [fo _ _ (by omega)]; exact r8.1, fun i hi => by rw [fo _ _ (by omega)]; exact r8.2 i hi⟩
theorem p53_1 (hL : L = 43 ∨ L = 66) (hI : D.1 0 0 ≤ 7 ∧ D.1 0 1 ≤ 8 ∧ D.1 0 2 ≤ 6 ∧ 0 ≤ D.1 0 0 ∧ 0 ≤ D.1 0 1 ∧ 0 ≤ D.1 0 2) (hc0 : 0 ≤ D.1 0 1) (hc : D.1 0 1 < 8) (hD : cDx L D bp bw s) (hn : nmRel (fun k => s.1 3 k) v) : Ok (m53 (L + 3) s) (fun _ t => cDx L (dAdd D 1 v) bp bw t ∧ Fr (fun x k => (x = L + 3 ∧ k = 0) ∨ x = L + 4) s t) := by
  have z := zNl_L hL
  obtain ⟨⟨⟨h0, h1, h2, h3, h4⟩, m7, m8, m6⟩, ⟨n1, n2, n3⟩, r3, r4, r5, r6, r7, r8⟩ := hD
  unfold m53 m51
  have c1 : s.1 (L + 3) 0 = D.1 0 1 := h1
  have c2 : s.1 (L + 3) 1 = 8 := m8
  refine k_e (show (oV (s.1 (L + 3) 0) fun z1 => oV (s.1 (L + 3) 1) fun z2 => if z1 < z2 then some ((0 : Int), s) else some ((1 : Int), s)) = some (0, s) by rw [oV_eq, oV_eq, c1, c2, if_pos hc]) ?_
  refine k_p rfl (k_v ?_)
  rw [c1]
  refine k_z (by omega) (by omega) (k_y (by omega) (by omega) (by omega) (by omega) (by omega) (k_v (k_v ?_)))
  rw [sC_a (by omega), c1]
  refine k_z (by omega) (by omega) (k_v (k_r ?_))
  generalize hu : sI (sC s 3 (L + 3 + 1) 0 (D.1 0 1 * 6) 6) (L + 3) 0 (D.1 0 1 + 1) = u
  have fu : Fr (fun x k => (x = L + 3 ∧ k = 0) ∨ x = L + 4) s u := by
    rw [← hu]
    exact fr_trans (fr_C fun k _ _ => Or.inr rfl) (fr_I (Or.inl ⟨rfl, rfl⟩))
  have u0 : u.1 (L + 3) 0 = D.1 0 1 + 1 := by rw [← hu, sI_e]
  have uo : ∀ w k, 0 ≤ w → w < D.1 0 1 → 0 ≤ k → k < 6 → u.1 (L + 4) (6 * w + k) = s.1 (L + 4) (6 * w + k) := fun w k w0 w1 k0 k1 => by
    rw [← hu, sI_a (by omega)]
    exact sC_o (by omega)
  have un : ∀ k, 0 ≤ k → k < 6 → u.1 (L + 4) (6 * D.1 0 1 + k) = s.1 3 k := fun k k0 k1 => by
    rw [← hu, sI_a (by omega)]
    show (sC s 3 (L + 3 + 1) 0 (D.1 0 1 * 6) 6).1 (L + 3 + 1) (6 * D.1 0 1 + k) = _
    rw [sC_i (by omega) (by omega), show 0 + (6 * D.1 0 1 + k - D.1 0 1 * 6) = k by omega]
  have d0 : (dAdd D 1 v).1 0 1 = D.1 0 1 + 1 := by unfold dAdd; exact dU_e
  have d0o : ∀ k, k ≠ 1 → (dAdd D 1 v).1 0 k = D.1 0 k := fun k hk => by unfold dAdd; rw [dU_k hk, dU_r (by decide)]
  have d1 : ∀ k, (dAdd D 1 v).1 1 k = if k = 8 * 1 + D.1 0 1 then v else D.1 1 k := fun k => by unfold dAdd; rw [dU_r (by decide), dU_s]
  have dr : ∀ r k, r ≠ 0 → r ≠ 1 → (dAdd D 1 v).1 r k = D.1 r k := fun r k a b => by unfold dAdd; rw [dU_r a, dU_r b]
  have d2 : (dAdd D 1 v).2 = D.2 := rfl
  generalize dAdd D 1 v = X at *
  have fo : ∀ x k, ¬ ((x = L + 3 ∧ k = 0) ∨ x = L + 4) → u.1 x k = s.1 x k := fun x k hx => fu.1 x k hx
  refine ⟨⟨⟨⟨?_, ?_, ?_, ?_, ?_⟩, ?_, ?_, ?_⟩, ⟨fun w w0 w1 => ?_, fun w w0 w1 => ?_, fun w w0 w1 => ?_⟩, fun a b a0 a1 b0 b1 => ?_, fun p p0 p1 => ?_, fun w w0 w1 => ?_, ?_, ?_, ?_⟩, fu⟩
  · rw [fo _ _ (by omega), d0o 0 (by decide)]; exact h0
  · rw [u0, d0]
  · rw [fo _ _ (by omega), d0o 2 (by decide)]; exact h2
  · rw [fo _ _ (by omega), d0o 3 (by decide)]; exact h3
  · rw [fo _ _ (by omega), d2]; exact h4
  · rw [fo _ _ (by omega)]; exact m7
  · rw [fo _ _ (by omega)]; exact m8
  · rw [fo _ _ (by omega)]; exact m6
  · rw [d0o 0 (by decide)] at w1
    rw [d1, if_neg (by omega)]
    exact nmRel_ext (fun k k0 k1 => (fo _ _ (by omega)).symm) (n1 w w0 w1)
  · rw [d0] at w1
    rw [d1]
    by_cases c : w = D.1 0 1
    · rw [c, if_pos rfl]
      exact nmRel_ext (fun k k0 k1 => (un k k0 k1).symm) hn
    · rw [if_neg (by omega)]
      exact nmRel_ext (fun k k0 k1 => (uo w k w0 (by omega) k0 k1).symm) (n2 w w0 (by omega))
  · rw [d0o 2 (by decide)] at w1
    rw [d1, if_neg (by omega)]
    exact nmRel_ext (fun k k0 k1 => (fo _ _ (by omega)).symm) (n3 w w0 w1)
  · rw [fo _ _ (by omega), dr 2 _ (by decide) (by decide)]; exact r3 a b a0 a1 b0 b1
  · rw [fo _ _ (by omega), fo _ _ (by omega), fo _ _ (by omega), dr 3 _ (by decide) (by decide), dr 3 _ (by decide) (by decide), dr 3 _ (by decide) (by decide)]; exact r4 p p0 p1
  · rw [fo _ _ (by omega), fo _ _ (by omega), fo _ _ (by omega), fo _ _ (by omega), dr 4 _ (by decide) (by decide), dr 4 _ (by decide) (by decide), dr 4 _ (by decide) (by decide), dr 5 _ (by decide) (by decide)]; exact r5 w w0 w1
  · rw [fo _ _ (by omega), fo _ _ (by omega), fo _ _ (by omega), dr 6 _ (by decide) (by decide), dr 6 _ (by decide) (by decide), dr 6 _ (by decide) (by decide)]; exact r6
  · rw [d2]; exact ⟨by rw [fo _ _ (by omega)]; exact r7.1, fun i hi => by rw [fo _ _ (by omega)]; exact r7.2 i hi⟩
  · rw [d2]; exact ⟨by rw [fo _ _ (by omega)]; exact r8.1, fun i hi => by rw [fo _ _ (by omega)]; exact r8.2 i hi⟩
theorem p53_2 (hL : L = 43 ∨ L = 66) (hI : D.1 0 0 ≤ 7 ∧ D.1 0 1 ≤ 8 ∧ D.1 0 2 ≤ 6 ∧ 0 ≤ D.1 0 0 ∧ 0 ≤ D.1 0 1 ∧ 0 ≤ D.1 0 2) (hc0 : 0 ≤ D.1 0 2) (hc : D.1 0 2 < 6) (hD : cDx L D bp bw s) (hn : nmRel (fun k => s.1 3 k) v) : Ok (m53 (L + 5) s) (fun _ t => cDx L (dAdd D 2 v) bp bw t ∧ Fr (fun x k => (x = L + 5 ∧ k = 0) ∨ x = L + 6) s t) := by
  have z := zNl_L hL
  obtain ⟨⟨⟨h0, h1, h2, h3, h4⟩, m7, m8, m6⟩, ⟨n1, n2, n3⟩, r3, r4, r5, r6, r7, r8⟩ := hD
  unfold m53 m51
  have c1 : s.1 (L + 5) 0 = D.1 0 2 := h2
  have c2 : s.1 (L + 5) 1 = 6 := m6
  refine k_e (show (oV (s.1 (L + 5) 0) fun z1 => oV (s.1 (L + 5) 1) fun z2 => if z1 < z2 then some ((0 : Int), s) else some ((1 : Int), s)) = some (0, s) by rw [oV_eq, oV_eq, c1, c2, if_pos hc]) ?_
  refine k_p rfl (k_v ?_)
  rw [c1]
  refine k_z (by omega) (by omega) (k_y (by omega) (by omega) (by omega) (by omega) (by omega) (k_v (k_v ?_)))
  rw [sC_a (by omega), c1]
  refine k_z (by omega) (by omega) (k_v (k_r ?_))
  generalize hu : sI (sC s 3 (L + 5 + 1) 0 (D.1 0 2 * 6) 6) (L + 5) 0 (D.1 0 2 + 1) = u
  have fu : Fr (fun x k => (x = L + 5 ∧ k = 0) ∨ x = L + 6) s u := by
    rw [← hu]
    exact fr_trans (fr_C fun k _ _ => Or.inr rfl) (fr_I (Or.inl ⟨rfl, rfl⟩))
  have u0 : u.1 (L + 5) 0 = D.1 0 2 + 1 := by rw [← hu, sI_e]
  have uo : ∀ w k, 0 ≤ w → w < D.1 0 2 → 0 ≤ k → k < 6 → u.1 (L + 6) (6 * w + k) = s.1 (L + 6) (6 * w + k) := fun w k w0 w1 k0 k1 => by
    rw [← hu, sI_a (by omega)]
    exact sC_o (by omega)
  have un : ∀ k, 0 ≤ k → k < 6 → u.1 (L + 6) (6 * D.1 0 2 + k) = s.1 3 k := fun k k0 k1 => by
    rw [← hu, sI_a (by omega)]
    show (sC s 3 (L + 5 + 1) 0 (D.1 0 2 * 6) 6).1 (L + 5 + 1) (6 * D.1 0 2 + k) = _
    rw [sC_i (by omega) (by omega), show 0 + (6 * D.1 0 2 + k - D.1 0 2 * 6) = k by omega]
  have d0 : (dAdd D 2 v).1 0 2 = D.1 0 2 + 1 := by unfold dAdd; exact dU_e
  have d0o : ∀ k, k ≠ 2 → (dAdd D 2 v).1 0 k = D.1 0 k := fun k hk => by unfold dAdd; rw [dU_k hk, dU_r (by decide)]
  have d1 : ∀ k, (dAdd D 2 v).1 1 k = if k = 8 * 2 + D.1 0 2 then v else D.1 1 k := fun k => by unfold dAdd; rw [dU_r (by decide), dU_s]
  have dr : ∀ r k, r ≠ 0 → r ≠ 1 → (dAdd D 2 v).1 r k = D.1 r k := fun r k a b => by unfold dAdd; rw [dU_r a, dU_r b]
  have d2 : (dAdd D 2 v).2 = D.2 := rfl
  generalize dAdd D 2 v = X at *
  have fo : ∀ x k, ¬ ((x = L + 5 ∧ k = 0) ∨ x = L + 6) → u.1 x k = s.1 x k := fun x k hx => fu.1 x k hx
  refine ⟨⟨⟨⟨?_, ?_, ?_, ?_, ?_⟩, ?_, ?_, ?_⟩, ⟨fun w w0 w1 => ?_, fun w w0 w1 => ?_, fun w w0 w1 => ?_⟩, fun a b a0 a1 b0 b1 => ?_, fun p p0 p1 => ?_, fun w w0 w1 => ?_, ?_, ?_, ?_⟩, fu⟩
  · rw [fo _ _ (by omega), d0o 0 (by decide)]; exact h0
  · rw [fo _ _ (by omega), d0o 1 (by decide)]; exact h1
  · rw [u0, d0]
  · rw [fo _ _ (by omega), d0o 3 (by decide)]; exact h3
  · rw [fo _ _ (by omega), d2]; exact h4
  · rw [fo _ _ (by omega)]; exact m7
  · rw [fo _ _ (by omega)]; exact m8
  · rw [fo _ _ (by omega)]; exact m6
  · rw [d0o 0 (by decide)] at w1
    rw [d1, if_neg (by omega)]
    exact nmRel_ext (fun k k0 k1 => (fo _ _ (by omega)).symm) (n1 w w0 w1)
  · rw [d0o 1 (by decide)] at w1
    rw [d1, if_neg (by omega)]
    exact nmRel_ext (fun k k0 k1 => (fo _ _ (by omega)).symm) (n2 w w0 w1)
  · rw [d0] at w1
    rw [d1]
    by_cases c : w = D.1 0 2
    · rw [c, if_pos rfl]
      exact nmRel_ext (fun k k0 k1 => (un k k0 k1).symm) hn
    · rw [if_neg (by omega)]
      exact nmRel_ext (fun k k0 k1 => (uo w k w0 (by omega) k0 k1).symm) (n3 w w0 (by omega))
  · rw [fo _ _ (by omega), dr 2 _ (by decide) (by decide)]; exact r3 a b a0 a1 b0 b1
  · rw [fo _ _ (by omega), fo _ _ (by omega), fo _ _ (by omega), dr 3 _ (by decide) (by decide), dr 3 _ (by decide) (by decide), dr 3 _ (by decide) (by decide)]; exact r4 p p0 p1
  · rw [fo _ _ (by omega), fo _ _ (by omega), fo _ _ (by omega), fo _ _ (by omega), dr 4 _ (by decide) (by decide), dr 4 _ (by decide) (by decide), dr 4 _ (by decide) (by decide), dr 5 _ (by decide) (by decide)]; exact r5 w w0 w1
  · rw [fo _ _ (by omega), fo _ _ (by omega), fo _ _ (by omega), dr 6 _ (by decide) (by decide), dr 6 _ (by decide) (by decide), dr 6 _ (by decide) (by decide)]; exact r6
  · rw [d2]; exact ⟨by rw [fo _ _ (by omega)]; exact r7.1, fun i hi => by rw [fo _ _ (by omega)]; exact r7.2 i hi⟩
  · rw [d2]; exact ⟨by rw [fo _ _ (by omega)]; exact r8.1, fun i hi => by rw [fo _ _ (by omega)]; exact r8.2 i hi⟩
/-- what is left behind a name that is new -/
def cNew (L : Nat) (g : Int → Int) (e : Int) (D : dL) (d bp bw : Int) (s : zS) (x : (Int × Int) ⊕ (Int × Int × Int)) (r : Int) (t : zS) : Prop := match x with
  | .inl q => r = 0 ∧ t.1 1 5 = q.1 ∧ t.1 1 6 = q.2 ∧ Fr (fun a k => cpF a k ∨ a = 3) s t
  | .inr q => r = 1 ∧ cDx L (dAdd D d q.1) bp bw t ∧ cLx g e q.2.1 q.2.2 t ∧ Fr (clF L) s t
theorem p96 {d : Int} {a0 : Nat} (ht : tOk g e) (hL : L = 43 ∨ L = 66) (hI : D.1 0 0 ≤ 7 ∧ D.1 0 1 ≤ 8 ∧ D.1 0 2 ≤ 6 ∧ 0 ≤ D.1 0 0 ∧ 0 ≤ D.1 0 1 ∧ 0 ≤ D.1 0 2) (hd : (d = 0 ∧ a0 = L + 1 ∧ D.1 0 0 < 7) ∨ (d = 1 ∧ a0 = L + 3 ∧ D.1 0 1 < 8) ∨ (d = 2 ∧ a0 = L + 5 ∧ D.1 0 2 < 6)) (hD : cDx L D bp bw s) (hW : lxW g e F E) (h : cLx g e F E s) : Ok (m96 L a0 s) (cNew L g e D d bp bw s (nwR g e D F E)) := by
  unfold m96 nwR
  refine k_c (p84 ht hW h) ?_
  intro r t hr
  rcases hz : lxNm g e F E with q | q
  · rw [hz] at hr
    obtain ⟨rfl, t5, t6, t3⟩ := hr
    exact k_p rfl (k_r ⟨rfl, t5, t6, t3⟩)
  · rw [hz] at hr
    obtain ⟨rfl, t1, t3⟩ := hr
    have qn := lxNm_in hW hz
    have dt : cDx L D bp bw t := cDx_fr (fun a k a0 a1 a2 => t3.1 a k (by omega)) hD
    have lt : cLx g e F E t := cLx_fr (fun a k z => by omega) t3 h
    have e5 := e54 hL (Or.inr hI) dt t1
    show Ok _ (cNew L g e D d bp bw s (if dF D 0 q.1 ≠ -1 ∨ dF D 1 q.1 ≠ -1 ∨ dF D 2 q.1 ≠ -1 then .inl (3, F) else .inr q))
    have bad : (dF D 0 q.1 ≠ -1 ∨ dF D 1 q.1 ≠ -1 ∨ dF D 2 q.1 ≠ -1) → Ok (m96_56 t) (cNew L g e D d bp bw s (if dF D 0 q.1 ≠ -1 ∨ dF D 1 q.1 ≠ -1 ∨ dF D 2 q.1 ≠ -1 then .inl (3, F) else .inr q)) := by
      intro c
      rw [if_pos c]
      unfold m96_56
      refine k_v ?_
      rw [lt.2.2.1]
      refine k_c p77 ?_
      rintro r u ⟨rfl, u5, u6, u3⟩
      exact k_d (Or.inl rfl) (k_r ⟨rfl, u5, u6, fr_trans (fr_mono (fun a k z => Or.inr z) t3) (fr_mono (fun a k z => Or.inl (by omega)) u3)⟩)
    refine k_q (by decide) (k_e e5.1 (k_i (fun c0 => k_e e5.2.1 (k_i (fun c1 => k_e e5.2.2 (k_i (fun c2 => ?_) (fun c2 => bad (Or.inr (Or.inr c2))))) (fun c1 => bad (Or.inr (Or.inl c1))))) (fun c0 => bad (Or.inl c0))))
    rw [if_neg (fun z => by omega)]
    have add : Ok (m53 a0 t) (fun _ u => cDx L (dAdd D d q.1) bp bw u ∧ Fr (fun x k => (x = a0 ∧ k = 0) ∨ x = a0 + 1) t u) := by
      rcases hd with ⟨rfl, rfl, hd⟩ | ⟨rfl, rfl, hd⟩ | ⟨rfl, rfl, hd⟩
      · exact p53_0 hL hI hI.2.2.2.1 hd dt t1
      · exact p53_1 hL hI hI.2.2.2.2.1 hd dt t1
      · exact p53_2 hL hI hI.2.2.2.2.2 hd dt t1
    refine k_c add ?_
    rintro _ u ⟨u1, u2⟩
    have lu : cLx g e F E u := cLx_fr (fun a k z => by omega) u2 lt
    refine k_c (p76a ht hW lu (tkK_1 qn.2.2.1).1 (by rw [qn.2.2.1]; decide)) ?_
    rintro _ w ⟨w1, w2, w3⟩
    rw [qn.2.2.2.1.symm, qn.2.2.2.2.symm] at w1
    exact k_r ⟨rfl, cDx_fr (fun a k a0 a1 a2 => w3.1 a k (by omega)) u1, w1, fr_trans (fr_mono (fun a k z => by omega) t3) (fr_trans (fr_mono (fun a k z => by omega) u2) (fr_mono (fun a k z => Or.inl z) w3))⟩
end
