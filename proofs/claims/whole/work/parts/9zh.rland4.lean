/-! ===== the reference tells a land: sums, statements ===== -/
section
variable {g : Int → Int} {e F E x : Int} {D D' : dL} {s s0 t : zS} {q : Int × Int} {c d v : Int}
theorem u175_23 (hb : bS s0 q s) : Ok (m175_23 x s) (rK g e s0 (.inl q)) := by
  unfold m175_23
  exact k_v (k_q (bS_5 hb) (k_r hb))
abbrev copF (x b : Int) (n : Nat) (a : Nat) (k : Int) : Prop := (a = 209 ∧ k = 51) ∨ (a = 250 ∧ k = x) ∨ (a = 251 ∧ b ≤ k ∧ k < b + (n : Int))
/-- the codes are put behind those that are there -/
theorem p175_80 {l : List Int} {b : Int} (x0 : 0 ≤ x) (x4 : x < 4) (h100 : s0.1 209 100 = (l.length : Int)) (h285 : ∀ i : Nat, i < l.length → s0.1 285 (i : Int) = l.getD i 0) (b0 : 0 ≤ b) (hl : b + (l.length : Int) ≤ 1600) : ∀ (n j i : Nat) (s : zS), i + j = l.length → j < n → s.1 209 51 = b + (i : Int) → (∀ k : Nat, k < i → s.1 251 (b + (k : Int)) = l.getD k 0) → Fr (copF x b l.length) s0 s → Ok (m175_80 n x (i : Int) s) (fun _ t => t.1 209 51 = b + (l.length : Int) ∧ t.1 250 x = b + (l.length : Int) ∧ (∀ k : Nat, k < l.length → t.1 251 (b + (k : Int)) = l.getD k 0) ∧ Fr (copF x b l.length) s0 t) := by
  intro n
  induction n with
  | zero => intro j i s _ h; omega
  | succ n ih =>
    intro j i s hij hj h51 hk hf
    rw [m175_80]
    refine k_v ?_
    rw [hf.1 209 100 (by omega), h100]
    cases j with
    | zero =>
      refine k_q (by omega) (k_v (k_x (by omega) (by omega) (k_v (k_r ⟨?_, ?_, fun k hk' => ?_, fr_trans hf (fr_I (Or.inr (Or.inl ⟨rfl, rfl⟩)))⟩))))
      · rw [sI_a (by decide), h51]; omega
      · rw [sI_e, h51]; omega
      · rw [sI_a (by decide)]; exact hk k (by omega)
    | succ j =>
      refine k_p (by omega) (k_v ?_)
      rw [h51]
      refine k_x (by omega) (by omega) (k_v (k_x (by omega) (by omega) (k_v (k_v ?_))))
      rw [hf.1 285 _ (by omega), h285 i (by omega), sI_a (by decide), h51]
      refine k_z (by omega) (by omega) (k_v (k_z (by omega) (by omega) ?_))
      have := ih j (i + 1) (sI (sI s 251 (b + (i : Int)) (l.getD i 0)) 209 51 (b + (i : Int) + 1)) (by omega) (by omega) (by rw [sI_e]; omega) (fun k hk' => ?_) (fr_trans hf (fr_trans (fr_I (Or.inr (Or.inr ⟨rfl, by omega, by omega⟩))) (fr_I (Or.inl ⟨rfl, rfl⟩))))
      · rw [show ((i + 1 : Nat) : Int) = (i : Int) + 1 by omega] at this
        exact this
      · rw [sI_a (by decide)]
        by_cases z : k = i
        · rw [z, sI_e]
        · rw [sI_k (by omega)]; exact hk k (by omega)
abbrev sumF (x b : Int) (n : Nat) (a : Nat) (k : Int) : Prop := sA a k ∨ (a = 209 ∧ k = 51) ∨ (a = 249 ∧ k = x) ∨ (a = 250 ∧ k = x) ∨ (a = 251 ∧ b ≤ k ∧ k < b + (n : Int))
def rSm (g : Int → Int) (e x b : Int) (s0 s : zS) (y : qR) (t : zS) : Prop := match y with
  | .inl q => bS s0 q t
  | .inr q => nN g e q.1 q.2.1 t ∧ t.1 209 51 = b + (q.2.2.length : Int) ∧ t.1 249 x = b ∧ t.1 250 x = b + (q.2.2.length : Int) ∧ (∀ k : Nat, k < q.2.2.length → t.1 251 (b + (k : Int)) = q.2.2.getD k 0) ∧ Fr (sumF x b q.2.2.length) s t
theorem p175_23 (ht : tOk g e) (hD : dOk D) (h : gS g e D F E s0 s) (hx : x = 0 ∨ x = 1) (hln : dLn D ≤ F) : Ok (m175_23 x s) (fun _ t => rSm g e x (dLn D) s0 s (qM g e false 40 3 0 F E) t) := by
  have hle := ht.2.1
  have hF0 := h.1.1.1
  have hln0 : 0 ≤ dLn D := by unfold dLn; omega
  unfold m175_23
  refine k_v ?_
  rw [gS_5 h]
  refine k_p rfl (k_v (k_v (k_v (k_v (k_v ?_)))))
  generalize hu : sI (sI (sI (sI (sI s 209 53 1) 209 100 0) 209 102 0) 209 103 0) 209 104 0 = u
  have fu : Fr (fun a k => a = 209 ∧ (k = 53 ∨ k = 100 ∨ k = 102 ∨ k = 103 ∨ k = 104)) s u := by
    rw [← hu]
    exact fr_trans (fr_I (by omega)) (fr_trans (fr_I (by omega)) (fr_trans (fr_I (by omega)) (fr_trans (fr_I (by omega)) (fr_I (by omega)))))
  have e53 : u.1 209 53 = 1 := by rw [← hu]; simp [sI_if]
  have e100 : u.1 209 100 = 0 := by rw [← hu]; simp [sI_if]
  have e102 : u.1 209 102 = 0 := by rw [← hu]; simp [sI_if]
  have e103 : u.1 209 103 = 0 := by rw [← hu]; simp [sI_if]
  have e104 : u.1 209 104 = 0 := by rw [← hu]; simp [sI_if]
  have lu : rLx g e F E u := rLx_fr (A := fun a k => a = 209 ∧ (k = 53 ∨ k = 100 ∨ k = 102 ∨ k = 103 ∨ k = 104)) (fun a k z => by omega) (frj_of fu) h.1.2.1
  have nu : nN g e F E u := nN_fr (A := fun a k => a = 209 ∧ (k = 53 ∨ k = 100 ∨ k = 102 ∨ k = 103 ∨ k = 104)) (fun a k z => by omega) h.1 lu h.1.1 (frj_of fu)
  have gu : gS g e D F E s0 u := gS_fr h nu (fr_mono (fun a k z => by omega) fu)
  have hg : rG g e false 0 F E [] [] 0 u := ⟨h.1.1, lu, ⟨trivial, e102, e100, fun i hi => by simp at hi, e103, e104⟩, hF0, ⟨⟨e53, nu.2.2.2⟩, nu.2.2.1⟩, ⟨by omega, by simp⟩, by omega, by omega⟩
  refine k_c (p261 (n := 40) ht hg (by omega) (by show (0 : Int) ≠ 1; decide) (by show (0 : Int) ≠ 2; decide) (by show (0 : Int) ≠ 3; decide) (by show (0 : Int) ≠ 4; decide) (by show (0 : Int) < 60; decide)) ?_
  intro _ w hw
  rcases hy : qM g e false 40 3 0 F E with q | q
  · rw [hy] at hw
    have nz := qM_nz 40 3 0 _ _ q (by omega) (by omega) (by omega) (by omega) (by omega) hy
    have hb : bS s0 (q.1, q.2) w := bS_of hD gu nz hw.1 hw.2.1 (fr_mono (fun a k z => by omega) hw.2.2.1)
    exact k_v (k_q (bS_5 hb) (k_r hb))
  · rw [hy] at hw
    obtain ⟨w1, w2⟩ := hw
    rw [List.nil_append] at w1
    have hq := qM_len 40 _ _ _ _ _ hy h.1.1
    have hqe := hq.1.2.1
    have hqF := hq.2.1
    have gw : gS g e D q.1 q.2.1 s0 w := gS_fr gu ⟨w1.1, w1.2.1, w1.2.2.2.2.1.2, w1.2.2.2.2.1.1.2⟩ (fr_mono (fun a k z => by omega) w2)
    refine k_v ?_
    rw [gS_5 gw]
    refine k_p rfl (k_v (k_x (by omega) (by omega) (k_v ?_)))
    rw [gw.2.1.2.2.2.2.2.2.1]
    have hp := p175_80 (x := x) (s0 := sI w 249 x (dLn D)) (l := q.2.2) (b := dLn D) (by omega) (by omega) (by rw [sI_a (by decide)]; exact w1.2.2.1.2.2.1) (fun i hi => by rw [sI_a (by decide)]; exact w1.2.2.1.2.2.2.1 i hi) hln0 (by omega) zFu q.2.2.length 0 (sI w 249 x (dLn D)) (by omega) (by unfold zFu; omega) (by rw [sI_a (by decide), gw.2.1.2.2.2.2.2.2.1]; omega) (fun k hk => by omega) fr_refl
    refine k_m hp ?_
    rintro _ v ⟨v1, v2, v3, v4⟩
    have fv : Fr (sumF x (dLn D) q.2.2.length) s v := fr_trans (fr_mono (fun a k z => by omega) fu) (fr_trans (fr_mono (fun a k z => by omega) w2) (fr_trans (fr_I (by omega)) (fr_mono (fun a k z => by omega) v4)))
    have fwv : Fr (fun a k => (a = 209 ∧ k = 51) ∨ (249 ≤ a ∧ a ≤ 251)) w v := fr_trans (fr_I (by omega)) (fr_mono (fun a k z => by omega) v4)
    refine ⟨nN_fr (A := fun a k => (a = 209 ∧ k = 51) ∨ (249 ≤ a ∧ a ≤ 251)) (fun a k z => by omega) gw.1 (rLx_fr (A := fun a k => (a = 209 ∧ k = 51) ∨ (249 ≤ a ∧ a ≤ 251)) (fun a k z => by omega) (frj_of fwv) gw.1.2.1) gw.1.1 (frj_of fwv), v1, ?_, v2, v3, fv⟩
    rw [v4.1 249 x (by omega), sI_e]
/-- another formula stays -/
theorem rFm_fr {y b : Int} {l l' : List Int} (hxy : y ≠ x) (h : rFm y l' (s.1 249) (s.1 250) (s.1 251) b) (hf : Fr (sumF x b l.length) s t) : rFm y l' (t.1 249) (t.1 250) (t.1 251) (b + (l.length : Int)) := by
  rcases h with ⟨h1, h2⟩ | ⟨h1, h2, h3, h4, h5⟩
  · exact Or.inl ⟨h1, by rw [hf.1 249 y (by omega)]; exact h2⟩
  · refine Or.inr ⟨h1, by rw [hf.1 249 y (by omega)]; exact h2, by rw [hf.1 249 y (by omega), hf.1 250 y (by omega)]; exact h3, by rw [hf.1 250 y (by omega)]; omega, fun i hi => ?_⟩
    rw [hf.1 249 y (by omega), hf.1 251 _ (by omega)]
    exact h5 i hi
theorem rD_sum {b : Int} {l : List Int} (h : rD D s) (hf : Fr (sumF x b l.length) s t) (E1 : D'.1 = D.1) (hF0 : rFm 0 D'.2.1 (t.1 249) (t.1 250) (t.1 251) (t.1 209 51)) (hF1 : rFm 1 D'.2.2.1 (t.1 249) (t.1 250) (t.1 251) (t.1 209 51)) (h51 : t.1 209 51 = dLn D') (h52 : D'.2.2.2 = D.2.2.2) : rD D' t := by
  have ro : ∀ a, 242 ≤ a → a ≤ 248 → t.1 a = s.1 a := fun a a0 a1 => funext fun k => hf.1 a k (by omega)
  have e52 : t.1 209 52 = s.1 209 52 := hf.1 209 52 (by omega)
  obtain ⟨⟨h1, h1'⟩, h2, h3, h4, h5, _, _, h7⟩ := h
  refine ⟨⟨?_, ?_⟩, ?_, ?_, ?_, ?_, ⟨hF0, hF1⟩, h51, by rw [e52, h52]; exact h7⟩
  · unfold rDc; rw [ro 242 (by omega) (by omega), E1]; exact h1
  · unfold rDn; rw [hf.2.1, E1]; exact h1'
  · unfold rDr; rw [ro 244 (by omega) (by omega), E1]; exact h2
  · unfold rDp; rw [ro 245 (by omega) (by omega), E1]; exact h3
  · unfold rDw; rw [ro 246 (by omega) (by omega), ro 247 (by omega) (by omega), E1]; exact h4
  · unfold rDs; rw [ro 248 (by omega) (by omega), E1]; exact h5
theorem rlF_sum {b : Int} {l : List Int} (hx : x = 0 ∨ x = 1) (hb : b + (l.length : Int) ≤ 1600) (hf : Fr (sumF x b l.length) s t) : FrJ rlF s t := by
  refine frj_of (fr_mono (fun a k z => ?_) hf)
  rcases z with z | ⟨rfl, rfl⟩ | ⟨rfl, z⟩ | ⟨rfl, z⟩ | ⟨rfl, z1, z2⟩
  · exact rlF_A a k z
  · exact Or.inl ⟨rfl, by decide⟩
  · have : k < 2 := by omega
    unfold rlF; simp [this]
  · have : k < 2 := by omega
    unfold rlF; simp [this]
  · have : k < 1600 := by omega
    unfold rlF; simp [this]
theorem p175 {x1 : Int} (ht : tOk g e) (hD : dOk D) (h : gS g e D F E s0 s) (hln : dLn D ≤ F) : Ok (m175 0 x1 s) (rK g e s0 (if D.2.1 = [] then tSum g e F E fun l F2 E2 => .inr ((D.1, l, D.2.2), F2, E2) else .inl (5, x1))) ∧ Ok (m175 1 x1 s) (rK g e s0 (if D.2.2.1 = [] then tSum g e F E fun l F2 E2 => .inr ((D.1, D.2.1, l, D.2.2.2), F2, E2) else .inl (5, x1))) := by
  have hle := ht.2.1
  have hr := h.2.1
  have h51 := hr.2.2.2.2.2.2.1
  have full : ∀ x, x = 0 ∨ x = 1 → Ok (oC (m153 5 x1 s) fun _ s7 => m175_23 x s7) (rK g e s0 (.inl (5, x1))) := by
    intro x _
    refine k_c (p153 (gS_5 h)) ?_
    rintro _ u ⟨u5, u6, u3⟩
    exact u175_23 (bS_of hD h (by decide) u5 u6 (fr_mono (fun a k z => by omega) u3))
  refine ⟨?_, ?_⟩
  · unfold m175
    refine k_v ?_
    rw [gS_5 h]
    refine k_p rfl (k_x (by omega) (by omega) (k_v ?_))
    rcases hr.2.2.2.2.2.1.1 with ⟨h1, h2⟩ | ⟨h1, h2, _⟩
    · rw [if_pos h1]
      refine k_p h2 (k_m (p175_23 ht hD h (Or.inl rfl) hln) ?_)
      intro r t hr'
      unfold tSum
      rcases hy : qM g e false 40 3 0 F E with q | q
      · rw [hy] at hr'; exact hr'
      · rw [hy] at hr'
        obtain ⟨t1, t2, t3, t4, t5, t6⟩ := hr'
        have hq := qM_len 40 _ _ _ _ _ hy h.1.1
        have hqe := hq.1.2.1
        have hqF := hq.2.1
        have hq1 := hq.2.2
        have ln : dLn (D.1, q.2.2, D.2.2) = dLn D + (q.2.2.length : Int) := by
          unfold dLn
          rw [h1]
          show (q.2.2.length : Int) + (D.2.2.1.length : Int) = 0 + (D.2.2.1.length : Int) + (q.2.2.length : Int)
          omega
        refine ⟨t1, rD_sum (x := 0) (D' := (D.1, q.2.2, D.2.2)) hr t6 rfl (Or.inr ⟨fun z => ?_, ?_, ?_, ?_, fun i hi => ?_⟩) ?_ (by rw [t2, ln]) rfl, frj_trans h.2.2 (rlF_sum (Or.inl rfl) (by omega) t6)⟩
        · have z : q.2.2 = [] := z
          rw [z] at hq1
          exact absurd hq1 (by decide)
        · rw [t3]; unfold dLn; omega
        · rw [t3, t4]
        · rw [t4, t2]; exact Int.le_refl _
        · rw [t3]; exact t5 i hi
        · rw [t2]
          refine rFm_fr (y := 1) (x := 0) (by decide) ?_ t6
          rw [← h51]
          exact hr.2.2.2.2.2.1.2
    · rw [if_neg h1]
      exact k_q (by omega) (full 0 (Or.inl rfl))
  · unfold m175
    refine k_v ?_
    rw [gS_5 h]
    refine k_p rfl (k_x (by omega) (by omega) (k_v ?_))
    rcases hr.2.2.2.2.2.1.2 with ⟨h1, h2⟩ | ⟨h1, h2, _⟩
    · rw [if_pos h1]
      refine k_p h2 (k_m (p175_23 ht hD h (Or.inr rfl) hln) ?_)
      intro r t hr'
      unfold tSum
      rcases hy : qM g e false 40 3 0 F E with q | q
      · rw [hy] at hr'; exact hr'
      · rw [hy] at hr'
        obtain ⟨t1, t2, t3, t4, t5, t6⟩ := hr'
        have hq := qM_len 40 _ _ _ _ _ hy h.1.1
        have hqe := hq.1.2.1
        have hqF := hq.2.1
        have hq1 := hq.2.2
        have ln : dLn (D.1, D.2.1, q.2.2, D.2.2.2) = dLn D + (q.2.2.length : Int) := by
          unfold dLn
          rw [h1]
          show (D.2.1.length : Int) + (q.2.2.length : Int) = (D.2.1.length : Int) + 0 + (q.2.2.length : Int)
          omega
        refine ⟨t1, rD_sum (x := 1) (D' := (D.1, D.2.1, q.2.2, D.2.2.2)) hr t6 rfl ?_ (Or.inr ⟨fun z => ?_, ?_, ?_, ?_, fun i hi => ?_⟩) (by rw [t2, ln]) rfl, frj_trans h.2.2 (rlF_sum (Or.inr rfl) (by omega) t6)⟩
        · rw [t2]
          refine rFm_fr (y := 0) (x := 1) (by decide) ?_ t6
          rw [← h51]
          exact hr.2.2.2.2.2.1.1
        · have z : q.2.2 = [] := z
          rw [z] at hq1
          exact absurd hq1 (by decide)
        · rw [t3]; unfold dLn; omega
        · rw [t3, t4]
        · rw [t4, t2]; exact Int.le_refl _
        · rw [t3]; exact t5 i hi
    · rw [if_neg h1]
      exact k_q (by omega) (full 1 (Or.inr rfl))
end
