/-! ===== the reference tells a land: pairs, walkers ===== -/
section
variable {g : Int → Int} {e F E x : Int} {D D' : dL} {s s0 t : zS} {q : Int × Int} {c d v : Int}
/-- a pair -/
theorem p173 {x1 : Int} (ht : tOk g e) (hD : dOk D) (h : gS g e D F E s0 s) : Ok (m173 x1 s) (rK g e s0 (if D.1 0 1 < 8 then dPair g e D F E else .inl (5, x1))) := by
  have hI := hD.1.1
  unfold m173
  refine r_full hD h (by omega) (by omega) (by omega) (fun lt => ?_)
  unfold dPair
  refine r_new ht hD h (fun v F2 E2 s2 h2 => ?_) (fun q r t hb => k_e (u159 (bS_5 hb)) (k_e (u162 (bS_5 hb)) (k_e (u159 (bS_5 hb)) (k_e (u169 hb (Or.inl rfl)) (k_e (u159 (bS_5 hb)) (k_e (u162 (bS_5 hb)) (k_v (k_q (bS_5 hb) (k_r hb)))))))))
  refine r_word (a := 216) (l := sL 6) ht hD h2 (by decide) (by decide) (by decide) (fun _ s3 h3 _ _ => ?_) (fun q r t hb => k_e (u162 (bS_5 hb)) (k_e (u159 (bS_5 hb)) (k_e (u169 hb (Or.inl rfl)) (k_e (u159 (bS_5 hb)) (k_e (u162 (bS_5 hb)) (k_v (k_q (bS_5 hb) (k_r hb))))))))
  refine r_num ht hD h3 (fun y4 s4 y4a y4b h4 _ => ?_) (fun q r t hb => k_e (u159 (bS_5 hb)) (k_e (u169 hb (Or.inl rfl)) (k_e (u159 (bS_5 hb)) (k_e (u162 (bS_5 hb)) (k_v (k_q (bS_5 hb) (k_r hb)))))))
  refine r_word (a := 217) (l := sL 7) ht hD h4 (by decide) (by decide) (by decide) (fun _ s5 h5 _ _ => ?_) (fun q r t hb => k_e (u169 hb (Or.inl rfl)) (k_e (u159 (bS_5 hb)) (k_e (u162 (bS_5 hb)) (k_v (k_q (bS_5 hb) (k_r hb))))))
  refine r_one ht hD (Or.inl rfl) h5 (fun to F6 E6 s6 to0 to1 h6 _ => ?_) (fun q r t hb => k_e (u159 (bS_5 hb)) (k_e (u162 (bS_5 hb)) (k_v (k_q (bS_5 hb) (k_r hb)))))
  refine r_word (a := 218) (l := sL 8) ht hD h6 (by decide) (by decide) (by decide) (fun _ s7 h7 _ _ => ?_) (fun q r t hb => k_e (u162 (bS_5 hb)) (k_v (k_q (bS_5 hb) (k_r hb))))
  refine r_num ht hD h7 (fun y8 s8 y8a y8b h8 _ => k_v ?_) (fun q r t hb => k_v (k_q (bS_5 hb) (k_r hb)))
  rw [gS_5 h8]
  refine k_p rfl (k_c (p170 (c := D.1 0 1) (d := 1) (h8.2.1.1.1 1 (by omega) (by omega)) (by omega) (by omega) (by omega) (by omega)) ?_)
  rintro r u ⟨rfl, u1, u2, u3⟩
  refine k_z (by omega) (by omega) (k_x (by omega) (by omega) (k_v (k_z (by omega) (by omega) (k_x (by omega) (by omega) (k_v (k_z (by omega) (by omega) (k_x (by omega) (by omega) (k_v (k_r ?_)))))))))
  generalize y4.1 = sz at *
  generalize y8.1 = bb at *
  have fu := rlF_add (by omega) (by omega) (by omega) u3
  have fw : FrJ rwF s8 (sI (sI (sI u 245 (3 * D.1 0 1) sz) 245 (3 * D.1 0 1 + 1) to) 245 (3 * D.1 0 1 + 2) bb) := frj_trans fu (frj_trans (frj_I (rlF_p (by omega))) (frj_trans (frj_I (rlF_p (by omega))) (frj_I (rlF_p (by omega)))))
  refine gS_put h8 fw ?_
  have ru : ∀ a, a ≠ 242 → a ≠ 243 → u.1 a = s8.1 a := fun a ha hb => funext fun k => (u3.1 a k (fun z => by omega)).1
  have T0 : ∀ k, (sI (sI (sI u 245 (3 * D.1 0 1) sz) 245 (3 * D.1 0 1 + 1) to) 245 (3 * D.1 0 1 + 2) bb).1 242 k = if k = 1 then D.1 0 1 + 1 else s8.1 242 k := fun k => by rw [sI_a (by decide), sI_a (by decide), sI_a (by decide)]; exact u1 k
  have T1 : ∀ k, (sI (sI (sI u 245 (3 * D.1 0 1) sz) 245 (3 * D.1 0 1 + 1) to) 245 (3 * D.1 0 1 + 2) bb).2.1 243 k = if k = 8 * 1 + D.1 0 1 then v else s8.2.1 243 k := fun k => u2 k
  have T5 : ∀ k, (sI (sI (sI u 245 (3 * D.1 0 1) sz) 245 (3 * D.1 0 1 + 1) to) 245 (3 * D.1 0 1 + 2) bb).1 245 k = if k = 3 * D.1 0 1 + 2 then bb else if k = 3 * D.1 0 1 + 1 then to else if k = 3 * D.1 0 1 then sz else s8.1 245 k := fun k => by
    rw [sI_if, sI_if, sI_if, ru 245 (by decide) (by decide)]
    by_cases z : k = 3 * D.1 0 1 + 2
    · rw [if_pos ⟨rfl, z⟩, if_pos z]
    rw [if_neg (fun y => z y.2), if_neg z]
    by_cases z : k = 3 * D.1 0 1 + 1
    · rw [if_pos ⟨rfl, z⟩, if_pos z]
    rw [if_neg (fun y => z y.2), if_neg z]
    by_cases z : k = 3 * D.1 0 1
    · rw [if_pos ⟨rfl, z⟩, if_pos z]
    · rw [if_neg (fun y => z y.2), if_neg z]
  have ro : ∀ a', a' ≠ 242 → a' ≠ 243 → a' ≠ 245 → (sI (sI (sI u 245 (3 * D.1 0 1) sz) 245 (3 * D.1 0 1 + 1) to) 245 (3 * D.1 0 1 + 2) bb).1 a' = s8.1 a' := fun a' ha h3 hb => by rw [← ru a' ha h3]; exact funext fun k => by rw [sI_a hb, sI_a hb, sI_a hb]
  generalize sI (sI (sI u 245 (3 * D.1 0 1) sz) 245 (3 * D.1 0 1 + 1) to) 245 (3 * D.1 0 1 + 2) bb = w at *
  have e0 : ∀ k, (dU (dU (dU (dAdd D 1 v) 3 (3 * D.1 0 1) sz) 3 (3 * D.1 0 1 + 1) to) 3 (3 * D.1 0 1 + 2) bb).1 0 k = if k = 1 then D.1 0 1 + 1 else D.1 0 k := fun k => by rw [dU_r (by decide), dU_r (by decide), dU_r (by decide)]; unfold dAdd; rw [dU_s, dU_r (by decide)]
  have e1 : ∀ k, (dU (dU (dU (dAdd D 1 v) 3 (3 * D.1 0 1) sz) 3 (3 * D.1 0 1 + 1) to) 3 (3 * D.1 0 1 + 2) bb).1 1 k = if k = 8 * 1 + D.1 0 1 then v else D.1 1 k := fun k => by rw [dU_r (by decide), dU_r (by decide), dU_r (by decide)]; unfold dAdd; rw [dU_r (by decide), dU_s]
  have e3 : ∀ k, (dU (dU (dU (dAdd D 1 v) 3 (3 * D.1 0 1) sz) 3 (3 * D.1 0 1 + 1) to) 3 (3 * D.1 0 1 + 2) bb).1 3 k = if k = 3 * D.1 0 1 + 2 then bb else if k = 3 * D.1 0 1 + 1 then to else if k = 3 * D.1 0 1 then sz else D.1 3 k := fun k => by rw [dU_s, dU_s, dU_s]; unfold dAdd; rw [dU_r (by decide), dU_r (by decide)]
  have er : ∀ r k, r ≠ 0 → r ≠ 1 → r ≠ 3 → (dU (dU (dU (dAdd D 1 v) 3 (3 * D.1 0 1) sz) 3 (3 * D.1 0 1 + 1) to) 3 (3 * D.1 0 1 + 2) bb).1 r k = D.1 r k := fun r k h0 h1 h3 => by rw [dU_r h3, dU_r h3, dU_r h3]; unfold dAdd; rw [dU_r h0, dU_r h1]
  have em : (dU (dU (dU (dAdd D 1 v) 3 (3 * D.1 0 1) sz) 3 (3 * D.1 0 1 + 1) to) 3 (3 * D.1 0 1 + 2) bb).2 = D.2 := rfl
  have hadd := rD_add (D' := dU (dU (dU (dAdd D 1 v) 3 (3 * D.1 0 1) sz) 3 (3 * D.1 0 1 + 1) to) 3 (3 * D.1 0 1 + 2) bb) h8.2.1 rfl e0 e1 T0 T1
  generalize dU (dU (dU (dAdd D 1 v) 3 (3 * D.1 0 1) sz) 3 (3 * D.1 0 1 + 1) to) 3 (3 * D.1 0 1 + 2) bb = X at *
  have hr := h8.2.1
  have e1' : X.1 0 1 = D.1 0 1 + 1 := by rw [e0, if_pos rfl]
  have e2' : X.1 0 2 = D.1 0 2 := by rw [e0, if_neg (by decide)]
  unfold rD rDr rDp rDw rDs dLn
  rw [ro 244 (by decide) (by decide) (by decide), ro 246 (by decide) (by decide) (by decide), ro 247 (by decide) (by decide) (by decide), ro 248 (by decide) (by decide) (by decide), ro 249 (by decide) (by decide) (by decide), ro 250 (by decide) (by decide) (by decide), ro 251 (by decide) (by decide) (by decide), ro 209 (by decide) (by decide) (by decide), em, e1', e2', er 6 _ (by decide) (by decide) (by decide), er 6 _ (by decide) (by decide) (by decide), er 6 _ (by decide) (by decide) (by decide)]
  refine ⟨hadd, fun k k0 k1 => ?_, fun p p0 p1 => ?_, fun w w0 w1 => ?_, hr.2.2.2.2.1, hr.2.2.2.2.2.1, hr.2.2.2.2.2.2⟩
  · rw [er 2 _ (by decide) (by decide) (by decide)]; exact hr.2.1 k k0 k1
  · rw [T5, T5, T5, e3, e3, e3]
    by_cases z : p = D.1 0 1
    · rw [z]
      refine ⟨?_, ?_, ?_⟩
      · rw [if_neg (by omega), if_neg (by omega), if_pos rfl, if_neg (by omega), if_neg (by omega), if_pos rfl]
      · rw [if_neg (by omega), if_pos rfl, if_neg (by omega), if_pos rfl]
      · rw [if_pos rfl, if_pos rfl]
    · have hp := hr.2.2.1 p p0 (by omega)
      rw [hp.1, hp.2.1, hp.2.2]
      exact ⟨rfl, rfl, rfl⟩
  · rw [er 4 _ (by decide) (by decide) (by decide), er 4 _ (by decide) (by decide) (by decide), er 4 _ (by decide) (by decide) (by decide), er 5 _ (by decide) (by decide) (by decide)]; exact hr.2.2.2.1 w w0 w1
/-- whether a pair is worn; the walker -/
theorem u174_84 {x2 x4 x5 x6 x7 : Int} (hb : bS s0 q s) : ∀ (n j : Nat) (i : Int), i = s.1 242 2 - (j : Int) → 0 ≤ i → j < n → Ok (m174_84 n x2 x4 x5 x6 x7 i s) (rK g e s0 (.inl q)) := by
  have h2 := hb.2.2.2.1
  intro n
  induction n with
  | zero => intro j i _ _ h; omega
  | succ n ih =>
    intro j i hi i0 hj
    rw [m174_84]
    refine k_x (by omega) (by omega) (k_v ?_)
    cases j with
    | zero => exact k_q (by omega) (k_v (k_q (bS_5 hb) (k_r hb)))
    | succ j => exact k_p (by omega) (k_v (k_q (bS_5 hb) (k_z (by omega) (by omega) (ih j (i + 1) (by omega) (by omega) (by omega)))))
theorem u174 {x2 x4 x5 x6 x7 : Int} (hb : bS s0 q s) : Ok (m174_84 zFu x2 x4 x5 x6 x7 0 s) (rK g e s0 (.inl q)) := by
  have h2 := hb.2.2.2.1
  exact u174_84 hb zFu (s.1 242 2).toNat 0 (by omega) (by omega) (by unfold zFu; omega)
theorem p174_84 {v sz wl to pr F9 : Int} (hD : dOk D) (h : gS g e D F E s0 s) (h40 : s.1 209 40 = F9) (lt : D.1 0 2 < 6) : ∀ (n j : Nat) (i : Int), i = D.1 0 2 - (j : Int) → 0 ≤ i → j < n → fnd (fun w => D.1 5 w) pr (D.1 0 2).toNat 0 = fnd (fun w => D.1 5 w) pr j i → Ok (m174_84 n v sz wl to pr i s) (rK g e s0 (if fnd (fun w => D.1 5 w) pr (D.1 0 2).toNat 0 ≠ -1 then .inl (3, F9) else .inr (dU (dU (dU (dU (dAdd D 2 v) 4 (3 * D.1 0 2) sz) 4 (3 * D.1 0 2 + 1) wl) 4 (3 * D.1 0 2 + 2) to) 5 (D.1 0 2) pr, F, E))) := by
  have hI := hD.1.1
  have h2 := h.2.1.1.1 2 (by omega) (by omega)
  intro n
  induction n with
  | zero => intro j i _ _ h; omega
  | succ n ih =>
    intro j i hi i0 hj hfn
    rw [m174_84]
    refine k_x (by omega) (by omega) (k_v ?_)
    rw [h2]
    cases j with
    | succ j =>
      refine k_p (by omega) (k_v ?_)
      rw [gS_5 h]
      refine k_p rfl (k_x (by omega) (by omega) (k_v ?_))
      rw [(h.2.1.2.2.2.1 i i0 (by omega)).2.2.2]
      have hfs : fnd (fun w => D.1 5 w) pr (j + 1) i = if D.1 5 i = pr then i else fnd (fun w => D.1 5 w) pr j (i + 1) := rfl
      by_cases c : D.1 5 i = pr
      · rw [if_pos c] at hfs
        rw [hfs] at hfn
        refine k_p c (k_v (k_c (p153 (gS_5 h)) ?_))
        rintro _ u ⟨u5, u6, u3⟩
        have hb : bS s0 (3, F9) u := bS_of hD h (by decide) u5 (by rw [u6, h40]) (fr_mono (fun a k z => by omega) u3)
        rw [if_pos (by omega)]
        have hu2 : u.1 242 2 = D.1 0 2 := by rw [u3.1 242 2 (by omega)]; exact h2
        exact k_z (by omega) (by omega) (u174_84 hb n j (i + 1) (by omega) (by omega) (by omega))
      · rw [if_neg c] at hfs
        rw [hfs] at hfn
        exact k_q c (k_z (by omega) (by omega) (ih j (i + 1) (by omega) (by omega) (by omega) hfn))
    | zero =>
      have hfz : fnd (fun w => D.1 5 w) pr 0 i = -1 := rfl
      rw [hfz] at hfn
      rw [if_neg (show ¬ fnd (fun w => D.1 5 w) pr (D.1 0 2).toNat 0 ≠ -1 from fun z => z hfn)]
      refine k_q (by omega) (k_v ?_)
      rw [gS_5 h]
      refine k_p rfl (k_c (p170 (c := D.1 0 2) (d := 2) h2 (by omega) (by omega) (by omega) (by omega)) ?_)
      rintro r u ⟨rfl, u1, u2, u3⟩
      refine k_z (by omega) (by omega) (k_x (by omega) (by omega) (k_v (k_z (by omega) (by omega) (k_z (by omega) (by omega) (k_x (by omega) (by omega) (k_v (k_z (by omega) (by omega) (k_z (by omega) (by omega) (k_x (by omega) (by omega) (k_v (k_x (by omega) (by omega) (k_v (k_r ?_)))))))))))))
      have fu := rlF_add (by omega) (by omega) (by omega) u3
      have fw : FrJ rwF s (sI (sI (sI (sI u 246 (3 * D.1 0 2) sz) 246 (3 * D.1 0 2 + 1) wl) 246 (3 * D.1 0 2 + 2) to) 247 (D.1 0 2) pr) := frj_trans fu (frj_trans (frj_I (rlF_w (by omega))) (frj_trans (frj_I (rlF_w (by omega))) (frj_trans (frj_I (rlF_w (by omega))) (frj_I rlF_v))))
      refine gS_put h fw ?_
      have ru : ∀ a, a ≠ 242 → a ≠ 243 → u.1 a = s.1 a := fun a ha hb => funext fun k => (u3.1 a k (fun z => by omega)).1
      have T0 : ∀ k, (sI (sI (sI (sI u 246 (3 * D.1 0 2) sz) 246 (3 * D.1 0 2 + 1) wl) 246 (3 * D.1 0 2 + 2) to) 247 (D.1 0 2) pr).1 242 k = if k = 2 then D.1 0 2 + 1 else s.1 242 k := fun k => by rw [sI_a (by decide), sI_a (by decide), sI_a (by decide), sI_a (by decide)]; exact u1 k
      have T1 : ∀ k, (sI (sI (sI (sI u 246 (3 * D.1 0 2) sz) 246 (3 * D.1 0 2 + 1) wl) 246 (3 * D.1 0 2 + 2) to) 247 (D.1 0 2) pr).2.1 243 k = if k = 8 * 2 + D.1 0 2 then v else s.2.1 243 k := fun k => u2 k
      have T6 : ∀ k, (sI (sI (sI (sI u 246 (3 * D.1 0 2) sz) 246 (3 * D.1 0 2 + 1) wl) 246 (3 * D.1 0 2 + 2) to) 247 (D.1 0 2) pr).1 246 k = if k = 3 * D.1 0 2 + 2 then to else if k = 3 * D.1 0 2 + 1 then wl else if k = 3 * D.1 0 2 then sz else s.1 246 k := fun k => by
        rw [sI_a (by decide), sI_if, sI_if, sI_if, ru 246 (by decide) (by decide)]
        by_cases z : k = 3 * D.1 0 2 + 2
        · rw [if_pos ⟨rfl, z⟩, if_pos z]
        rw [if_neg (fun y => z y.2), if_neg z]
        by_cases z : k = 3 * D.1 0 2 + 1
        · rw [if_pos ⟨rfl, z⟩, if_pos z]
        rw [if_neg (fun y => z y.2), if_neg z]
        by_cases z : k = 3 * D.1 0 2
        · rw [if_pos ⟨rfl, z⟩, if_pos z]
        · rw [if_neg (fun y => z y.2), if_neg z]
      have T7 : ∀ k, (sI (sI (sI (sI u 246 (3 * D.1 0 2) sz) 246 (3 * D.1 0 2 + 1) wl) 246 (3 * D.1 0 2 + 2) to) 247 (D.1 0 2) pr).1 247 k = if k = D.1 0 2 then pr else s.1 247 k := fun k => by
        rw [sI_if]
        by_cases z : k = D.1 0 2
        · rw [if_pos ⟨rfl, z⟩, if_pos z]
        · rw [if_neg (fun y => z y.2), if_neg z, sI_a (by decide), sI_a (by decide), sI_a (by decide), ru 247 (by decide) (by decide)]
      have ro : ∀ a', a' ≠ 242 → a' ≠ 243 → a' ≠ 246 → a' ≠ 247 → (sI (sI (sI (sI u 246 (3 * D.1 0 2) sz) 246 (3 * D.1 0 2 + 1) wl) 246 (3 * D.1 0 2 + 2) to) 247 (D.1 0 2) pr).1 a' = s.1 a' := fun a' ha h3 hb hc => by rw [← ru a' ha h3]; exact funext fun k => by rw [sI_a hc, sI_a hb, sI_a hb, sI_a hb]
      generalize sI (sI (sI (sI u 246 (3 * D.1 0 2) sz) 246 (3 * D.1 0 2 + 1) wl) 246 (3 * D.1 0 2 + 2) to) 247 (D.1 0 2) pr = w at *
      have e0 : ∀ k, (dU (dU (dU (dU (dAdd D 2 v) 4 (3 * D.1 0 2) sz) 4 (3 * D.1 0 2 + 1) wl) 4 (3 * D.1 0 2 + 2) to) 5 (D.1 0 2) pr).1 0 k = if k = 2 then D.1 0 2 + 1 else D.1 0 k := fun k => by rw [dU_r (by decide), dU_r (by decide), dU_r (by decide), dU_r (by decide)]; unfold dAdd; rw [dU_s, dU_r (by decide)]
      have e1 : ∀ k, (dU (dU (dU (dU (dAdd D 2 v) 4 (3 * D.1 0 2) sz) 4 (3 * D.1 0 2 + 1) wl) 4 (3 * D.1 0 2 + 2) to) 5 (D.1 0 2) pr).1 1 k = if k = 8 * 2 + D.1 0 2 then v else D.1 1 k := fun k => by rw [dU_r (by decide), dU_r (by decide), dU_r (by decide), dU_r (by decide)]; unfold dAdd; rw [dU_r (by decide), dU_s]
      have e4 : ∀ k, (dU (dU (dU (dU (dAdd D 2 v) 4 (3 * D.1 0 2) sz) 4 (3 * D.1 0 2 + 1) wl) 4 (3 * D.1 0 2 + 2) to) 5 (D.1 0 2) pr).1 4 k = if k = 3 * D.1 0 2 + 2 then to else if k = 3 * D.1 0 2 + 1 then wl else if k = 3 * D.1 0 2 then sz else D.1 4 k := fun k => by rw [dU_r (by decide), dU_s, dU_s, dU_s]; unfold dAdd; rw [dU_r (by decide), dU_r (by decide)]
      have e5 : ∀ k, (dU (dU (dU (dU (dAdd D 2 v) 4 (3 * D.1 0 2) sz) 4 (3 * D.1 0 2 + 1) wl) 4 (3 * D.1 0 2 + 2) to) 5 (D.1 0 2) pr).1 5 k = if k = D.1 0 2 then pr else D.1 5 k := fun k => by rw [dU_s, dU_r (by decide), dU_r (by decide), dU_r (by decide)]; unfold dAdd; rw [dU_r (by decide), dU_r (by decide)]
      have er : ∀ r k, r ≠ 0 → r ≠ 1 → r ≠ 4 → r ≠ 5 → (dU (dU (dU (dU (dAdd D 2 v) 4 (3 * D.1 0 2) sz) 4 (3 * D.1 0 2 + 1) wl) 4 (3 * D.1 0 2 + 2) to) 5 (D.1 0 2) pr).1 r k = D.1 r k := fun r k h0 h1 h4 h5 => by rw [dU_r h5, dU_r h4, dU_r h4, dU_r h4]; unfold dAdd; rw [dU_r h0, dU_r h1]
      have em : (dU (dU (dU (dU (dAdd D 2 v) 4 (3 * D.1 0 2) sz) 4 (3 * D.1 0 2 + 1) wl) 4 (3 * D.1 0 2 + 2) to) 5 (D.1 0 2) pr).2 = D.2 := rfl
      have hadd := rD_add (D' := dU (dU (dU (dU (dAdd D 2 v) 4 (3 * D.1 0 2) sz) 4 (3 * D.1 0 2 + 1) wl) 4 (3 * D.1 0 2 + 2) to) 5 (D.1 0 2) pr) h.2.1 rfl e0 e1 T0 T1
      show rD (dU (dU (dU (dU (dAdd D 2 v) 4 (3 * D.1 0 2) sz) 4 (3 * D.1 0 2 + 1) wl) 4 (3 * D.1 0 2 + 2) to) 5 (D.1 0 2) pr) w
      clear ih
      generalize dU (dU (dU (dU (dAdd D 2 v) 4 (3 * D.1 0 2) sz) 4 (3 * D.1 0 2 + 1) wl) 4 (3 * D.1 0 2 + 2) to) 5 (D.1 0 2) pr = X at *
      have hr := h.2.1
      have e1' : X.1 0 1 = D.1 0 1 := by rw [e0, if_neg (by decide)]
      have e2' : X.1 0 2 = D.1 0 2 + 1 := by rw [e0, if_pos rfl]
      unfold rD rDr rDp rDw rDs dLn
      rw [ro 244 (by decide) (by decide) (by decide) (by decide), ro 245 (by decide) (by decide) (by decide) (by decide), ro 248 (by decide) (by decide) (by decide) (by decide), ro 249 (by decide) (by decide) (by decide) (by decide), ro 250 (by decide) (by decide) (by decide) (by decide), ro 251 (by decide) (by decide) (by decide) (by decide), ro 209 (by decide) (by decide) (by decide) (by decide), em, e1', e2', er 6 _ (by decide) (by decide) (by decide) (by decide), er 6 _ (by decide) (by decide) (by decide) (by decide), er 6 _ (by decide) (by decide) (by decide) (by decide)]
      refine ⟨hadd, fun k k0 k1 => ?_, fun p p0 p1 => ?_, fun w' w0 w1 => ?_, hr.2.2.2.2.1, hr.2.2.2.2.2.1, hr.2.2.2.2.2.2⟩
      · rw [er 2 _ (by decide) (by decide) (by decide) (by decide)]; exact hr.2.1 k k0 k1
      · rw [er 3 _ (by decide) (by decide) (by decide) (by decide), er 3 _ (by decide) (by decide) (by decide) (by decide), er 3 _ (by decide) (by decide) (by decide) (by decide)]; exact hr.2.2.1 p p0 p1
      · rw [T6, T6, T6, e4, e4, e4, T7, e5]
        by_cases z : w' = D.1 0 2
        · rw [z]
          refine ⟨?_, ?_, ?_, ?_⟩
          · rw [if_neg (by omega), if_neg (by omega), if_pos rfl, if_neg (by omega), if_neg (by omega), if_pos rfl]
          · rw [if_neg (by omega), if_pos rfl, if_neg (by omega), if_pos rfl]
          · rw [if_pos rfl, if_pos rfl]
          · rw [if_pos rfl, if_pos rfl]
        · have hp := hr.2.2.2.1 w' w0 (by omega)
          rw [hp.1, hp.2.1, hp.2.2.1, hp.2.2.2]
          exact ⟨rfl, rfl, rfl, rfl⟩
/-- a walker -/
theorem p174 {x1 : Int} (ht : tOk g e) (hD : dOk D) (h : gS g e D F E s0 s) : Ok (m174 x1 s) (rK g e s0 (if D.1 0 2 < 6 then dWalk g e D F E else .inl (5, x1))) := by
  have hI := hD.1.1
  unfold m174
  refine r_full hD h (by omega) (by omega) (by omega) (fun lt => ?_)
  unfold dWalk
  refine r_new ht hD h (fun v F2 E2 s2 h2 => ?_) (fun q r t hb => k_e (u159 (bS_5 hb)) (k_e (u162 (bS_5 hb)) (k_e (u159 (bS_5 hb)) (k_e (u162 (bS_5 hb)) (k_e (u159 (bS_5 hb)) (k_e (u169 hb (Or.inl rfl)) (k_e (u159 (bS_5 hb)) (k_e (u169 hb (Or.inr rfl)) (u174 hb)))))))))
  refine r_word (a := 216) (l := sL 6) ht hD h2 (by decide) (by decide) (by decide) (fun _ s3 h3 _ _ => ?_) (fun q r t hb => k_e (u162 (bS_5 hb)) (k_e (u159 (bS_5 hb)) (k_e (u162 (bS_5 hb)) (k_e (u159 (bS_5 hb)) (k_e (u169 hb (Or.inl rfl)) (k_e (u159 (bS_5 hb)) (k_e (u169 hb (Or.inr rfl)) (u174 hb))))))))
  refine r_num ht hD h3 (fun y4 s4 y4a y4b h4 _ => ?_) (fun q r t hb => k_e (u159 (bS_5 hb)) (k_e (u162 (bS_5 hb)) (k_e (u159 (bS_5 hb)) (k_e (u169 hb (Or.inl rfl)) (k_e (u159 (bS_5 hb)) (k_e (u169 hb (Or.inr rfl)) (u174 hb)))))))
  refine r_word (a := 220) (l := sL 10) ht hD h4 (by decide) (by decide) (by decide) (fun _ s5 h5 _ _ => ?_) (fun q r t hb => k_e (u162 (bS_5 hb)) (k_e (u159 (bS_5 hb)) (k_e (u169 hb (Or.inl rfl)) (k_e (u159 (bS_5 hb)) (k_e (u169 hb (Or.inr rfl)) (u174 hb))))))
  refine r_num ht hD h5 (fun y6 s6 y6a y6b h6 _ => ?_) (fun q r t hb => k_e (u159 (bS_5 hb)) (k_e (u169 hb (Or.inl rfl)) (k_e (u159 (bS_5 hb)) (k_e (u169 hb (Or.inr rfl)) (u174 hb)))))
  refine r_word (a := 221) (l := sL 11) ht hD h6 (by decide) (by decide) (by decide) (fun _ s7 h7 _ _ => ?_) (fun q r t hb => k_e (u169 hb (Or.inl rfl)) (k_e (u159 (bS_5 hb)) (k_e (u169 hb (Or.inr rfl)) (u174 hb))))
  refine r_one ht hD (Or.inl rfl) h7 (fun to F8 E8 s8 to0 to1 h8 _ => ?_) (fun q r t hb => k_e (u159 (bS_5 hb)) (k_e (u169 hb (Or.inr rfl)) (u174 hb)))
  refine r_word (a := 222) (l := sL 12) ht hD h8 (by decide) (by decide) (by decide) (fun _ s9 h9 _ _ => ?_) (fun q r t hb => k_e (u169 hb (Or.inr rfl)) (u174 hb))
  refine r_one ht hD (Or.inr rfl) h9 (fun pr F10 E10 s10 pr0 pr1 h10 t40 => ?_) (fun q r t hb => u174 hb)
  exact p174_84 hD h10 t40 lt zFu (D.1 0 2).toNat 0 (by omega) (by omega) (by unfold zFu; omega) rfl
end
