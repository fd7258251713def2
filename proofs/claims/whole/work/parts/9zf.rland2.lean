/-! ===== the reference tells a land: places, roads, pairs, walkers ===== -/
section
variable {g : Int → Int} {e F E x : Int} {D D' : dL} {s s0 t : zS} {q : Int × Int} {c d v : Int}
abbrev rwF (a : Nat) (k : Int) : Prop := 242 ≤ a ∧ a ≤ 251 ∧ rlF a k
theorem gS_put (h : gS g e D F E s0 s) (hf : FrJ rwF s t) (hr : rD D' t) : gS g e D' F E s0 t :=
  ⟨nN_fr (A := rwF) (fun a k z => by omega) h.1 (rLx_fr (A := rwF) (fun a k z => by omega) hf h.1.2.1) h.1.1 hf, hr, frj_trans h.2.2 (frj_mono (fun a k z => z.2.2) hf)⟩
theorem p170 (hc : s.1 242 d = c) (d0 : 0 ≤ d) (d3 : d < 3) (c0 : 0 ≤ c) (c8 : c < 8) : Ok (m170 d v s) (fun r t => r = c ∧ (∀ k, t.1 242 k = if k = d then c + 1 else s.1 242 k) ∧ (∀ k, t.2.1 243 k = if k = 8 * d + c then v else s.2.1 243 k) ∧ FrJ (fun a k => (a = 242 ∧ k = d) ∨ (a = 243 ∧ k = 8 * d + c)) s t) := by
  unfold m170
  refine k_z (by omega) (by omega) (k_x (by omega) (by omega) (k_v ?_))
  rw [hc]
  refine k_z (by omega) (by omega) (k_x (by omega) (by omega) (k_v (k_x (by omega) (by omega) (k_v ?_))))
  rw [sJ_1, hc]
  refine k_z (by omega) (by omega) (k_x (by omega) (by omega) (k_v (k_x (by omega) (by omega) (k_v ?_))))
  rw [sI_e]
  refine k_z (by omega) (by omega) (k_r ⟨by omega, fun k => ?_, fun k => ?_, frj_trans (frj_J (Or.inr ⟨rfl, rfl⟩)) (frj_I (Or.inl ⟨rfl, rfl⟩))⟩)
  · rw [sI_if]
    by_cases z : k = d
    · rw [if_pos ⟨rfl, z⟩, if_pos z]
    · rw [if_neg (fun y => z y.2), if_neg z]; rfl
  · show (sJ s 243 (8 * d + c) v).2.1 243 k = _
    rw [sJ_if]
    by_cases z : k = 8 * d + c
    · rw [if_pos ⟨rfl, z⟩, if_pos z]
    · rw [if_neg (fun y => z y.2), if_neg z]
theorem rD_add (h : rD D s) (hc : D.1 0 d = c) (E0 : ∀ k, D'.1 0 k = if k = d then c + 1 else D.1 0 k) (E1 : ∀ k, D'.1 1 k = if k = 8 * d + c then v else D.1 1 k) (T0 : ∀ k, t.1 242 k = if k = d then c + 1 else s.1 242 k) (T1 : ∀ k, t.2.1 243 k = if k = 8 * d + c then v else s.2.1 243 k) : rDc D' (t.1 242) ∧ rDn D' (t.2.1 243) := by
  refine ⟨fun k k0 k4 => ?_, fun d' i d0 d3 i0 i1 => ?_⟩
  · rw [E0, T0]
    by_cases z : k = d
    · rw [if_pos z, if_pos z]
    · rw [if_neg z, if_neg z]; exact h.1.1 k k0 k4
  · rw [E1, T1]
    by_cases z : 8 * d' + i = 8 * d + c
    · rw [if_pos z, if_pos z]
    · rw [if_neg z, if_neg z]
      refine h.1.2 d' i d0 d3 i0 ?_
      rw [E0] at i1
      by_cases y : d' = d
      · rw [if_pos y] at i1
        rw [y, hc]
        rw [y] at z
        omega
      · rw [if_neg y] at i1; exact i1
/-- whether there is room -/
theorem r_full {K : zS → Option (Int × zS)} {X : dR} {lim x1 : Int} (hD : dOk D) (h : gS g e D F E s0 s) (d0 : 0 ≤ d) (d4 : d < 4) (hle : D.1 0 d ≤ lim) (hK : D.1 0 d < lim → Ok (K s) (rK g e s0 X)) : Ok (oC (m166 d lim x1 s) fun z t => if z = (0 : Int) then K t else some ((0 : Int), t)) (rK g e s0 (if D.1 0 d < lim then X else .inl (5, x1))) := by
  refine k_c (Q := fun r t => Ok (if r = (0 : Int) then K t else some ((0 : Int), t)) (rK g e s0 (if D.1 0 d < lim then X else .inl (5, x1)))) ?_ (fun r t q => q)
  unfold m166
  refine k_v ?_
  rw [gS_5 h]
  refine k_p rfl (k_x (by omega) (by omega) (k_v ?_))
  rw [h.2.1.1.1 d d0 d4]
  by_cases z : D.1 0 d = lim
  · refine k_p z (k_c (p153 (gS_5 h)) ?_)
    rintro _ u ⟨u5, u6, u3⟩
    have hb : bS s0 (5, x1) u := bS_of hD h (by decide) u5 u6 (fr_mono (fun a k z => by omega) u3)
    unfold m166_23
    refine k_v (k_q (bS_5 hb) (k_r ?_))
    rw [if_neg (show ¬ D.1 0 d < lim by omega)]
    exact k_q (by decide) (k_r hb)
  · refine k_q z ?_
    unfold m166_23
    refine k_v (k_p (gS_5 h) (k_r ?_))
    rw [if_pos (show D.1 0 d < lim by omega)]
    exact k_p rfl (hK (by omega))
theorem rlF_c {k : Int} (h : k < 4) : rwF 242 k := ⟨by omega, by omega, by unfold rlF; simp [h]⟩
theorem rlF_n {k : Int} (h : k < 24) : rwF 243 k := ⟨by omega, by omega, by unfold rlF; simp [h]⟩
theorem rlF_r {k : Int} (h : k < 49) : rwF 244 k := ⟨by omega, by omega, by unfold rlF; simp [h]⟩
theorem rlF_p {k : Int} (h : k < 24) : rwF 245 k := ⟨by omega, by omega, by unfold rlF; simp [h]⟩
theorem rlF_w {k : Int} (h : k < 18) : rwF 246 k := ⟨by omega, by omega, by unfold rlF; simp [h]⟩
theorem rlF_v {k : Int} : rwF 247 k := ⟨by omega, by omega, by unfold rlF; simp⟩
theorem rlF_s {k : Int} (h : k < 3) : rwF 248 k := ⟨by omega, by omega, by unfold rlF; simp [h]⟩
theorem rlF_add (d0 : 0 ≤ d) (d3 : d < 3) (c8 : c < 8) (h : FrJ (fun a k => (a = 242 ∧ k = d) ∨ (a = 243 ∧ k = 8 * d + c)) s t) : FrJ rwF s t := by
  refine frj_mono (fun a k z => ?_) h
  rcases z with ⟨rfl, rfl⟩ | ⟨rfl, rfl⟩
  · exact rlF_c (by omega)
  · exact rlF_n (by omega)
/-- a place -/
theorem p171 {x1 : Int} (ht : tOk g e) (hD : dOk D) (h : gS g e D F E s0 s) : Ok (m171 x1 s) (rK g e s0 (if D.1 0 0 < 7 then dPlace g e D F E else .inl (5, x1))) := by
  have hI := hD.1.1
  unfold m171
  refine r_full hD h (by omega) (by omega) (by omega) (fun lt => ?_)
  unfold dPlace
  refine r_new ht hD h (fun v F2 E2 t ht' => k_v ?_) (fun q r t hb => k_v (k_q (bS_5 hb) (k_r hb)))
  rw [gS_5 ht']
  refine k_p rfl (k_c (p170 (c := D.1 0 0) (d := 0) (ht'.2.1.1.1 0 (by omega) (by omega)) (by omega) (by omega) (by omega) (by omega)) ?_)
  rintro r u ⟨rfl, u1, u2, u3⟩
  refine k_r (gS_put ht' (rlF_add (by omega) (by omega) (by omega) u3) ?_)
  have e0 : ∀ k, (dAdd D 0 v).1 0 k = if k = 0 then D.1 0 0 + 1 else D.1 0 k := fun k => by unfold dAdd; rw [dU_s, dU_r (by decide)]
  have e1 : ∀ k, (dAdd D 0 v).1 1 k = if k = 8 * 0 + D.1 0 0 then v else D.1 1 k := fun k => by unfold dAdd; rw [dU_r (by decide), dU_s]
  have er : ∀ r k, r ≠ 0 → r ≠ 1 → (dAdd D 0 v).1 r k = D.1 r k := fun r k h0 h1 => by unfold dAdd; rw [dU_r h0, dU_r h1]
  have em : (dAdd D 0 v).2 = D.2 := rfl
  have ro : ∀ a, a ≠ 242 → a ≠ 243 → u.1 a = t.1 a := fun a ha hb => funext fun k => (u3.1 a k (fun z => by omega)).1
  have hadd := rD_add ht'.2.1 rfl e0 e1 u1 u2
  generalize dAdd D 0 v = X at *
  have hr := ht'.2.1
  have e1' : X.1 0 1 = D.1 0 1 := by rw [e0, if_neg (by decide)]
  have e2' : X.1 0 2 = D.1 0 2 := by rw [e0, if_neg (by decide)]
  unfold rD rDr rDp rDw rDs dLn
  rw [ro 244 (by decide) (by decide), ro 245 (by decide) (by decide), ro 246 (by decide) (by decide), ro 247 (by decide) (by decide), ro 248 (by decide) (by decide), ro 249 (by decide) (by decide), ro 250 (by decide) (by decide), ro 251 (by decide) (by decide), ro 209 (by decide) (by decide), em, e1', e2', er 6 _ (by decide) (by decide), er 6 _ (by decide) (by decide), er 6 _ (by decide) (by decide)]
  refine ⟨hadd, fun k k0 k1 => ?_, fun p p0 p1 => ?_, fun w w0 w1 => ?_, hr.2.2.2.2.1, hr.2.2.2.2.2.1, hr.2.2.2.2.2.2⟩
  · rw [er 2 _ (by decide) (by decide)]; exact hr.2.1 k k0 k1
  · rw [er 3 _ (by decide) (by decide), er 3 _ (by decide) (by decide), er 3 _ (by decide) (by decide)]; exact hr.2.2.1 p p0 p1
  · rw [er 4 _ (by decide) (by decide), er 4 _ (by decide) (by decide), er 4 _ (by decide) (by decide), er 5 _ (by decide) (by decide)]; exact hr.2.2.2.1 w w0 w1
/-- a road: behind its ends -/
theorem u172_59 {a b : Int} (hb : bS s0 q s) : Ok (m172_59 a b s) (rK g e s0 (.inl q)) := by
  unfold m172_59
  refine k_e (u159 (bS_5 hb)) (k_e (u162 (bS_5 hb)) (k_v (k_q (bS_5 hb) (k_r hb))))
theorem p172_59 {a b : Int} (ht : tOk g e) (hD : dOk D) (h : gS g e D F E s0 s) (a0 : 0 ≤ a) (a1 : a < D.1 0 0) (b0 : 0 ≤ b) (b1 : b < D.1 0 0) (lt : D.1 0 3 < 12) : Ok (m172_59 a b s) (rK g e s0 (tW g e (sL 4) F E fun F4 E4 => tN g e 1 9 F4 E4 fun n F5 E5 => .inr (dU (dU (dU D 2 (7 * a + b) n) 2 (7 * b + a) n) 0 3 (D.1 0 3 + 1), F5, E5))) := by
  have hI := hD.1.1
  unfold m172_59
  refine r_word (a := 214) (l := sL 4) ht hD h (by decide) (by decide) (by decide) (fun r t ht' _ _ => ?_) (fun q r t hb => k_e (u162 (bS_5 hb)) (k_v (k_q (bS_5 hb) (k_r hb))))
  refine r_num ht hD ht' (fun y u y1 y9 hu _ => k_v ?_) (fun q r t hb => k_v (k_q (bS_5 hb) (k_r hb)))
  rw [gS_5 hu]
  refine k_p rfl (k_z (by omega) (by omega) (k_z (by omega) (by omega) (k_x (by omega) (by omega) (k_v (k_z (by omega) (by omega) (k_z (by omega) (by omega) (k_x (by omega) (by omega) (k_v (k_x (by omega) (by omega) (k_v ?_))))))))))
  have h3 := hu.2.1.1.1 3 (by omega) (by omega)
  rw [sI_a (by decide), sI_a (by decide), h3]
  refine k_z (by omega) (by omega) (k_x (by omega) (by omega) (k_v (k_r ?_)))
  generalize y.1 = n at *
  have fw : FrJ rwF u (sI (sI (sI u 244 (7 * a + b) n) 244 (7 * b + a) n) 242 3 (D.1 0 3 + 1)) := frj_trans (frj_I (rlF_r (by omega))) (frj_trans (frj_I (rlF_r (by omega))) (frj_I (rlF_c (by omega))))
  refine gS_put hu fw ?_
  have T0 : ∀ k, (sI (sI (sI u 244 (7 * a + b) n) 244 (7 * b + a) n) 242 3 (D.1 0 3 + 1)).1 242 k = if k = 3 then D.1 0 3 + 1 else u.1 242 k := fun k => by
    rw [sI_if]
    by_cases z : k = 3
    · rw [if_pos ⟨rfl, z⟩, if_pos z]
    · rw [if_neg (fun y => z y.2), if_neg z, sI_a (by decide), sI_a (by decide)]
  have T2 : ∀ k, (sI (sI (sI u 244 (7 * a + b) n) 244 (7 * b + a) n) 242 3 (D.1 0 3 + 1)).1 244 k = if k = 7 * b + a then n else if k = 7 * a + b then n else u.1 244 k := fun k => by
    rw [sI_a (by decide), sI_if, sI_if]
    by_cases z : k = 7 * b + a
    · rw [if_pos ⟨rfl, z⟩, if_pos z]
    · rw [if_neg (fun y => z y.2), if_neg z]
      by_cases z : k = 7 * a + b
      · rw [if_pos ⟨rfl, z⟩, if_pos z]
      · rw [if_neg (fun y => z y.2), if_neg z]
  have ro : ∀ a', a' ≠ 242 → a' ≠ 244 → (sI (sI (sI u 244 (7 * a + b) n) 244 (7 * b + a) n) 242 3 (D.1 0 3 + 1)).1 a' = u.1 a' := fun a' h1 h2 => funext fun k => by rw [sI_a h1, sI_a h2, sI_a h2]
  have rn : (sI (sI (sI u 244 (7 * a + b) n) 244 (7 * b + a) n) 242 3 (D.1 0 3 + 1)).2.1 = u.2.1 := rfl
  generalize sI (sI (sI u 244 (7 * a + b) n) 244 (7 * b + a) n) 242 3 (D.1 0 3 + 1) = w at *
  have e0 : ∀ k, (dU (dU (dU D 2 (7 * a + b) n) 2 (7 * b + a) n) 0 3 (D.1 0 3 + 1)).1 0 k = if k = 3 then D.1 0 3 + 1 else D.1 0 k := fun k => by rw [dU_s, dU_r (by decide), dU_r (by decide)]
  have e2 : ∀ k, (dU (dU (dU D 2 (7 * a + b) n) 2 (7 * b + a) n) 0 3 (D.1 0 3 + 1)).1 2 k = if k = 7 * b + a then n else if k = 7 * a + b then n else D.1 2 k := fun k => by rw [dU_r (by decide), dU_s, dU_s]
  have er : ∀ r k, r ≠ 0 → r ≠ 2 → (dU (dU (dU D 2 (7 * a + b) n) 2 (7 * b + a) n) 0 3 (D.1 0 3 + 1)).1 r k = D.1 r k := fun r k h0 h2 => by rw [dU_r h0, dU_r h2, dU_r h2]
  have em : (dU (dU (dU D 2 (7 * a + b) n) 2 (7 * b + a) n) 0 3 (D.1 0 3 + 1)).2 = D.2 := rfl
  generalize dU (dU (dU D 2 (7 * a + b) n) 2 (7 * b + a) n) 0 3 (D.1 0 3 + 1) = X at *
  have hr := hu.2.1
  have e1' : X.1 0 1 = D.1 0 1 := by rw [e0, if_neg (by decide)]
  have e2' : X.1 0 2 = D.1 0 2 := by rw [e0, if_neg (by decide)]
  unfold rD rDp rDw rDs dLn
  rw [rn, ro 245 (by decide) (by decide), ro 246 (by decide) (by decide), ro 247 (by decide) (by decide), ro 248 (by decide) (by decide), ro 249 (by decide) (by decide), ro 250 (by decide) (by decide), ro 251 (by decide) (by decide), ro 209 (by decide) (by decide), em, e1', e2', er 6 _ (by decide) (by decide), er 6 _ (by decide) (by decide), er 6 _ (by decide) (by decide)]
  refine ⟨⟨fun k k0 k4 => ?_, fun d i d0 d3 i0 i1 => ?_⟩, fun k k0 k1 => ?_, fun p p0 p1 => ?_, fun w w0 w1 => ?_, hr.2.2.2.2.1, hr.2.2.2.2.2.1, hr.2.2.2.2.2.2⟩
  · rw [e0, T0]
    by_cases z : k = 3
    · rw [if_pos z, if_pos z]
    · rw [if_neg z, if_neg z]; exact hr.1.1 k k0 k4
  · rw [er 1 _ (by decide) (by decide)]
    rw [e0, if_neg (by omega)] at i1
    exact hr.1.2 d i d0 d3 i0 i1
  · rw [e2, T2]
    by_cases z : k = 7 * b + a
    · rw [if_pos z, if_pos z]
    · rw [if_neg z, if_neg z]
      by_cases z : k = 7 * a + b
      · rw [if_pos z, if_pos z]
      · rw [if_neg z, if_neg z]; exact hr.2.1 k k0 k1
  · rw [er 3 _ (by decide) (by decide), er 3 _ (by decide) (by decide), er 3 _ (by decide) (by decide)]; exact hr.2.2.1 p p0 p1
  · rw [er 4 _ (by decide) (by decide), er 4 _ (by decide) (by decide), er 4 _ (by decide) (by decide), er 5 _ (by decide) (by decide)]; exact hr.2.2.2.1 w w0 w1
/-- a road -/
theorem p172 {x1 : Int} (ht : tOk g e) (hD : dOk D) (h : gS g e D F E s0 s) : Ok (m172 x1 s) (rK g e s0 (if D.1 0 3 < 12 then dRoad g e D F E else .inl (5, x1))) := by
  have hI := hD.1.1
  unfold m172
  refine r_full hD h (by omega) (by omega) (by omega) (fun lt => ?_)
  unfold dRoad
  refine r_one ht hD (Or.inl rfl) h (fun a F2 E2 t a0 a1 ht' _ => ?_) (fun q r t hb => k_e (u169 hb (Or.inl rfl)) (k_v (k_q (bS_5 hb) (u172_59 hb))))
  refine r_one ht hD (Or.inl rfl) ht' (fun b F3 E3 u b0 b1 hu u40 => k_v ?_) (fun q r t hb => k_v (k_q (bS_5 hb) (u172_59 hb)))
  have bad : Ok (oV (u.1 209 40) fun z14 => oC (m153 3 z14 u) fun _ s16 => m172_59 a b s16) (rK g e s0 (.inl (3, F2))) := by
    refine k_v (k_c (p153 (gS_5 hu)) ?_)
    rintro _ w ⟨w5, w6, w3⟩
    exact u172_59 (bS_of hD hu (by decide) w5 (by rw [w6, u40]) (fr_mono (fun a k z => by omega) w3))
  rw [gS_5 hu]
  refine k_p rfl ?_
  by_cases c1 : a = b
  · rw [if_pos (Or.inl c1)]
    exact k_p c1 bad
  · refine k_q c1 (k_z (by omega) (by omega) (k_z (by omega) (by omega) (k_x (by omega) (by omega) (k_v ?_))))
    have h2 := hu.2.1.2.1 (7 * a + b) (by omega) (by omega)
    by_cases c2 : 0 < D.1 2 (7 * a + b)
    · rw [if_pos (show a = b ∨ 0 < D.1 2 (7 * a + b) from Or.inr c2)]
      exact k_p (by rw [h2]; exact c2) bad
    · rw [if_neg (show ¬ (a = b ∨ 0 < D.1 2 (7 * a + b)) from fun z => z.elim c1 c2)]
      exact k_q (by rw [h2]; exact c2) (p172_59 ht hD hu a0 a1 b0 b1 lt)
end
