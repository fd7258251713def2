/-! ===== days: the calls ===== -/
abbrev noR (_ : Int) : Prop := False
/-- a day of all, without rain -/
def allN (f : Nat → Int → Int) (N : Int → Int) : Int → Int := dayN (dysN f noR (f 242 6).toNat 0 N)
def allsN (f : Nat → Int → Int) : Nat → (Int → Int) → (Int → Int)
  | 0, N => N
  | j + 1, N => allsN f j (allN f N)
section
variable {f g : Nat → Int → Int}
/-- the wearing of pairs stays through a day of one -/
theorem dyN_10 {a b c : Int} {N : Int → Int} {w v : Int} (hb : b ≤ 8) (hI : nInv a b c N) (w0 : 0 ≤ w) (w1 : w < c) (v0 : 0 ≤ v) : dyN f N w (10 + 3 * v) = N (10 + 3 * v) := by
  have := hI.2.2.2.1 w w0 w1
  exact dyN_o (by omega) (by omega) (by omega)
theorem dys_0 {ab : Int → Prop} [DecidablePred ab] {a b c : Int} (hL : mLand f) (ea : a = f 242 4) (eb : b = f 242 5) (ec : c = f 242 6) : ∀ (j : Nat) (k : Int) (N : Int → Int), 0 ≤ k → k + (j : Int) ≤ c → nInv a b c N → dysN f ab j k N 0 = N 0 := by
  intro j
  induction j with
  | zero => intro k N _ _ _; rfl
  | succ j ih =>
    intro k N k0 k1 h
    show dysN f ab j (k + 1) (if ab k then N else dyN f N k) 0 = N 0
    by_cases c : ab k
    · rw [if_pos c]; exact ih (k + 1) N (by omega) (by omega) h
    · rw [if_neg c, ih (k + 1) _ (by omega) (by omega) (nInv_dy hL ea eb ec h k0 (by omega))]
      exact dyN_0 k0 (h.2.2.2.1 k k0 (by omega)).1
theorem all_0 {a b c : Int} (hL : mLand f) (ea : a = f 242 4) (eb : b = f 242 5) (ec : c = f 242 6) {N : Int → Int} (h : nInv a b c N) : allN f N 0 = N 0 + 1 := by
  have hm := hL.1
  show (if (0 : Int) = 0 then dysN f noR (f 242 6).toNat 0 N 0 + 1 else dysN f noR (f 242 6).toNat 0 N 0) = _
  rw [if_pos rfl, dys_0 hL ea eb ec _ 0 N (by omega) (by omega) h]
theorem nInv_all {a b c : Int} (hL : mLand f) (ea : a = f 242 4) (eb : b = f 242 5) (ec : c = f 242 6) {N : Int → Int} (h : nInv a b c N) (h9 : N 0 < 999) : nInv a b c (allN f N) := by
  have hm := hL.1
  exact nInv_day (nInv_dys hL ea eb ec _ 0 N (by omega) (by omega) h) (by rw [dys_0 hL ea eb ec _ 0 N (by omega) (by omega) h]; exact h9)
theorem dysN_eq {ab : Int → Prop} [DecidablePred ab] (e : eqL f g) : ∀ (j : Nat) (k : Int) (N : Int → Int), dysN g ab j k N = dysN f ab j k N := by
  intro j
  induction j with
  | zero => intro k N; rfl
  | succ j ih =>
    intro k N
    show dysN g ab j (k + 1) _ = dysN f ab j (k + 1) _
    rw [dyN_eq e, ih]
theorem allN_eq (e : eqL f g) (N : Int → Int) : allN g N = allN f N := by
  unfold allN
  rw [e.1, dysN_eq e]
end
theorem zAnd0 (w : Int) (w0 : 0 ≤ w) (w1 : w < 6) : zAnd (zShr 0 w) 1 = 0 := by
  have hw : w = 0 ∨ w = 1 ∨ w = 2 ∨ w = 3 ∨ w = 4 ∨ w = 5 := by omega
  rcases hw with rfl | rfl | rfl | rfl | rfl | rfl <;> decide +kernel
/-- the reference's day of all, without rain -/
theorem p201 {s0 s : zS} {N : Int → Int} (hm : mLand s0.1) (hN : ∀ i, s.1 254 i = N i) (hI : nInv (s0.1 242 4) (s0.1 242 5) (s0.1 242 6) N) (h9 : N 0 < 999) (hs : FrJ nFr s0 s) : Ok (m201 0 s) (fun _ t => (∀ i, t.1 254 i = allN s0.1 N i) ∧ FrJ nFr s0 t) := by
  have h6 := hm.1
  unfold m201
  exact p201_2 (ab := noR) hm (fun w w0 w1 => ⟨fun z => z.elim, fun z => z (zAnd0 w w0 (by omega))⟩) zFu (s0.1 242 6).toNat 0 s N (by omega) (by omega) (by unfold zFu; omega) hN hI h9 hs
/-- the reference's n days -/
theorem p202_7 {s0 : zS} {x b : Int} (hm : mLand s0.1) (x1 : x ≤ 100) (hb0 : 0 ≤ b) (hb1 : b ≤ 6) : ∀ (n j : Nat) (k : Int) (s : zS) (N : Int → Int), k = x - (j : Int) → 0 ≤ k → j < n → (∀ i, s.1 254 i = N i) → nInv (s0.1 242 4) (s0.1 242 5) (s0.1 242 6) N → N 0 + (j : Int) ≤ 999 → FrJ nFr s0 s → Ok (m202_7 n x b k s) (fun r t => r = cn (fun w => if allsN s0.1 j N (11 + 3 * w) - 1 = s0.1 246 (20 + 3 * w) then 1 else 0) (s0.1 242 6).toNat 0 0 - b ∧ (∀ i, t.1 254 i = allsN s0.1 j N i) ∧ FrJ nFr s0 t) := by
  have h6 := hm.1
  intro n
  induction n with
  | zero => intro j k s N _ _ h; omega
  | succ n ih =>
    intro j k s N hk k0 hj hN hI h9 hs
    have g : ∀ a k, a ≠ 209 → a ≠ 287 → a ≠ 254 → s.1 a k = s0.1 a k := fun a k m1 m2 m3 => (hs.1 a k (by omega)).1
    rw [m202_7]
    cases j with
    | zero =>
      have e242 : s.1 242 = s0.1 242 := funext fun k => g 242 k (by omega) (by omega) (by omega)
      have e246 : s.1 246 = s0.1 246 := funext fun k => g 246 k (by omega) (by omega) (by omega)
      refine k_q (by omega) (k_e (e200m (by rw [e242]; omega) (by rw [e242]; omega) (fun w w0 w1 => by rw [e242] at w1; rw [hN]; have := hI.2.2.2.1 w w0 w1; omega)) ?_)
      have hcn := cn_in (g := fun w => if s.1 254 (11 + 3 * w) - 1 = s.1 246 (20 + 3 * w) then 1 else 0) (fun k => by split <;> omega) (s.1 242 6).toNat 0 0
      rw [e242] at hcn ⊢
      refine k_z (by omega) (by omega) (k_r ⟨?_, hN, hs⟩)
      rw [e246]
      show cn _ _ _ _ - b = cn (fun w => if N (11 + 3 * w) - 1 = _ then 1 else 0) _ _ _ - b
      simp only [hN]
    | succ j =>
      refine k_p (by omega) (k_c (p201 (s0 := s0) (N := N) hm hN hI (by omega) hs) ?_)
      intro _ t ht
      refine k_z (by omega) (by omega) ?_
      exact ih j (k + 1) t (allN s0.1 N) (by omega) (by omega) (by omega) ht.1 (nInv_all hm rfl rfl rfl hI (by omega)) (by rw [all_0 hm rfl rfl rfl hI]; omega) ht.2
section
variable {L : Nat}
/-- the class's day of all -/
theorem p127_40 {s0 : zS} {x b d : Int} {K : Int → Int → Int → zS → Option (Int × zS)} {P : Int → zS → Prop} (hLL : L = 43 ∨ L = 66) (hL : rLand s0.1 s0.2.1 L) (hM3 : s0.2.2 3 = L) (hM1 : s0.2.2 1 = L) (hd0 : 0 ≤ d) (hd1 : d < 200) : ∀ (n j : Nat) (k : Int) (s : zS) (N : Int → Int), k = s0.1 242 6 - (j : Int) → 0 ≤ k → j < n → sRel s.1 28 N → nInv (s0.1 242 4) (s0.1 242 5) (s0.1 242 6) N → N 0 < 999 → Fr (fun a q => dFr 28 L a q ∨ (a = 28 ∧ q = 6)) s0 s → (∀ t, sRel t.1 28 (dayN (dysN s0.1 noR j k N)) → Fr (fun a q => dFr 28 L a q ∨ (a = 28 ∧ q = 6)) s0 t → Ok (K x b (d + 1) t) P) → Ok (m127_40 K n x b d k s) P := by
  have hm := mLand_of hL
  have h6 := hm.1
  have hw5 : s0.1 (L + 5) 0 = s0.1 242 6 := hL.1.2.2.2.2.2.1
  intro n
  induction n with
  | zero => intro j k s N _ _ h; omega
  | succ n ih =>
    intro j k s N hk k0 hj hS hI h9 hs hK
    have hMs1 : s.2.2 1 = L := by rw [hs.2.2]; exact hM1
    have hMs3 : s.2.2 3 = L := by rw [hs.2.2]; exact hM3
    have ls := rLand_sfr (B := fun a q => dFr 28 L a q ∨ (a = 28 ∧ q = 6)) hLL (fun a k q => by omega) hs hL
    have eqs : eqL s0.1 s.1 := eqL_fr hs (fun a k q => by omega)
    have e242 : s.1 242 = s0.1 242 := eqs.1
    rw [m127_40]
    refine k_v (k_v ?_)
    rw [hMs1, hs.1 (L + 5) 0 (by omega), hw5]
    cases j with
    | zero =>
      refine k_q (by omega) (k_v ?_)
      have h0 : s.1 28 6 = N 0 := hS.1
      rw [h0]
      have hI0 := hI.1
      refine k_z (by omega) (by omega) (k_v (k_z (by omega) (by omega) (hK _ ?_ (fr_trans hs (fr_I (Or.inr ⟨rfl, rfl⟩))))))
      obtain ⟨z1, z2, z3, z4, z5, z6⟩ := hS
      have o : ∀ i, i ≠ 0 → dayN (dysN s0.1 noR 0 k N) i = N i := fun i hi => if_neg hi
      refine ⟨?_, ?_, ?_, ?_, ?_, ?_⟩
      · rw [sI_e]; rfl
      · rw [sI_k (by omega), o 1 (by omega)]; exact z2
      · intro p p0 p1; rw [sI_a (by omega)] at p1; rw [sI_a (by omega), o _ (by omega)]; exact z3 p p0 p1
      · intro v v0 v1; rw [sI_a (by omega)] at v1; rw [sI_a (by omega), sI_a (by omega), sI_a (by omega), o _ (by omega), o _ (by omega), o _ (by omega)]; exact z4 v v0 v1
      · rw [sI_k (by omega), o 28 (by omega)]; exact z5
      · intro q q0 q1; rw [o 28 (by omega)] at q1; rw [sI_a (by omega), o _ (by omega)]; exact z6 q q0 q1
    | succ j =>
      have hk6 : k < s0.1 242 6 := by omega
      refine k_p hk6 (k_c (p7 (A := 28) (L := L) (w := k) (N := N) hLL (Or.inl rfl) ls hMs3 hS (by rw [e242]; exact hI) k0 (by rw [e242]; exact hk6)) ?_)
      intro _ t ht
      rw [dyN_eq eqs] at ht
      refine k_z (by omega) (by omega) ?_
      refine ih j (k + 1) t (dyN s0.1 N k) (by omega) (by omega) (by omega) ht.1 (nInv_dy hm rfl rfl rfl hI k0 hk6) ?_ (fr_trans hs (fr_mono (fun a q z => Or.inl z) ht.2)) (fun u hu1 hu2 => hK u ?_ hu2)
      · rw [dyN_0 k0 (hI.2.2.2.1 k k0 hk6).1]; exact h9
      · show sRel u.1 28 (dayN (dysN s0.1 noR j (k + 1) (if noR k then N else dyN s0.1 N k)))
        rw [if_neg (fun z => z)]
        exact hu1
/-- the class's n days -/
theorem p127_32 {s0 : zS} {x b : Int} (hLL : L = 43 ∨ L = 66) (hL : rLand s0.1 s0.2.1 L) (hM3 : s0.2.2 3 = L) (hM1 : s0.2.2 1 = L) (x1 : x ≤ 100) (hb0 : 0 ≤ b) (hb1 : b ≤ 6) : ∀ (n j : Nat) (k : Int) (s : zS) (N : Int → Int), k = x - (j : Int) → 0 ≤ k → j < n → sRel s.1 28 N → nInv (s0.1 242 4) (s0.1 242 5) (s0.1 242 6) N → N 0 + (j : Int) ≤ 999 → Fr (fun a q => dFr 28 L a q ∨ (a = 28 ∧ q = 6)) s0 s → Ok (m127_32 n x b k s) (fun r t => r = cn (fun w => if allsN s0.1 j N (11 + 3 * w) - 1 = s0.1 246 (20 + 3 * w) then 1 else 0) (s0.1 242 6).toNat 0 0 - b ∧ sRel t.1 28 (allsN s0.1 j N) ∧ Fr (fun a q => dFr 28 L a q ∨ (a = 28 ∧ q = 6)) s0 t) := by
  have hm := mLand_of hL
  have h6 := hm.1
  have hw5 : s0.1 (L + 5) 0 = s0.1 242 6 := hL.1.2.2.2.2.2.1
  intro n
  induction n with
  | zero => intro j k s N _ _ h; omega
  | succ n ih =>
    intro j k s N hk k0 hj hS hI h9 hs
    rw [m127_32]
    cases j with
    | zero =>
      have hMs3 : s.2.2 3 = L := by rw [hs.2.2]; exact hM3
      refine k_q (by omega) (k_e (e6m (A := 28) (L := L) (m := s0.1 242 6) hMs3 (by rw [hs.1 (L + 5) 0 (by omega)]; exact hw5) (by omega) (by omega)) ?_)
      have hcn := cn_in (g := fun w => if s.1 (28 + 3) w = s.1 (L + 15) w then 1 else 0) (fun k => by split <;> omega) (s0.1 242 6).toNat 0 0
      refine k_z (by omega) (by omega) (k_r ⟨?_, hS, hs⟩)
      show cn _ _ _ _ - b = cn (fun w => if N (11 + 3 * w) - 1 = _ then 1 else 0) _ _ _ - b
      have : cn (fun w => if s.1 (28 + 3) w = s.1 (L + 15) w then 1 else 0) (s0.1 242 6).toNat 0 0 = cn (fun w => if N (11 + 3 * w) - 1 = s0.1 246 (20 + 3 * w) then 1 else 0) (s0.1 242 6).toNat 0 0 := by
        refine cn_congr _ _ _ (fun w w0 w1 => ?_)
        have e242 : s.1 242 6 = s0.1 242 6 := hs.1 242 6 (by omega)
        rw [(hS.2.2.2.1 w w0 (by rw [e242]; omega)).2.1, hs.1 (L + 15) w (by omega), (hL.2.2.2.1 w w0 (by omega)).2.2.1]
      rw [this]
    | succ j =>
      refine k_p (by omega) ?_
      refine p127_40 (L := L) (s0 := s0) hLL hL hM3 hM1 k0 (by omega) zFu (s0.1 242 6).toNat 0 s N (by omega) (by omega) (by unfold zFu; omega) hS hI (by omega) hs (fun t ht1 ht2 => ?_)
      exact ih j (k + 1) t (allN s0.1 N) (by omega) (by omega) (by omega) ht1 (nInv_all hm rfl rfl rfl hI (by omega)) (by rw [all_0 hm rfl rfl rfl hI]; omega) ht2
end
theorem t127 : T127 := by
  intro n s x hx hR hn
  obtain ⟨b1, b2, b3, b4, b5, b6, b7, b8, b9, b10⟩ := R_cnt hR
  have hLL := R_LL hR
  have hM3 := R_M3 hR
  have h28 := R_28 hR
  have hp := R_hp hR
  have hI := (R_now hR).2
  have hday : s.1 28 6 = s.1 254 0 := (R_now hR).1.1
  have hdi : 0 ≤ s.1 254 0 ∧ s.1 254 0 ≤ 999 := hI.1
  obtain ⟨q1, q2, q3, q4, q5, q6, q7, q8⟩ := R_past hR
  have e139 : m139 x s = some (if (1 ≤ x ∧ x ≤ 100) ∧ s.1 254 0 + x ≤ 999 then 1 else 0, s) := by
    unfold m139
    by_cases c1 : x < 1
    · rw [if_pos c1, if_neg (by omega)]
    rw [if_neg c1]
    by_cases c2 : 100 < x
    · rw [if_pos c2, if_neg (by omega)]
    rw [if_neg c2, oV_eq, oZ_pos (by omega) (by omega)]
    by_cases c3 : 999 - s.1 28 6 < x
    · rw [if_pos c3, if_neg (by omega)]
    · rw [if_neg c3, if_pos (by omega)]
  have e205 : ∀ u : zS, u.1 254 0 = s.1 254 0 → m205 x 1 100 u = some (if (1 ≤ x ∧ x ≤ 100) ∧ s.1 254 0 + x ≤ 999 then 1 else 0, u) := by
    intro u hu
    unfold m205
    rw [e150, oC_some]
    by_cases c1 : 1 ≤ x ∧ x ≤ 100
    · rw [if_pos c1, if_neg (by decide), oX_pos (by omega) (by omega), oV_eq, hu, oZ_pos (by omega) (by omega)]
      by_cases c2 : 999 < s.1 254 0 + x
      · rw [if_pos c2, if_neg (by omega)]
      · rw [if_neg c2, if_pos (by omega)]
    · rw [if_neg c1, if_pos rfl, if_neg (fun z => c1 z.1)]
  by_cases c : (1 ≤ x ∧ x ≤ 100) ∧ s.1 254 0 + x ≤ 999
  · unfold Two m127
    refine k_e e139 ?_
    rw [if_pos c]
    refine k_q (by decide) (k_c (p145 hR) ?_)
    intro _ s1 h1
    have f1 := h1.2.2.2
    obtain ⟨e1, hM1⟩ := keep_eq f1 (by omega) (by omega)
    have e242 : s1.1 242 = s.1 242 := funext fun k => e1 242 k (by omega) (by omega)
    have hL1 : rLand s1.1 s1.2.1 (s.2.2 1) := rLand_eq (fun a k z => e1 a k (by omega) (by omega)) (fun k => by rw [hM1]) (R_land hR)
    have hS1 : sRel s1.1 28 (fun i => s.1 254 i) := sRel_eq (by rw [e242]) (by rw [e242]) (fun a k z1 z2 => e1 a k (by omega) (by omega)) (fun _ _ _ => rfl) b5 b8 (by show s.1 254 28 ≤ 8; omega) (R_now hR).1
    have hI1 : nInv (s1.1 242 4) (s1.1 242 5) (s1.1 242 6) (fun i => s.1 254 i) := by rw [e242]; exact hI
    have m3 : s1.2.2 3 = s.2.2 1 := by rw [hM1]; exact hM3
    have m1 : s1.2.2 1 = s.2.2 1 := by rw [hM1]
    have eq1 : eqL s.1 s1.1 := ⟨e242, funext fun k => e1 245 k (by omega) (by omega), funext fun k => e1 246 k (by omega) (by omega), funext fun k => e1 248 k (by omega) (by omega), funext fun k => e1 249 k (by omega) (by omega), funext fun k => e1 250 k (by omega) (by omega), funext fun k => e1 251 k (by omega) (by omega), funext fun k => e1 253 k (by omega) (by omega)⟩
    refine k_e (e6m (A := 28) (L := s.2.2 1) (m := s.1 242 6) m3 (by rw [e1 _ _ (by omega) (by omega)]; exact b6) b7 b8) ?_
    have hcn := cn_in (g := fun w => if s1.1 (28 + 3) w = s1.1 (s.2.2 1 + 15) w then 1 else 0) (fun k => by split <;> omega) (s.1 242 6).toNat 0 0
    have ebf : cn (fun w => if s1.1 (28 + 3) w = s1.1 (s.2.2 1 + 15) w then 1 else 0) (s.1 242 6).toNat 0 0 = cn (fun w => if s.1 254 (11 + 3 * w) - 1 = s.1 246 (20 + 3 * w) then 1 else 0) (s.1 242 6).toNat 0 0 := by
      refine cn_congr _ _ _ (fun w w0 w1 => ?_)
      rw [e1 (28 + 3) w (by omega) (by omega), e1 (s.2.2 1 + 15) w (by omega) (by omega), show s.1 (28 + 3) w = _ from (R_w hR w0 (by omega)).2.1, R_goal hR w0 (by omega)]
    rw [ebf] at hcn ⊢
    generalize hbf : cn (fun w => if s.1 254 (11 + 3 * w) - 1 = s.1 246 (20 + 3 * w) then 1 else 0) (s.1 242 6).toNat 0 0 = bf at *
    refine k_m (p127_32 (L := s.2.2 1) (s0 := s1) (x := x) (b := bf) hLL hL1 m3 m1 c.1.2 (by omega) (by omega) zFu x.toNat 0 s1 (fun i => s.1 254 i) (by omega) (by omega) (by unfold zFu; omega) hS1 hI1 (by show s.1 254 0 + _ ≤ 999; omega) fr_refl) ?_
    intro r s2 h2
    obtain ⟨g1, g2, g3⟩ := h2
    have hall : ∀ (j : Nat) (N : Int → Int), allsN s1.1 j N = allsN s.1 j N := by
      intro j
      induction j with
      | zero => intro N; rfl
      | succ j ih => intro N; show allsN s1.1 j (allN s1.1 N) = allsN s.1 j (allN s.1 N); rw [allN_eq eq1, ih]
    rw [hall, e242, eq1.2.2.1] at g1
    rw [hall] at g2
    have ref : ∀ a k, 209 ≤ a → s2.1 a k = s.1 a k := fun a k z => by rw [g3.1 a k (by omega)]; exact e1 a k (by omega) (by omega)
    unfold m244
    refine k_e (e205 s2 (ref 254 0 (by omega))) ?_
    rw [if_pos c]
    refine k_q (by decide) (k_c (p239 (by rw [ref 209 75 (by omega)]; exact q6) (by rw [ref 209 75 (by omega)]; exact q7) (by rw [ref 209 74 (by omega)]; omega) (by rw [ref 209 74 (by omega)]; omega)) ?_)
    intro _ t1 h3
    have hr4 := h3.2.2.2.1
    have tref : ∀ a k, 242 ≤ a → a ≠ 262 → t1.1 a k = s.1 a k := fun a k z1 z2 => by rw [hr4 a k (by omega) (by omega)]; exact ref a k (by omega)
    have t254 : t1.1 254 = s.1 254 := funext fun k => tref 254 k (by omega) (by omega)
    have eqt : eqL s.1 t1.1 := ⟨funext fun k => tref 242 k (by omega) (by omega), funext fun k => tref 245 k (by omega) (by omega), funext fun k => tref 246 k (by omega) (by omega), funext fun k => tref 248 k (by omega) (by omega), funext fun k => tref 249 k (by omega) (by omega), funext fun k => tref 250 k (by omega) (by omega), funext fun k => tref 251 k (by omega) (by omega), funext fun k => tref 253 k (by omega) (by omega)⟩
    unfold m202
    refine k_c (Q := fun r' t => r = r' ∧ (∀ i, t.1 254 i = allsN s.1 x.toNat (fun i => s.1 254 i) i) ∧ FrJ nFr t1 t) ?_ ?_
    · refine k_e (e200m (by rw [eqt.1]; exact b7) (by rw [eqt.1]; exact b8) (by rw [eqt.1, t254]; exact hp)) ?_
      rw [eqt.1, t254, eqt.2.2.1, hbf]
      refine k_m (p202_7 (s0 := t1) (x := x) (b := bf) (mLand_eq eqt (R_ml hR)) c.1.2 (by omega) (by omega) zFu x.toNat 0 t1 (fun i => s.1 254 i) (by omega) (by omega) (by unfold zFu; omega) (fun i => by rw [t254]) (by rw [eqt.1]; exact hI) (by show s.1 254 0 + _ ≤ 999; omega) frj_refl) ?_
      intro r' t h4
      have hall' : ∀ (j : Nat) (N : Int → Int), allsN t1.1 j N = allsN s.1 j N := by
        intro j
        induction j with
        | zero => intro N; rfl
        | succ j ih => intro N; show allsN t1.1 j (allN t1.1 N) = allsN s.1 j (allN s.1 N); rw [allN_eq eqt, ih]
      rw [hall', eqt.1, eqt.2.2.1] at h4
      exact ⟨by rw [g1, h4.1], h4.2.1, h4.2.2⟩
    · intro r' t h4
      obtain ⟨y1, y2, y3⟩ := h4
      refine k_r ⟨y1, ?_⟩
      have ka := keep_all hR h1 (frj_of g3) (fun a k z => by omega) h3 y3 (fun a k z => by omega)
      have nall : ∀ (j : Nat) (N : Int → Int), nInv (s.1 242 4) (s.1 242 5) (s.1 242 6) N → N 0 + (j : Int) ≤ 999 → nInv (s.1 242 4) (s.1 242 5) (s.1 242 6) (allsN s.1 j N) := by
        intro j
        induction j with
        | zero => intro N h _; exact h
        | succ j ih => intro N h h9; exact ih (allN s.1 N) (nInv_all (R_ml hR) rfl rfl rfl h (by omega)) (by rw [all_0 (R_ml hR) rfl rfl rfl h]; omega)
      refine R_act hR ⟨fun a k z => ?_, ka.2.2⟩ ?_ ka.1
      · by_cases e0 : (a = 0 ∧ k = 18) ∨ (a = 209 ∧ k = 76)
        · have z1 := y3.1 a k (by omega)
          have z2 := hr4 a k (by omega) (by omega)
          have z3 := g3.1 a k (by omega)
          refine ⟨by rw [z1.1, z2, z3, f1.1 a k (by omega)], by rw [z1.2, h3.2.2.2.2, g3.2.1, hM1]⟩
        · exact ka.2.1 a k (fun w => w.elim z e0)
      · have tc : ∀ a k, a < 209 → t.1 a k = s2.1 a k := fun a k z => by rw [(y3.1 a k (by omega)).1, hr4 a k (by omega) (by omega)]
        have tt : ∀ k, t.1 242 k = s.1 242 k := fun k => by rw [(y3.1 242 k (by omega)).1]; exact tref 242 k (by omega) (by omega)
        have hfin := nall x.toNat (fun i => s.1 254 i) hI (by show s.1 254 0 + _ ≤ 999; omega)
        have x28 := hfin.2.2.2.2.1
        refine ⟨sRel_eq (f := s2.1) (by rw [tt, ref 242 5 (by omega)]) (by rw [tt, ref 242 6 (by omega)]) (fun a k z1 z2 => tc a k (by omega)) (fun i _ _ => y2 i) (by rw [ref 242 5 (by omega)]; exact b5) (by rw [ref 242 6 (by omega)]; exact b8) (by rw [x28]; omega) g2, ?_⟩
        rw [tt, tt, tt]
        exact nInv_eq b5 b7 b8 (fun i _ _ => y2 i) hfin
  · refine two_ref (j := 3) (r := -1) hR hn (by omega) (by omega) ?_ (fun u hu h1 h2 => ?_)
    · unfold m127
      rw [e139, oC_some, if_neg c, if_pos rfl, e136 hR hn (by omega) (by omega), oC_some]
    · unfold m244
      rw [e205 u (hu 254 0 (by omega)), oC_some, if_neg c, if_pos rfl, e232 h1 h2 (by omega) (by omega), oC_some]
