/-! ===== chance: the call ===== -/
theorem cn_add {g : Int → Int} : ∀ (j : Nat) (k a b : Int), cn g j k (a + b) = a + cn g j k b := by
  intro j
  induction j with
  | zero => intro k a b; rfl
  | succ j ih =>
    intro k a b
    show cn g j (k + 1) (a + b + g k) = a + cn g j (k + 1) (b + g k)
    rw [← ih, Int.add_assoc]
/-- days in rain: what they come to, how often one walked none -/
def chS (f : Nat → Int → Int) (rain : Int) : Nat → (Int → Int) → Int → Int → Int × (Int → Int) × Int
  | 0, N, sd, a => (a, N, sd)
  | j + 1, N, sd, a => chS f rain j (dayN (dysN f (rnA N sd rain) (f 242 6).toNat 0 N)) (sdA N sd (f 242 6).toNat) (a + cn (fun v => if rnA N sd rain v then 1 else 0) (f 242 6).toNat 0 0)
theorem chS_eq {f g : Nat → Int → Int} (e : eqL f g) (rain : Int) : ∀ (j : Nat) (N : Int → Int) (sd a : Int), chS g rain j N sd a = chS f rain j N sd a := by
  intro j
  induction j with
  | zero => intro N sd a; rfl
  | succ j ih =>
    intro N sd a
    show chS g rain j _ _ _ = chS f rain j _ _ _
    rw [e.1, dysN_eq e, ih]
theorem rday_0 {f : Nat → Int → Int} {N : Int → Int} {sd rain a b c : Int} (hL : mLand f) (ea : a = f 242 4) (eb : b = f 242 5) (ec : c = f 242 6) (h : nInv a b c N) : dayN (dysN f (rnA N sd rain) (f 242 6).toNat 0 N) 0 = N 0 + 1 := by
  have hm := hL.1
  show (if (0 : Int) = 0 then dysN f (rnA N sd rain) (f 242 6).toNat 0 N 0 + 1 else dysN f (rnA N sd rain) (f 242 6).toNat 0 N 0) = _
  rw [if_pos rfl, dys_0 hL ea eb ec _ 0 N (by omega) (by omega) h]
theorem nInv_rday {f : Nat → Int → Int} {N : Int → Int} {sd rain a b c : Int} (hL : mLand f) (ea : a = f 242 4) (eb : b = f 242 5) (ec : c = f 242 6) (h : nInv a b c N) (h9 : N 0 < 999) : nInv a b c (dayN (dysN f (rnA N sd rain) (f 242 6).toNat 0 N)) := by
  have hm := hL.1
  exact nInv_day (nInv_dys hL ea eb ec _ 0 N (by omega) (by omega) h) (by rw [dys_0 hL ea eb ec _ 0 N (by omega) (by omega) h]; exact h9)
theorem chS_in {f : Nat → Int → Int} {rain a b c : Int} (hL : mLand f) (ea : a = f 242 4) (eb : b = f 242 5) (ec : c = f 242 6) : ∀ (j : Nat) (N : Int → Int) (sd x : Int), 0 ≤ sd → sd ≤ 2147483647 → nInv a b c N → N 0 + (j : Int) ≤ 999 → nInv a b c (chS f rain j N sd x).2.1 ∧ 0 ≤ (chS f rain j N sd x).2.2 ∧ (chS f rain j N sd x).2.2 ≤ 2147483647 := by
  intro j
  induction j with
  | zero => intro N sd x h1 h2 h3 _; exact ⟨h3, h1, h2⟩
  | succ j ih =>
    intro N sd x h1 h2 h3 h4
    have := sdA_in (N := N) h1 h2 (f 242 6).toNat
    exact ih _ _ _ this.1 this.2 (nInv_rday hL ea eb ec h3 (by omega)) (by rw [rday_0 hL ea eb ec h3]; omega)
theorem p128_22 {L : Nat} {s0 : zS} {x rain : Int} (hLL : L = 43 ∨ L = 66) (hL : rLand s0.1 s0.2.1 L) (hM3 : s0.2.2 3 = L) (hM1 : s0.2.2 1 = L) (x1 : x ≤ 100) (hrain : rain = s0.1 248 5) : ∀ (n j : Nat) (k a sd : Int) (s : zS) (N : Int → Int), k = x - (j : Int) → 0 ≤ k → j < n → 0 ≤ a → a ≤ 6 * k → 0 ≤ sd → sd ≤ 2147483647 → s.1 0 18 = sd → sRel s.1 28 N → nInv (s0.1 242 4) (s0.1 242 5) (s0.1 242 6) N → N 0 + (j : Int) ≤ 999 → Fr (fun a q => dFr 28 L a q ∨ (a = 28 ∧ q = 6) ∨ (a = 0 ∧ q = 18)) s0 s → Ok (m128_22 n x a k s) (fun r t => r = (chS s0.1 rain j N sd a).1 ∧ sRel t.1 28 (chS s0.1 rain j N sd a).2.1 ∧ t.1 0 18 = (chS s0.1 rain j N sd a).2.2 ∧ Fr (fun a q => dFr 28 L a q ∨ (a = 28 ∧ q = 6) ∨ (a = 0 ∧ q = 18)) s0 t) := by
  have hm := mLand_of hL
  have h6 := hm.1
  intro n
  induction n with
  | zero => intro j k a sd s N _ _ h; omega
  | succ n ih =>
    intro j k a sd s N hk k0 hj a0 a1 sd0 sd1 hsd hS hI h9 hs
    rw [m128_22]
    cases j with
    | zero => exact k_q (by omega) (k_r ⟨rfl, hS, hsd, hs⟩)
    | succ j =>
      refine k_p (by omega) ?_
      unfold m143
      refine k_c (p143_4 (L := L) (s0 := s0) (N0 := N) (sd := sd) (rain := rain) hLL hL hM3 hM1 sd0 sd1 hrain zFu (s0.1 242 6).toNat 0 0 s N (by omega) (by omega) (by unfold zFu; omega) (by omega) (by omega) hS hI (by omega) (fun v _ _ => rfl) hsd hs) ?_
      intro r t ht
      obtain ⟨y1, y2, y3, y4⟩ := ht
      have hcn := cn_in (g := fun v => if rnA N sd rain v then 1 else 0) (fun k => by split <;> omega) (s0.1 242 6).toNat 0 0
      have hsa := sdA_in (N := N) sd0 sd1 (s0.1 242 6).toNat
      rw [y1]
      refine k_z (by omega) (by omega) (k_z (by omega) (by omega) ?_)
      exact ih j (k + 1) _ _ t _ (by omega) (by omega) (by omega) (by omega) (by omega) hsa.1 hsa.2 y3 y2 (nInv_rday hm rfl rfl rfl hI (by omega)) (by rw [rday_0 hm rfl rfl rfl hI]; omega) y4
theorem p247_25 {s0 : zS} {x rain : Int} (hm : mLand s0.1) (x1 : x ≤ 100) (hrain : rain = s0.1 248 5) : ∀ (n j : Nat) (k a sd : Int) (s : zS) (N : Int → Int), k = x - (j : Int) → 0 ≤ k → j < n → 0 ≤ a → a ≤ 6 * k → 0 ≤ sd → sd ≤ 2147483647 → s.2.1 209 76 = sd → (∀ i, s.1 254 i = N i) → nInv (s0.1 242 4) (s0.1 242 5) (s0.1 242 6) N → N 0 + (j : Int) ≤ 999 → FrJ (fun a k => nFr a k ∨ (a = 209 ∧ k = 76)) s0 s → Ok (m247_25 n x a k s) (fun r t => r = (chS s0.1 rain j N sd a).1 ∧ (∀ i, t.1 254 i = (chS s0.1 rain j N sd a).2.1 i) ∧ t.2.1 209 76 = (chS s0.1 rain j N sd a).2.2 ∧ FrJ (fun a k => nFr a k ∨ (a = 209 ∧ k = 76)) s0 t) := by
  have h6 := hm.1
  intro n
  induction n with
  | zero => intro j k a sd s N _ _ h; omega
  | succ n ih =>
    intro j k a sd s N hk k0 hj a0 a1 sd0 sd1 hsd hN hI h9 hs
    rw [m247_25]
    cases j with
    | zero => exact k_q (by omega) (k_r ⟨rfl, hN, hsd, hs⟩)
    | succ j =>
      refine k_p (by omega) ?_
      have hcn := cn_in (g := fun v => if rnA N sd rain v then 1 else 0) (fun k => by split <;> omega) (s0.1 242 6).toNat 0 0
      have hsa := sdA_in (N := N) sd0 sd1 (s0.1 242 6).toNat
      refine p247_36 (s0 := s0) (N := N) (sd := sd) (rain := rain) (x := x) (d := k) hm hI (by omega) sd0 sd1 hrain k0 (by omega) zFu (s0.1 242 6).toNat 0 a 0 s (by omega) (by omega) (by unfold zFu; omega) a0 (by omega) hN hsd (by omega) (by omega) (fun v v0 v1 => ⟨fun z => absurd (zAnd0 v v0 v1) z, fun z => by omega⟩) hs (fun t t1 t2 t3 => ?_)
      have ea : cn (fun v => if rnA N sd rain v then 1 else 0) (s0.1 242 6).toNat 0 a = a + cn (fun v => if rnA N sd rain v then 1 else 0) (s0.1 242 6).toNat 0 0 := by
        have := cn_add (g := fun v => if rnA N sd rain v then 1 else 0) (s0.1 242 6).toNat 0 a 0
        rw [show a + 0 = a by omega] at this
        exact this
      rw [ea]
      exact ih j (k + 1) _ _ t _ (by omega) (by omega) (by omega) (by omega) (by omega) hsa.1 hsa.2 t2 t1 (nInv_rday hm rfl rfl rfl hI (by omega)) (by rw [rday_0 hm rfl rfl rfl hI]; omega) t3
theorem R_act2 {n : Nat} {s t : zS} (hR : R n s) (hA : FrJ (fun a k => Act (s.2.2 1) a k ∨ (a = 0 ∧ k = 18) ∨ (a = 209 ∧ k = 76)) s t) (h3 : rSeed t.1 t.2.1) (h6 : rNow t.1) (h7 : rPast t.1) : R (n + 1) t := by
  have hLL := R_LL hR
  have hM := hA.2
  have g : ∀ a k, ¬ (Act (s.2.2 1) a k ∨ (a = 0 ∧ k = 18) ∨ (a = 209 ∧ k = 76)) → t.1 a k = s.1 a k := fun a k q => (hA.1 a k q).1
  have gj : ∀ a k, ¬ (Act (s.2.2 1) a k ∨ (a = 0 ∧ k = 18) ∨ (a = 209 ∧ k = 76)) → t.2.1 a k = s.2.1 a k := fun a k q => (hA.1 a k q).2
  unfold Act Scr at g gj
  refine R_of (n := n) (s := s) hR hM (fun a k q => ⟨g a k (by unfold Stt at q; omega), gj a k (by unfold Stt at q; omega)⟩) ?_ ?_ h3 ?_ ?_ h6 h7
  · exact rTape_eq (g _ _ (by omega)) (g _ _ (by omega)) (fun k => g _ _ (by omega)) (fun k => g _ _ (by omega)) (g _ _ (by omega)) (g _ _ (by omega)) (g _ _ (by omega)) (g _ _ (by omega)) (R_tape hR)
  · exact rRefu_eq (fun k => g _ _ (by omega)) (fun k => g _ _ (by omega)) (R_refu hR)
  · exact rImg_eq (g _ _ (by omega)) (g _ _ (by omega)) (fun k => g _ _ (by omega)) (fun k => g _ _ (by omega)) (R_img hR)
  · exact rRows_eq (g _ _ (by omega)) (g _ _ (by omega)) (fun k => g _ _ (by omega)) (fun k => g _ _ (by omega)) (fun k => g _ _ (by omega)) (g _ _ (by omega)) (R_rows hR)
theorem t128 : T128 := by
  intro n s x hx hR hn
  obtain ⟨b1, b2, b3, b4, b5, b6, b7, b8, b9, b10⟩ := R_cnt hR
  have hLL := R_LL hR
  have hM3 := R_M3 hR
  have h28 := R_28 hR
  have hI := (R_now hR).2
  have hm := R_ml hR
  have hday : s.1 28 6 = s.1 254 0 := (R_now hR).1.1
  have hdi : 0 ≤ s.1 254 0 ∧ s.1 254 0 ≤ 999 := hI.1
  obtain ⟨hs1, hs2, hs3⟩ := R_seed hR
  obtain ⟨q1, q2, q3, q4, q5, q6, q7, q8⟩ := R_past hR
  have e139 : m139 x s = some (if (1 ≤ x ∧ x ≤ 100) ∧ s.1 254 0 + x ≤ 999 then 1 else 0, s) := by
    unfold m139
    by_cases c1 : x < 1
    · rw [if_pos c1, if_neg (by omega)]
    rw [if_neg c1]
    by_cases c2 : 100 < x
    · rw [if_pos c2, if_neg (by omega)]
    rw [if_neg c2, oV_eq, oZ_pos (by omega) (by omega)]
    by_cases c3 : 999 - s.1 28 6 < x
    · rw [if_pos c3, if_neg (by omega)]
    · rw [if_neg c3, if_pos (by omega)]
  by_cases c : (1 ≤ x ∧ x ≤ 100) ∧ s.1 254 0 + x ≤ 999
  · unfold Two m128
    refine k_e e139 ?_
    rw [if_pos c]
    refine k_q (by decide) (k_c (p145 hR) ?_)
    intro _ s1 h1
    have f1 := h1.2.2.2
    obtain ⟨e1, hM1⟩ := keep_eq f1 (by omega) (by omega)
    have e242 : s1.1 242 = s.1 242 := funext fun k => e1 242 k (by omega) (by omega)
    have hL1 : rLand s1.1 s1.2.1 (s.2.2 1) := rLand_eq (fun a k z => e1 a k (by omega) (by omega)) (fun k => by rw [hM1]) (R_land hR)
    have hS1 : sRel s1.1 28 (fun i => s.1 254 i) := sRel_eq (by rw [e242]) (by rw [e242]) (fun a k z1 z2 => e1 a k (by omega) (by omega)) (fun _ _ _ => rfl) b5 b8 (by show s.1 254 28 ≤ 8; omega) (R_now hR).1
    have hI1 : nInv (s1.1 242 4) (s1.1 242 5) (s1.1 242 6) (fun i => s.1 254 i) := by rw [e242]; exact hI
    have m3 : s1.2.2 3 = s.2.2 1 := by rw [hM1]; exact hM3
    have m1 : s1.2.2 1 = s.2.2 1 := by rw [hM1]
    have eq1 : eqL s.1 s1.1 := ⟨e242, funext fun k => e1 245 k (by omega) (by omega), funext fun k => e1 246 k (by omega) (by omega), funext fun k => e1 248 k (by omega) (by omega), funext fun k => e1 249 k (by omega) (by omega), funext fun k => e1 250 k (by omega) (by omega), funext fun k => e1 251 k (by omega) (by omega), funext fun k => e1 253 k (by omega) (by omega)⟩
    have s18 : s1.1 0 18 = s.1 0 18 := f1.1 0 18 (by omega)
    refine k_m (p128_22 (L := s.2.2 1) (s0 := s1) (x := x) (rain := s.1 248 5) hLL hL1 m3 m1 c.1.2 (by rw [eq1.2.2.2.1]) zFu x.toNat 0 0 (s.1 0 18) s1 (fun i => s.1 254 i) (by omega) (by omega) (by unfold zFu; omega) (by omega) (by omega) hs2 hs3 s18 hS1 hI1 (by show s.1 254 0 + _ ≤ 999; omega) fr_refl) ?_
    intro r s2 h2
    obtain ⟨g1, g2, g2', g3⟩ := h2
    rw [chS_eq eq1] at g1 g2 g2'
    have ref : ∀ a k, 209 ≤ a → s2.1 a k = s.1 a k := fun a k z => by rw [g3.1 a k (by omega)]; exact e1 a k (by omega) (by omega)
    unfold m247
    refine k_e (e205g (by rw [ref 254 0 (by omega)]; exact hdi.1) (by rw [ref 254 0 (by omega)]; exact hdi.2) (by omega) (by omega)) ?_
    rw [ref 254 0 (by omega), if_pos c]
    refine k_q (by decide) (k_c (p239 (by rw [ref 209 75 (by omega)]; exact q6) (by rw [ref 209 75 (by omega)]; exact q7) (by rw [ref 209 74 (by omega)]; omega) (by rw [ref 209 74 (by omega)]; omega)) ?_)
    intro _ t1 h3
    have hr4 := h3.2.2.2.1
    have tref : ∀ a k, 242 ≤ a → a ≠ 262 → t1.1 a k = s.1 a k := fun a k z1 z2 => by rw [hr4 a k (by omega) (by omega)]; exact ref a k (by omega)
    have t254 : t1.1 254 = s.1 254 := funext fun k => tref 254 k (by omega) (by omega)
    have eqt : eqL s.1 t1.1 := ⟨funext fun k => tref 242 k (by omega) (by omega), funext fun k => tref 245 k (by omega) (by omega), funext fun k => tref 246 k (by omega) (by omega), funext fun k => tref 248 k (by omega) (by omega), funext fun k => tref 249 k (by omega) (by omega), funext fun k => tref 250 k (by omega) (by omega), funext fun k => tref 251 k (by omega) (by omega), funext fun k => tref 253 k (by omega) (by omega)⟩
    have tj : t1.2.1 = s.2.1 := by rw [h3.2.2.2.2, g3.2.1, hM1]
    refine k_m (p247_25 (s0 := t1) (x := x) (rain := s.1 248 5) (mLand_eq eqt hm) c.1.2 (by rw [eqt.2.2.2.1]) zFu x.toNat 0 0 (s.1 0 18) t1 (fun i => s.1 254 i) (by omega) (by omega) (by unfold zFu; omega) (by omega) (by omega) hs2 hs3 (by rw [tj]; exact hs1.symm) (fun i => by rw [t254]) (by rw [eqt.1]; exact hI) (by show s.1 254 0 + _ ≤ 999; omega) frj_refl) ?_
    intro r' t h4
    obtain ⟨y1, y2, y2', y3⟩ := h4
    rw [chS_eq eqt] at y1 y2 y2'
    refine ⟨by rw [g1, y1], ?_⟩
    have ka := keep_all hR h1 (frj_of g3) (fun a k z => by omega) h3 y3 (fun a k z => by omega)
    have hfin := chS_in (rain := s.1 248 5) hm rfl rfl rfl x.toNat (fun i => s.1 254 i) (s.1 0 18) 0 hs2 hs3 hI (by show s.1 254 0 + _ ≤ 999; omega)
    have tc : ∀ a k, a < 209 → t.1 a k = s2.1 a k := fun a k z => by rw [(y3.1 a k (by omega)).1, hr4 a k (by omega) (by omega)]
    have tt : ∀ k, t.1 242 k = s.1 242 k := fun k => by rw [(y3.1 242 k (by omega)).1]; exact tref 242 k (by omega) (by omega)
    refine R_act2 hR ka.2 ?_ ?_ ka.1
    · refine ⟨?_, ?_, ?_⟩
      · rw [tc 0 18 (by omega), g2', y2']
      · rw [tc 0 18 (by omega), g2']; exact hfin.2.1
      · rw [tc 0 18 (by omega), g2']; exact hfin.2.2
    · have x28 := hfin.1.2.2.2.2.1
      refine ⟨sRel_eq (f := s2.1) (by rw [tt, ref 242 5 (by omega)]) (by rw [tt, ref 242 6 (by omega)]) (fun a k z1 z2 => tc a k (by omega)) (fun i _ _ => y2 i) (by rw [ref 242 5 (by omega)]; exact b5) (by rw [ref 242 6 (by omega)]; exact b8) (by rw [x28]; omega) g2, ?_⟩
      rw [tt, tt, tt]
      exact nInv_eq b5 b7 b8 (fun i _ _ => y2 i) hfin.1
  · refine two_ref (j := 3) (r := -1) hR hn (by omega) (by omega) ?_ (fun u hu h1 h2 => ?_)
    · unfold m128
      rw [e139, oC_some, if_neg c, if_pos rfl, e136 hR hn (by omega) (by omega), oC_some]
    · unfold m247
      rw [e205g (by rw [hu 254 0 (by omega)]; exact hdi.1) (by rw [hu 254 0 (by omega)]; exact hdi.2) (by omega) (by omega), oC_some, hu 254 0 (by omega), if_neg c, if_pos rfl, e232 h1 h2 (by omega) (by omega), oC_some]
