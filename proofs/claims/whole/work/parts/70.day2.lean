/-! ===== days: the reference's ===== -/
abbrev nFr (a : Nat) (k : Int) : Prop := a = 254 ∨ (a = 209 ∧ (k = 53 ∨ k = 58 ∨ k = 59 ∨ k = 60 ∨ k = 61 ∨ k = 62 ∨ k = 106)) ∨ a = 287
section
variable {s : zS} {w : Int}
theorem p199_9 {p will day : Int} {s0 : zS} (hm : mLand s0.1) (w0 : 0 ≤ w) (w1 : w < s0.1 242 6) (hp0 : 0 ≤ p) (hp1 : p < s0.1 242 5) (hday : s0.1 254 0 = day) (hd : inM day) (hwill : s0.1 246 (19 + 3 * w) = will) (hi0 : 0 ≤ will) (hi1 : will ≤ 99) {legs : Int} (hl0 : 0 ≤ legs) (hl1 : legs ≤ 9) :
    ∀ (n j : Nat) (k : Int) (s : zS) (x : Int × Int × Int), k = legs - (j : Int) → 0 ≤ k → j < n → s.1 254 (11 + 3 * w) = x.1 + 1 → s.1 254 (2 + p) = x.2.1 → s.1 254 (12 + 3 * w) = x.2.2 → 0 ≤ x.1 → x.1 < s0.1 242 4 → 0 ≤ x.2.1 → x.2.1 ≤ 9 → 0 ≤ x.2.2 → x.2.2 ≤ 999 → FrJ (fun a k => gFr a k ∨ (a = 254 ∧ (k = 11 + 3 * w ∨ k = 2 + p ∨ k = 12 + 3 * w))) s0 s → Ok (m199_9 n w legs p k s) (fun _ t => t.1 254 (11 + 3 * w) = (dyL s0.1 w p will day j x).1 + 1 ∧ t.1 254 (2 + p) = (dyL s0.1 w p will day j x).2.1 ∧ t.1 254 (12 + 3 * w) = (dyL s0.1 w p will day j x).2.2 ∧ FrJ (fun a k => gFr a k ∨ (a = 254 ∧ (k = 11 + 3 * w ∨ k = 2 + p ∨ k = 12 + 3 * w))) s0 t) := by
  obtain ⟨a1, a2, a3, a4, a5, a6⟩ := hm.1
  intro n
  induction n with
  | zero => intro j k s x _ _ h; omega
  | succ n ih =>
    intro j k s x hk k0 hj v1 v2 v3 x1 x2 x3 x4 x5 x6 hs
    rw [m199_9]
    cases j with
    | zero => exact k_q (by omega) (k_r ⟨v1, v2, v3, hs⟩)
    | succ j =>
      refine k_p (by omega) (k_e (e193 w0 (by omega) (by omega) (by omega)) ?_)
      have g : ∀ a k, a ≠ 209 → a ≠ 287 → a ≠ 254 → s.1 a k = s0.1 a k := fun a k m1 m2 m3 => (hs.1 a k (by omega)).1
      rw [v1, g 246 _ (by omega) (by omega) (by omega), show x.1 + 1 - 1 = x.1 by omega]
      by_cases c : x.1 = s0.1 246 (20 + 3 * w)
      · rw [if_pos c]
        refine k_q (by decide) (k_r ?_)
        rw [dyL_t (j := 0) c]
        exact ⟨v1, v2, v3, hs⟩
      · rw [if_neg c, dyL_s c]
        have eqs : eqL s0.1 s.1 := ⟨funext fun k => g 242 k (by omega) (by omega) (by omega), funext fun k => g 245 k (by omega) (by omega) (by omega), funext fun k => g 246 k (by omega) (by omega) (by omega), funext fun k => g 248 k (by omega) (by omega) (by omega), funext fun k => g 249 k (by omega) (by omega) (by omega), funext fun k => g 250 k (by omega) (by omega) (by omega), funext fun k => g 251 k (by omega) (by omega) (by omega), funext fun k => g 253 k (by omega) (by omega) (by omega)⟩
        have e242 : s.1 242 = s0.1 242 := eqs.1
        have d0 : s.1 254 0 = day := by rw [(hs.1 254 0 (by omega)).1]; exact hday
        refine k_p rfl (k_e (e189 w0 (by omega) (by omega) (by omega)) (k_e (e187 hp0 (by omega)) (k_e (e190 w0 (by omega)) ?_)))
        rw [v1, v2, v3, show x.1 + 1 - 1 = x.1 by omega]
        refine k_z (by omega) (by omega) (k_z (by omega) (by omega) (k_x (by omega) (by omega) (k_v ?_)))
        rw [eqs.2.2.1, hwill]
        refine k_c (p198 (w := w) (p := p) (s := s) (mLand_eq eqs hm) w0 (by rw [e242]; exact w1) hp0 (by rw [e242]; exact hp1) x1 (by rw [e242]; exact x2) x3 x4 x5 x6 hi0 hi1 (by rw [d0]; exact hd)) ?_
        intro r t ht
        obtain ⟨y1, y2, y3⟩ := ht
        rw [d0, legTo_eq eqs] at y1
        rw [d0, legHb_eq eqs] at y2
        have lin := leg_in (will := will) (day := day) (wk := x.2.2) hm w0 w1 hp0 hp1 x1 x2 x3 x4
        have tg : ∀ k, t.1 254 k = s.1 254 k := fun k => (y3.1 254 k (by omega)).1
        refine k_z (by omega) (by omega) (k_z (by omega) (by omega) (k_z (by omega) (by omega) ?_))
        rw [y1, show 10 + 3 * w + 1 = 11 + 3 * w by omega]
        refine k_z (by omega) (by omega) (k_x (by omega) (by omega) (k_v (k_z (by omega) (by omega) (k_v ?_))))
        rw [sI_a (by omega), y2]
        refine k_x (by omega) (by omega) (k_v ?_)
        generalize hu : sI (sI t 254 (11 + 3 * w) (legTo s0.1 w p x.1 x.2.1 x.2.2 will day + 1)) 254 (2 + p) (legHb s0.1 w p x.1 x.2.1 x.2.2 will day) = u
        have fu : FrJ (fun a k => gFr a k ∨ (a = 254 ∧ (k = 11 + 3 * w ∨ k = 2 + p ∨ k = 12 + 3 * w))) s0 u := by
          rw [← hu]
          exact frj_trans (frj_trans hs (frj_mono (fun a k z => Or.inl z) y3)) (frj_trans (frj_I (by omega)) (frj_I (by omega)))
        have u11 : u.1 254 (11 + 3 * w) = legTo s0.1 w p x.1 x.2.1 x.2.2 will day + 1 := by rw [← hu, sI_k (by omega), sI_e]
        have u2 : u.1 254 (2 + p) = legHb s0.1 w p x.1 x.2.1 x.2.2 will day := by rw [← hu, sI_e]
        have u12 : u.1 254 (12 + 3 * w) = x.2.2 := by rw [← hu, sI_k (by omega), sI_k (by omega), tg]; exact v3
        refine k_e (e190 w0 (by omega)) ?_
        rw [u12]
        refine k_i (fun c9 => ?_) (fun c9 => ?_)
        · refine k_z (by omega) (by omega) (k_z (by omega) (by omega) (k_z (by omega) (by omega) ?_))
          rw [show 10 + 3 * w + 2 = 12 + 3 * w by omega]
          refine k_x (by omega) (by omega) (k_v ?_)
          rw [u12]
          refine k_z (by omega) (by omega) (k_x (by omega) (by omega) (k_v (k_z (by omega) (by omega) ?_)))
          refine ih j (k + 1) _ _ (by omega) (by omega) (by omega) (by rw [sI_k (by omega)]; exact u11) (by rw [sI_k (by omega)]; exact u2) ?_ lin.1 lin.2.1 lin.2.2.1 lin.2.2.2 ?_ ?_ (frj_trans fu (frj_I (by omega)))
          · rw [sI_e]; show _ = (if x.2.2 < 999 then x.2.2 + 1 else 999); rw [if_pos c9]
          · show 0 ≤ (if x.2.2 < 999 then x.2.2 + 1 else 999); split <;> omega
          · show (if x.2.2 < 999 then x.2.2 + 1 else 999) ≤ 999; split <;> omega
        · refine k_z (by omega) (by omega) ?_
          refine ih j (k + 1) _ _ (by omega) (by omega) (by omega) u11 u2 ?_ lin.1 lin.2.1 lin.2.2.1 lin.2.2.2 ?_ ?_ fu
          · rw [u12]; show _ = (if x.2.2 < 999 then x.2.2 + 1 else 999); rw [if_neg c9]; omega
          · show 0 ≤ (if x.2.2 < 999 then x.2.2 + 1 else 999); split <;> omega
          · show (if x.2.2 < 999 then x.2.2 + 1 else 999) ≤ 999; split <;> omega
/-- the reference's day of one -/
theorem p199 (hm : mLand s.1) (hI : nInv (s.1 242 4) (s.1 242 5) (s.1 242 6) (fun i => s.1 254 i)) (w0 : 0 ≤ w) (w1 : w < s.1 242 6) (hne : s.1 254 (11 + 3 * w) ≠ 0) : Ok (m199 w (s.1 248 4) s) (fun _ t => (∀ i, t.1 254 i = dyN s.1 (fun i => s.1 254 i) w i) ∧ FrJ nFr s t) := by
  obtain ⟨a1, a2, a3, a4, a5, a6⟩ := hm.1
  have hw := hI.2.2.2.1 w w0 w1
  have hww := hm.2.2.1 w w0 w1
  have hlg := hm.2.2.2.2.1
  have hdd : 0 ≤ s.1 254 0 ∧ s.1 254 0 ≤ 999 := hI.1
  dsimp only at hw
  have hhb := hI.2.2.1 (s.1 254 (10 + 3 * w)) hw.1 hw.2.1
  dsimp only at hhb
  unfold m199
  refine k_e (e188 w0 (by omega)) ?_
  refine k_m (p199_9 (w := w) (p := s.1 254 (10 + 3 * w)) (will := s.1 246 (19 + 3 * w)) (day := s.1 254 0) (s0 := s) (legs := s.1 248 4) hm w0 w1 hw.1 hw.2.1 rfl (by omega) rfl (by omega) (by omega) (by omega) (by omega) zFu (s.1 248 4).toNat 0 s (s.1 254 (11 + 3 * w) - 1, s.1 254 (2 + s.1 254 (10 + 3 * w)), s.1 254 (12 + 3 * w)) (by omega) (by omega) (by unfold zFu; omega) (by show _ = s.1 254 (11 + 3 * w) - 1 + 1; omega) rfl rfl (by show 0 ≤ s.1 254 (11 + 3 * w) - 1; omega) (by show s.1 254 (11 + 3 * w) - 1 < _; omega) hhb.1 hhb.2 hw.2.2.2.2.1 hw.2.2.2.2.2 frj_refl) ?_
  intro _ t ht
  obtain ⟨y1, y2, y3, y4⟩ := ht
  refine ⟨fun i => ?_, frj_mono (fun a k z => by omega) y4⟩
  unfold dyN
  dsimp only
  rw [if_neg hne]
  by_cases e1 : i = 11 + 3 * w
  · rw [if_pos e1, e1]; exact y1
  rw [if_neg e1]
  by_cases e2 : i = 2 + s.1 254 (10 + 3 * w)
  · rw [if_pos e2, e2]; exact y2
  rw [if_neg e2]
  by_cases e3 : i = 12 + 3 * w
  · rw [if_pos e3, e3]; exact y3
  rw [if_neg e3]; exact (y4.1 254 i (by omega)).1
end
/-- days of those from k on, j of them, but for whom it rains -/
def dysN (f : Nat → Int → Int) (ab : Int → Prop) [DecidablePred ab] : Nat → Int → (Int → Int) → (Int → Int)
  | 0, _, N => N
  | j + 1, k, N => dysN f ab j (k + 1) (if ab k then N else dyN f N k)
/-- a day more -/
def dayN (N : Int → Int) (i : Int) : Int := if i = 0 then N 0 + 1 else N i
section
variable {f g : Nat → Int → Int}
theorem dyN_eq (e : eqL f g) (N : Int → Int) (w : Int) : dyN g N w = dyN f N w := by
  have hL : ∀ (p will day : Int) (j : Nat) (x : Int × Int × Int), dyL g w p will day j x = dyL f w p will day j x := by
    intro p will day j
    induction j with
    | zero => intro x; rfl
    | succ j ih =>
      intro x
      show (if _ then _ else _) = (if _ then _ else _)
      rw [e.2.2.1, legTo_eq e, legHb_eq e, ih]
  have hX : dyX g N w = dyX f N w := by
    unfold dyX
    rw [hL, e.2.2.1, e.2.2.2.1]
  funext i
  unfold dyN
  rw [hX]
theorem nInv_dys {ab : Int → Prop} [DecidablePred ab] {a b c : Int} (hL : mLand f) (ea : a = f 242 4) (eb : b = f 242 5) (ec : c = f 242 6) : ∀ (j : Nat) (k : Int) (N : Int → Int), 0 ≤ k → k + (j : Int) ≤ c → nInv a b c N → nInv a b c (dysN f ab j k N) := by
  intro j
  induction j with
  | zero => intro k N _ _ h; exact h
  | succ j ih =>
    intro k N k0 k1 h
    show nInv a b c (dysN f ab j (k + 1) (if ab k then N else dyN f N k))
    refine ih (k + 1) _ (by omega) (by omega) ?_
    split
    · exact h
    · exact nInv_dy hL ea eb ec h k0 (by omega)
theorem nInv_day {a b c : Int} {N : Int → Int} (h : nInv a b c N) (h9 : N 0 < 999) : nInv a b c (dayN N) := by
  obtain ⟨z1, z2, z3, z4, z5, z6, z7, z8, z9⟩ := h
  have o : ∀ i, i ≠ 0 → dayN N i = N i := fun i hi => if_neg hi
  refine ⟨?_, ?_, ?_, ?_, ?_, ?_, ?_, ?_, ?_⟩
  · show 0 ≤ N 0 + 1 ∧ N 0 + 1 ≤ 999; omega
  · rw [o 1 (by omega)]; exact z2
  · intro p p0 p1; rw [o _ (by omega)]; exact z3 p p0 p1
  · intro v v0 v1; rw [o _ (by omega), o _ (by omega), o _ (by omega)]; exact z4 v v0 v1
  · rw [o 28 (by omega)]; exact z5
  · intro k k0 k1; rw [o _ (by omega)]; exact z6 k k0 k1
  · intro v w v0 v1 v2; rw [o _ (by omega), o _ (by omega)]; exact z7 v w v0 v1 v2
  · intro j k v0 v1 v2; rw [o _ (by omega), o _ (by omega)]; exact z8 j k v0 v1 v2
  · intro v k v0 v1 v2 v3; rw [o _ (by omega), o _ (by omega)]; exact z9 v k v0 v1 v2 v3
/-- a day of one leaves the day -/
theorem dyN_0 {N : Int → Int} {w : Int} (hw : 0 ≤ w) (hp : 0 ≤ N (10 + 3 * w)) : dyN f N w 0 = N 0 := dyN_o (by omega) (by omega) (by omega)
end
/-- the reference's day of all -/
theorem p201_2 {s0 : zS} {mask : Int} {ab : Int → Prop} [DecidablePred ab] (hm : mLand s0.1) (hab : ∀ w, 0 ≤ w → w < s0.1 242 6 → (ab w ↔ zAnd (zShr mask w) 1 ≠ 0)) : ∀ (n j : Nat) (k : Int) (s : zS) (N : Int → Int), k = s0.1 242 6 - (j : Int) → 0 ≤ k → j < n → (∀ i, s.1 254 i = N i) → nInv (s0.1 242 4) (s0.1 242 5) (s0.1 242 6) N → N 0 < 999 → FrJ nFr s0 s → Ok (m201_2 n mask k s) (fun _ t => (∀ i, t.1 254 i = dayN (dysN s0.1 ab j k N) i) ∧ FrJ nFr s0 t) := by
  obtain ⟨a1, a2, a3, a4, a5, a6⟩ := hm.1
  intro n
  induction n with
  | zero => intro j k s N _ _ h; omega
  | succ n ih =>
    intro j k s N hk k0 hj hN hI h9 hs
    have g : ∀ a k, a ≠ 209 → a ≠ 287 → a ≠ 254 → s.1 a k = s0.1 a k := fun a k m1 m2 m3 => (hs.1 a k (by omega)).1
    have eN : (fun i => s.1 254 i) = N := funext hN
    have eqs : eqL s0.1 s.1 := ⟨funext fun k => g 242 k (by omega) (by omega) (by omega), funext fun k => g 245 k (by omega) (by omega) (by omega), funext fun k => g 246 k (by omega) (by omega) (by omega), funext fun k => g 248 k (by omega) (by omega) (by omega), funext fun k => g 249 k (by omega) (by omega) (by omega), funext fun k => g 250 k (by omega) (by omega) (by omega), funext fun k => g 251 k (by omega) (by omega) (by omega), funext fun k => g 253 k (by omega) (by omega) (by omega)⟩
    rw [m201_2]
    refine k_e e183 ?_
    rw [eqs.1]
    cases j with
    | zero =>
      refine k_q (by omega) (k_x (by omega) (by omega) (k_v ?_))
      have h0 := hN 0
      have hI0 := hI.1
      refine k_z (by omega) (by omega) (k_x (by omega) (by omega) (k_v (k_r ⟨fun i => ?_, frj_trans hs (frj_I (Or.inl rfl))⟩)))
      show _ = dayN N i
      unfold dayN
      by_cases e : i = 0
      · rw [if_pos e, e, sI_e, h0]
      · rw [if_neg e, sI_k e]; exact hN i
    | succ j =>
      have hk6 : k < s0.1 242 6 := by omega
      have hw := hI.2.2.2.1 k k0 hk6
      have h11 := hN (11 + 3 * k)
      have step : ∀ t N', (∀ i, t.1 254 i = N' i) → nInv (s0.1 242 4) (s0.1 242 5) (s0.1 242 6) N' → N' 0 < 999 → FrJ nFr s0 t → N' = (if ab k then N else dyN s0.1 N k) → Ok (m201_2 n mask (k + 1) t) (fun _ t => (∀ i, t.1 254 i = dayN (dysN s0.1 ab (j + 1) k N) i) ∧ FrJ nFr s0 t) := by
        intro t N' q1 q2 q3 q4 q5
        have := ih j (k + 1) t N' (by omega) (by omega) (by omega) q1 q2 q3 q4
        rw [q5] at this
        exact this
      refine k_p hk6 (k_e (e189 k0 (by omega) (by omega) (by omega)) ?_)
      rw [h11]
      by_cases c : N (11 + 3 * k) - 1 = -1
      · refine k_p c (k_z (by omega) (by omega) (step s N hN hI h9 hs ?_))
        have e : dyN s0.1 N k = N := funext fun i => if_pos (by omega)
        rw [e, ite_self]
      · refine k_q c (k_v (k_v ?_))
        by_cases d : ab k
        · refine k_q ((hab k k0 hk6).mp d) (k_z (by omega) (by omega) (step s N hN hI h9 hs ?_))
          rw [if_pos d]
        · have hz : zAnd (zShr mask k) 1 = 0 := Classical.byContradiction fun z => d ((hab k k0 hk6).mpr z)
          refine k_p hz (k_x (by omega) (by omega) (k_v (k_c (p199 (mLand_eq eqs hm) (by rw [eqs.1, eN]; exact hI) k0 (by rw [eqs.1]; exact hk6) (by rw [h11]; omega)) ?_)))
          intro _ t ht
          have e1 : ∀ i, t.1 254 i = dyN s0.1 N k i := fun i => by rw [ht.1 i, dyN_eq eqs, eN]
          refine k_z (by omega) (by omega) (step t _ e1 (nInv_dy hm rfl rfl rfl hI k0 hk6) ?_ (frj_trans hs ht.2) ?_)
          · rw [dyN_0 k0 hw.1]; exact h9
          · rw [if_neg d]
