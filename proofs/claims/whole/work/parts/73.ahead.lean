/-! ===== later, arrives ===== -/
section
variable {n : Nat} {s t : zS} {x : Int}
theorem e140 (hR : R n s) : m140 s = some (if 999 - s.1 254 0 < 60 then 999 - s.1 254 0 else 60, s) := by
  have hday : s.1 28 6 = s.1 254 0 := (R_now hR).1.1
  have hdi : 0 ≤ s.1 254 0 ∧ s.1 254 0 ≤ 999 := (R_now hR).2.1
  unfold m140
  rw [oV_eq, hday, oZ_pos (by omega) (by omega), e290, oC_some]
theorem e205g {u : zS} {lo hi : Int} (h0 : 0 ≤ u.1 254 0) (h1 : u.1 254 0 ≤ 999) (hlo : 0 ≤ lo) (hhi : hi ≤ 100) : m205 x lo hi u = some (if (lo ≤ x ∧ x ≤ hi) ∧ u.1 254 0 + x ≤ 999 then 1 else 0, u) := by
  unfold m205
  rw [e150, oC_some]
  by_cases c1 : lo ≤ x ∧ x ≤ hi
  · rw [if_pos c1, if_neg (by decide), oX_pos (by omega) (by omega), oV_eq, oZ_pos (by omega) (by omega)]
    by_cases c2 : 999 < u.1 254 0 + x
    · rw [if_pos c2, if_neg (by omega)]
    · rw [if_neg c2, if_pos (by omega)]
  · rw [if_neg c1, if_pos rfl, if_neg (fun z => c1 z.1)]
theorem scr_l (hLL : s.2.2 1 = 43 ∨ s.2.2 1 = 66) {a : Nat} {k : Int} (h : lFr (s.2.2 1) a k) : Scr (s.2.2 1) a k := by
  rcases h with h | h | h | h
  · exact Or.inr (Or.inr (Or.inr (Or.inr (Or.inl h))))
  · exact Or.inr (Or.inl (by omega))
  · exact Or.inr (Or.inr (Or.inr (Or.inr (Or.inr (Or.inl h)))))
  · exact Or.inr (Or.inr (Or.inr (Or.inr (Or.inr (Or.inr (Or.inl h))))))
theorem scr_n {L a : Nat} {k : Int} (h : nFr a k) : Scr L a k ∨ a = 254 := by
  rcases h with h | ⟨h, hk⟩ | h
  · exact Or.inr h
  · exact Or.inl (Or.inr (Or.inr (Or.inr (Or.inr (Or.inr (Or.inr (Or.inr (Or.inr (Or.inl ⟨h, by omega⟩)))))))))
  · exact Or.inl (Or.inr (Or.inr (Or.inr (Or.inr (Or.inr (Or.inr (Or.inr (Or.inr (Or.inr (Or.inr (Or.inr (by omega))))))))))))
theorem scr_255 {L a : Nat} {k : Int} (h : a = 255) : Scr L a k ∨ a = 254 := Or.inl (Or.inr (Or.inr (Or.inr (Or.inr (Or.inr (Or.inr (Or.inr (Or.inr (Or.inr (Or.inl (by omega)))))))))))
/-- a State set from now -/
theorem now34 (hR : R n s) (h : (∀ k, 0 ≤ k → k < 8 → t.1 (34 + 1) k = s.1 (28 + 1) k) ∧ (∀ k, 0 ≤ k → k < 6 → t.1 (34 + 2) k = s.1 (28 + 2) k ∧ t.1 (34 + 3) k = s.1 (28 + 3) k ∧ t.1 (34 + 4) k = s.1 (28 + 4) k) ∧ (∀ k, 0 ≤ k → k < 8 → t.1 (34 + 5) k = s.1 (28 + 5) k) ∧ t.1 34 5 = s.1 28 5 ∧ t.1 34 6 = s.1 28 6 ∧ t.1 34 7 = s.1 28 7 ∧ Fr (fun a _ => 34 ≤ a ∧ a ≤ 34 + 5) s t) : sRel t.1 34 (fun i => s.1 254 i) := by
  obtain ⟨c1, c2, c3, c4, c5, c6, c7⟩ := h
  obtain ⟨b1, b2, b3, b4, b5, b6, b7, b8, b9, b10⟩ := R_cnt hR
  obtain ⟨z1, z2, z3, z4, z5, z6⟩ := (R_now hR).1
  have h28 := R_28 hR
  have e242 : ∀ k, t.1 242 k = s.1 242 k := fun k => c7.1 242 k (by omega)
  refine ⟨by rw [c5]; exact z1, by rw [c6]; exact z2, fun p p0 p1 => ?_, fun v v0 v1 => ?_, by rw [c4]; exact z5, fun k k0 k1 => ?_⟩
  · rw [e242] at p1; rw [c1 p p0 (by omega)]; exact z3 p p0 p1
  · rw [e242] at v1; have := c2 v v0 (by omega); rw [this.1, this.2.1, this.2.2]; exact z4 v v0 v1
  · have k1' : k < s.1 254 28 := k1
    rw [c3 k k0 (by omega)]; exact z6 k k0 k1
end
theorem t119 : T119 := by
  intro n s x y z hx hy hz hR hn
  obtain ⟨b1, b2, b3, b4, b5, b6, b7, b8, b9, b10⟩ := R_cnt hR
  have hLL := R_LL hR
  have hM3 := R_M3 hR
  have hI := (R_now hR).2
  have hdi : 0 ≤ s.1 254 0 ∧ s.1 254 0 ≤ 999 := hI.1
  have hm := R_ml hR
  unfold Two m119
  refine k_v (k_e e50 ?_)
  rw [b6]
  by_cases c : 0 ≤ x ∧ x < s.1 242 6
  · rw [if_pos c]
    refine k_q (by decide) ?_
    by_cases d : (0 ≤ y ∧ y ≤ 60) ∧ s.1 254 0 + y ≤ 999
    · refine k_q (by omega) (k_e (e140 hR) ?_)
      refine k_q (by split <;> omega) (k_c (p56 (A := 34) (B := 28) (Or.inr (by omega))) ?_)
      intro _ s1 h1
      have hS1 := now34 hR h1
      have f1 := h1.2.2.2.2.2.2
      have e1 : ∀ a k, ¬ (34 ≤ a ∧ a ≤ 39) → s1.1 a k = s.1 a k := fun a k z => f1.1 a k (by omega)
      have hM1 : s1.2 = s.2 := Prod.ext f1.2.1 f1.2.2
      have hL1 : rLand s1.1 s1.2.1 (s.2.2 1) := rLand_eq (fun a k z => e1 a k (by omega)) (fun k => by rw [hM1]) (R_land hR)
      have eq1 : eqL s.1 s1.1 := eqL_fr f1 (fun a k q => by omega)
      have m3 : s1.2.2 3 = s.2.2 1 := by rw [hM1]; exact hM3
      refine k_m (p119_42 (L := s.2.2 1) (s0 := s1) (w := x) (x := y) (y := z) hLL hL1 m3 c.1 (by rw [eq1.1]; exact c.2) d.1.2 zFu y.toNat 0 s1 (fun i => s.1 254 i) (by omega) (by omega) (by unfold zFu; omega) hS1 (by rw [eq1.1]; exact hI) (by show s.1 254 0 + _ ≤ 999; omega) fr_refl) ?_
      intro r s2 h2
      obtain ⟨g1, g2⟩ := h2
      have f2 : Fr (lFr (s.2.2 1)) s s2 := fr_trans (fr_mono (fun a k z => Or.inl ⟨z.1, by omega⟩) f1) g2
      have hR2 : R n s2 := R_fr hR (frj_of (fr_mono (fun a k z => scr_l hLL z) f2))
      have ones : ∀ (j : Nat) (N : Int → Int), onesN s1.1 x j N = onesN s.1 x j N := by
        intro j
        induction j with
        | zero => intro N; rfl
        | succ j ih => intro N; show onesN s1.1 x j (oneN s1.1 x N) = onesN s.1 x j (oneN s.1 x N); rw [oneN_eq eq1, ih]
      rw [ones] at g1
      have eq2 : eqL s.1 s2.1 := eqL_fr f2 (fun a k q => by omega)
      have e254 : s2.1 254 = s.1 254 := funext fun k => f2.1 254 k (by omega)
      have eqw := eqW_alls hm rfl rfl rfl c.1 c.2 y.toNat (fun i => s.1 254 i) (fun i => s.1 254 i) hI (by show s.1 254 0 + _ ≤ 999; omega) eqW_refl
      have nal := nInv_alls hm rfl rfl rfl y.toNat (fun i => s.1 254 i) hI (by show s.1 254 0 + _ ≤ 999; omega)
      have nq := nal.2.2.2.1 x c.1 c.2
      unfold m230
      refine k_e (e186 (by rw [eq2.1]; exact b7) (by rw [eq2.1]; exact b8)) ?_
      rw [eq2.1, if_pos c]
      refine k_q (by decide) (k_e (e205g (by rw [e254]; omega) (by rw [e254]; omega) (by omega) (by omega)) ?_)
      rw [e254, if_pos d]
      refine k_q (by decide) (k_e e150 ?_)
      by_cases e : 0 ≤ z ∧ z ≤ 2
      · rw [if_pos e]
        refine k_q (by decide) (k_c p203 ?_)
        intro _ t1 h3
        have eq3 : eqL s.1 t1.1 := eqL_trans eq2 (eqL_fr h3.2 (fun a k q => by omega))
        have t254 : t1.1 254 = s.1 254 := funext fun k => by rw [h3.2.1 254 k (by omega), e254]
        -- days go
        have dg : Ok (m202 y t1) (fun _ t => (∀ i, t.1 254 i = allsN s.1 y.toNat (fun i => s.1 254 i) i) ∧ FrJ nFr t1 t) := by
          unfold m202
          refine k_e (e200m (by rw [eq3.1]; exact b7) (by rw [eq3.1]; exact b8) (by rw [eq3.1, t254]; exact R_hp hR)) ?_
          have hcn := cn_in (g := fun w => if t1.1 254 (11 + 3 * w) - 1 = t1.1 246 (20 + 3 * w) then 1 else 0) (fun k => by split <;> omega) (t1.1 242 6).toNat 0 0
          rw [eq3.1] at hcn ⊢
          refine k_m (p202_7 (s0 := t1) (x := y) (mLand_eq eq3 hm) (by omega) hcn.1 (by omega) zFu y.toNat 0 t1 (fun i => s.1 254 i) (by omega) (by omega) (by unfold zFu; omega) (fun i => by rw [t254]) (by rw [eq3.1]; exact hI) (by show s.1 254 0 + _ ≤ 999; omega) frj_refl) ?_
          intro _ t h4
          have hall' : ∀ (j : Nat) (N : Int → Int), allsN t1.1 j N = allsN s.1 j N := by
            intro j
            induction j with
            | zero => intro N; rfl
            | succ j ih => intro N; show allsN t1.1 j (allN t1.1 N) = allsN s.1 j (allN s.1 N); rw [allN_eq eq3, ih]
          rw [hall'] at h4
          exact h4.2
        refine k_c dg ?_
        intro _ t2 h4
        have h11 := h4.1 (11 + 3 * x)
        have h12 := h4.1 (12 + 3 * x)
        have h10 := h4.1 (10 + 3 * x)
        -- the row comes back
        have fin : ∀ (u : zS) (v : Int), u = t2 → r = v → Ok (oC (m204 u) fun _ s24 => some (v, s24)) (fun r' s2 => r = r' ∧ R (n + 1) s2) := by
          intro u v eu ev
          subst eu
          refine k_c p204 ?_
          intro _ t3 h5
          refine k_r ⟨ev, R_tmp hR2 ⟨fun a k zz => ?_, ?_⟩ (fun i i0 i1 => ?_)⟩
          · have m1 : s2.2.2 1 = s.2.2 1 := by rw [f2.2.2]
            have y1 := h5.2.1 a k (fun q => zz (Or.inr q))
            have y2 := h4.2.1 a k (fun q => zz (scr_n q))
            have y3 := h3.2.1 a k (fun q => zz (scr_255 q))
            exact ⟨by rw [y1, y2.1, y3], by rw [h5.2.2.1, y2.2, h3.2.2.1]⟩
          · rw [h5.2.2.2, h4.2.2, h3.2.2.2]
          · rw [h5.1 i i0 i1, (h4.2.1 255 i (by omega)).1, h3.1 i i0 i1]
        refine k_i (fun c0 => ?_) (fun c0 => ?_)
        · refine k_e (e189 c.1 (by omega) (by rw [h11]; omega) (by rw [h11]; omega)) ?_
          refine fin t2 _ rfl ?_
          rw [g1, if_pos c0, h11, eqw.2.2.1]
        refine k_i (fun c1 => ?_) (fun c1 => ?_)
        · refine k_e (e190 c.1 (by omega)) ?_
          refine fin t2 _ rfl ?_
          rw [g1, if_neg c0, if_pos c1, h12, eqw.2.2.2.1]
        · refine k_e (e188 c.1 (by omega)) ?_
          rw [h10]
          refine k_e (e187 nq.1 (by omega)) ?_
          refine fin t2 _ rfl ?_
          rw [g1, if_neg c0, if_neg c1, if_pos (by omega), h4.1, eqw.2.2.2.2, eqw.2.1]
      · rw [if_neg e]
        refine k_p rfl (k_r ⟨?_, R_up hR2⟩)
        rw [g1, if_neg (by omega), if_neg (by omega), if_neg (by omega)]
    · -- n can't be
      have fin : Ok (m230 x y z s) (fun r' s2 => -1 = r' ∧ R (n + 1) s2) := by
        unfold m230
        refine k_e (e186 b7 b8) ?_
        rw [if_pos c]
        refine k_q (by decide) (k_e (e205g hdi.1 hdi.2 (by omega) (by omega)) ?_)
        rw [if_neg d]
        exact k_p rfl (k_r ⟨rfl, R_up hR⟩)
      by_cases c0 : y < 0
      · exact k_p c0 (k_r fin)
      · refine k_q c0 (k_e (e140 hR) ?_)
        exact k_p (by split <;> omega) (k_r fin)
  · rw [if_neg c]
    refine k_p rfl (k_r ?_)
    unfold m230
    refine k_e (e186 b7 b8) ?_
    rw [if_neg c]
    exact k_p rfl (k_r ⟨rfl, R_up hR⟩)
/-- the reference's loop -/
theorem p231_16 {s0 : zS} {w m : Int} (hm : mLand s0.1) (w0 : 0 ≤ w) (w1 : w < s0.1 242 6) : ∀ (n j : Nat) (k : Int) (s : zS) (N : Int → Int), 0 ≤ k → j < n → (∀ i, s.1 254 i = N i) → nInv (s0.1 242 4) (s0.1 242 5) (s0.1 242 6) N → ((j : Int) = if 999 - N 0 < 60 - k then 999 - N 0 else 60 - k) → FrJ nFr s0 s → Ok (m231_16 n w k s) (fun r t => r = arrS (s0.1 246 (20 + 3 * w)) w (allN s0.1) j k N ∧ ∃ u, FrJ nFr s0 u ∧ (∀ i, 0 ≤ i → i < 37 → t.1 254 i = s0.1 255 i) ∧ Fr (fun a _ => a = 254) u t) := by
  have h6 := hm.1
  intro n
  induction n with
  | zero => intro j k s N _ h; omega
  | succ n ih =>
    intro j k s N k0 hj hN hI hjj hs
    have g : ∀ a k, a ≠ 209 → a ≠ 287 → a ≠ 254 → s.1 a k = s0.1 a k := fun a k m1 m2 m3 => (hs.1 a k (by omega)).1
    have hq := hI.2.2.2.1 w w0 w1
    have hI0 := hI.1
    have h11 := hN (11 + 3 * w)
    have e193' : m193 w s = some (if N (11 + 3 * w) - 1 = s0.1 246 (20 + 3 * w) then 1 else 0, s) := by
      rw [e193 w0 (by omega) (by omega) (by omega), h11, g 246 _ (by omega) (by omega) (by omega)]
    -- the end
    have fin : ∀ v, v = arrS (s0.1 246 (20 + 3 * w)) w (allN s0.1) j k N → v = (if N (11 + 3 * w) - 1 = s0.1 246 (20 + 3 * w) then k else -1) → Ok (m231_53 w k s) (fun r t => r = arrS (s0.1 246 (20 + 3 * w)) w (allN s0.1) j k N ∧ ∃ u, FrJ nFr s0 u ∧ (∀ i, 0 ≤ i → i < 37 → t.1 254 i = s0.1 255 i) ∧ Fr (fun a _ => a = 254) u t) := by
      intro v e1 e2
      unfold m231_53
      refine k_e e193' (k_c p204 ?_)
      intro _ t ht
      have h255 : ∀ i, 0 ≤ i → i < 37 → t.1 254 i = s0.1 255 i := fun i i0 i1 => by rw [ht.1 i i0 i1]; exact g 255 i (by omega) (by omega) (by omega)
      by_cases c : N (11 + 3 * w) - 1 = s0.1 246 (20 + 3 * w)
      · rw [if_pos c] at e2 ⊢
        exact k_q (by decide) (k_r ⟨by rw [← e1, e2], s, hs, h255, ht.2⟩)
      · rw [if_neg c] at e2 ⊢
        exact k_p rfl (k_r ⟨by rw [← e1, e2], s, hs, h255, ht.2⟩)
    rw [m231_16]
    refine k_e e193' ?_
    by_cases c : N (11 + 3 * w) - 1 = s0.1 246 (20 + 3 * w)
    · rw [if_pos c]
      refine k_q (by decide) (fin _ rfl ?_)
      rw [if_pos c]
      cases j with
      | zero => show (if N (11 + 3 * w) - 1 = s0.1 246 (20 + 3 * w) then k else -1) = _; rw [if_pos c]
      | succ j => show (if N (11 + 3 * w) - 1 = s0.1 246 (20 + 3 * w) then k else arrS (s0.1 246 (20 + 3 * w)) w (allN s0.1) j (k + 1) (allN s0.1 N)) = _; rw [if_pos c]
    · rw [if_neg c]
      refine k_p rfl ?_
      cases j with
      | zero =>
        have e0 : arrS (s0.1 246 (20 + 3 * w)) w (allN s0.1) 0 k N = (if N (11 + 3 * w) - 1 = s0.1 246 (20 + 3 * w) then k else -1) := rfl
        refine k_i (fun c6 => k_x (by omega) (by omega) (k_v ?_)) (fun c6 => fin _ rfl e0)
        rw [hN 0]
        refine k_q (by split at hjj <;> omega) (fin _ rfl e0)
      | succ j =>
        refine k_p (by split at hjj <;> omega) (k_x (by omega) (by omega) (k_v ?_))
        rw [hN 0]
        have h9 : N 0 < 999 := by split at hjj <;> omega
        refine k_p h9 (k_c (p201 (s0 := s0) (N := N) hm hN hI h9 hs) ?_)
        intro _ t ht
        have := ih j (k + 1) t (allN s0.1 N) (by omega) (by omega) ht.1 (nInv_all hm rfl rfl rfl hI h9) (by rw [all_0 hm rfl rfl rfl hI]; split at hjj <;> split <;> omega) ht.2
        refine k_z (by split at hjj <;> omega) (by split at hjj <;> omega) (k_m this (fun r u q => ⟨?_, q.2⟩))
        rw [q.1]
        show _ = (if N (11 + 3 * w) - 1 = s0.1 246 (20 + 3 * w) then k else arrS (s0.1 246 (20 + 3 * w)) w (allN s0.1) j (k + 1) (allN s0.1 N))
        rw [if_neg c]
theorem arr_home {f : Nat → Int → Int} {g w : Int} (hg : 0 ≤ g) (w0 : 0 ≤ w) : ∀ (j : Nat) (n : Int) (N : Int → Int), N (11 + 3 * w) = 0 → arrS g w (oneN f w) j n N = -1 := by
  intro j
  induction j with
  | zero => intro n N h; show (if N (11 + 3 * w) - 1 = g then n else -1) = -1; rw [if_neg (by omega)]
  | succ j ih =>
    intro n N h
    show (if N (11 + 3 * w) - 1 = g then n else arrS g w (oneN f w) j (n + 1) (oneN f w N)) = -1
    rw [if_neg (by omega)]
    refine ih (n + 1) _ ?_
    have e : dyN f N w = N := funext fun i => if_pos h
    show (if 11 + 3 * w = 0 then dyN f N w 0 + 1 else dyN f N w (11 + 3 * w)) = 0
    rw [if_neg (by omega), e]; exact h
theorem t120 : T120 := by
  intro n s x hx hR hn
  obtain ⟨b1, b2, b3, b4, b5, b6, b7, b8, b9, b10⟩ := R_cnt hR
  have hLL := R_LL hR
  have hM3 := R_M3 hR
  have hI := (R_now hR).2
  have hdi : 0 ≤ s.1 254 0 ∧ s.1 254 0 ≤ 999 := hI.1
  have hm := R_ml hR
  unfold Two m120
  refine k_v (k_e e50 ?_)
  rw [b6]
  by_cases c : 0 ≤ x ∧ x < s.1 242 6
  · rw [if_pos c]
    have hw := R_w hR c.1 c.2
    have hgo := hm.2.2.1 x c.1 c.2
    generalize hmo : (if 999 - s.1 254 0 < 60 then 999 - s.1 254 0 else 60) = mo
    have hmo' : 0 ≤ mo ∧ mo ≤ 60 ∧ s.1 254 0 + mo ≤ 999 := by rw [← hmo]; split <;> omega
    -- the reference's side, from a state that differs in what may be forgotten
    have ref : ∀ (u : zS) (r : Int), R n u → eqL s.1 u.1 → u.1 254 = s.1 254 → r = arrS (s.1 246 (20 + 3 * x)) x (allN s.1) mo.toNat 0 (fun i => s.1 254 i) → Ok (m231 x u) (fun r' s2 => r = r' ∧ R (n + 1) s2) := by
      intro u r hRu equ e254 hr
      unfold m231
      refine k_e (e186 (by rw [equ.1]; exact b7) (by rw [equ.1]; exact b8)) ?_
      rw [equ.1, if_pos c]
      refine k_q (by decide) (k_c p203 ?_)
      intro _ t1 h3
      have eq3 : eqL s.1 t1.1 := eqL_trans equ (eqL_fr h3.2 (fun a k q => by omega))
      have t254 : t1.1 254 = s.1 254 := funext fun k => by rw [h3.2.1 254 k (by omega), e254]
      refine k_m (p231_16 (s0 := t1) (w := x) (m := mo) (mLand_eq eq3 hm) c.1 (by rw [eq3.1]; exact c.2) zFu mo.toNat 0 t1 (fun i => s.1 254 i) (by omega) (by unfold zFu; omega) (fun i => by rw [t254]) (by rw [eq3.1]; exact hI) (by show _ = (if 999 - s.1 254 0 < 60 - 0 then 999 - s.1 254 0 else 60 - 0); rw [← hmo]; split <;> split <;> omega) frj_refl) ?_
      intro r' t h4
      obtain ⟨y1, v, y2, y3, y4⟩ := h4
      have earr : arrS (t1.1 246 (20 + 3 * x)) x (allN t1.1) mo.toNat 0 (fun i => s.1 254 i) = arrS (s.1 246 (20 + 3 * x)) x (allN s.1) mo.toNat 0 (fun i => s.1 254 i) := by
        rw [eq3.2.2.1, show allN t1.1 = allN s.1 from funext fun N => allN_eq eq3 N]
      rw [earr] at y1
      refine ⟨hr.trans y1.symm, R_tmp hRu ⟨fun a k zz => ?_, ?_⟩ (fun i i0 i1 => ?_)⟩
      · have w1 := y4.1 a k (fun q => zz (Or.inr q))
        have w2 := y2.1 a k (fun q => zz (scr_n q))
        have w3 := h3.2.1 a k (fun q => zz (scr_255 q))
        exact ⟨by rw [w1, w2.1, w3], by rw [y4.2.1, w2.2, h3.2.2.1]⟩
      · rw [y4.2.2, y2.2, h3.2.2.2]
      · rw [y3 i i0 i1, h3.1 i i0 i1]
    have earr := arrS_eq (g := s.1 246 (20 + 3 * x)) hm rfl rfl rfl c.1 c.2 mo.toNat 0 (fun i => s.1 254 i) (fun i => s.1 254 i) hI (by show s.1 254 0 + _ ≤ 999; omega) eqW_refl
    refine k_q (by decide) (k_x c.1 (by omega) (k_v ?_))
    rw [hw.2.1]
    refine k_i (fun d => ?_) (fun d => ?_)
    · refine k_r (ref s (-1) hR eqL_refl rfl ?_)
      rw [earr, arr_home (by omega) c.1 _ _ _ (by show s.1 254 (11 + 3 * x) = 0; omega)]
    · refine k_e (e140 hR) ?_
      rw [hmo]
      refine k_c (p56 (A := 34) (B := 28) (Or.inr (by omega))) ?_
      intro _ s1 h1
      have hS1 := now34 hR h1
      have f1 := h1.2.2.2.2.2.2
      have e1 : ∀ a k, ¬ (34 ≤ a ∧ a ≤ 39) → s1.1 a k = s.1 a k := fun a k z => f1.1 a k (by omega)
      have hM1 : s1.2 = s.2 := Prod.ext f1.2.1 f1.2.2
      have hL1 : rLand s1.1 s1.2.1 (s.2.2 1) := rLand_eq (fun a k z => e1 a k (by omega)) (fun k => by rw [hM1]) (R_land hR)
      have eq1 : eqL s.1 s1.1 := eqL_fr f1 (fun a k q => by omega)
      have m3 : s1.2.2 3 = s.2.2 1 := by rw [hM1]; exact hM3
      refine k_m (p120_47 (L := s.2.2 1) (s0 := s1) (w := x) (x := mo) hLL hL1 m3 c.1 (by rw [eq1.1]; exact c.2) hmo'.2.1 zFu mo.toNat 0 s1 (fun i => s.1 254 i) (by omega) (by omega) (by unfold zFu; omega) hS1 (by rw [eq1.1]; exact hI) (by show s.1 254 0 + _ ≤ 999; omega) fr_refl) ?_
      intro r s2 h2
      obtain ⟨g1, g2⟩ := h2
      have f2 : Fr (lFr (s.2.2 1)) s s2 := fr_trans (fr_mono (fun a k z => Or.inl ⟨z.1, by omega⟩) f1) g2
      refine ref s2 r (R_fr hR (frj_of (fr_mono (fun a k z => scr_l hLL z) f2))) (eqL_fr f2 (fun a k q => by omega)) (funext fun k => f2.1 254 k (by omega)) ?_
      rw [g1, earr, eq1.2.2.1, show oneN s1.1 x = oneN s.1 x from funext fun N => oneN_eq eq1 x N]
  · rw [if_neg c]
    refine k_p rfl (k_r ?_)
    unfold m231
    refine k_e (e186 b7 b8) ?_
    rw [if_neg c]
    exact k_p rfl (k_r ⟨rfl, R_up hR⟩)
