/-! ===== on: both ===== -/
theorem onOk_cg {b b' : Int → Int} {l nP nS nW : Int} (hbb : ∀ k, 0 ≤ k → k < 1600 → b k = b' k) (hw0 : 0 ≤ nW) (hw6 : nW ≤ 6) (hws : nW ≤ nS) (hs8 : nS ≤ 8) (h : onOk b l nP nS nW) : onOk b' l nP nS nW := by
  obtain ⟨h1, h2, h3, h4, h5, h6, h7⟩ := h
  have pe : ∀ k, 0 ≤ k → k < nS → prA b' nS nW k = prA b nS nW k := by
    intro k k0 k1
    unfold prA
    split
    · exact (hbb _ (by omega) (by omega)).symm
    · exact (hbb _ (by omega) (by omega)).symm
  refine ⟨h1, ?_, ?_, ?_, fun p p0 p1 => ?_, fun w w0 w1 => ?_, fun p p0 p1 => ?_⟩
  · rw [← chk_congr (b := b) (b' := b') (l - 1).toNat 0 103 (fun i i0 i1 => hbb i (by omega) (by omega)), ← hbb (l - 1) (by omega) (by omega)]; exact h2
  · rw [← hbb 0 (by omega) (by omega), ← hbb 1 (by omega) (by omega)]; exact h3
  · rw [← hbb 2 (by omega) (by omega)]; exact h4
  · rw [← hbb (3 + p) (by omega) (by omega)]; exact h5 p p0 p1
  · have := h6 w w0 w1
    unfold wOk at this ⊢
    rw [← hbb (3 + nS + 4 * w + 1) (by omega) (by omega), ← hbb (3 + nS + 4 * w + 2) (by omega) (by omega), ← hbb (3 + nS + 4 * w + 3) (by omega) (by omega)]
    exact this
  · obtain ⟨k, k0, k1, k2⟩ := h7 p p0 p1
    exact ⟨k, k0, k1, by rw [pe k k0 k1]; exact k2⟩
theorem nInv_on {b N : Int → Int} {l nP nS nW : Int} (hb : ∀ k, 0 ≤ k → k < 1600 → 0 ≤ b k ∧ b k ≤ 255) (hw0 : 0 ≤ nW) (hw6 : nW ≤ 6) (hws : nW ≤ nS) (hs8 : nS ≤ 8) (h : onOk b l nP nS nW) (hN : onN b nS nW N) : nInv nP nS nW N := by
  obtain ⟨h1, h2, h3, h4, h5, h6, h7⟩ := h
  obtain ⟨g1, g2, g3, g4, g5, g6⟩ := hN
  have h8 := (prO_iff (by omega)).mp h7
  have pw : ∀ w, 0 ≤ w → w < nW → N (10 + 3 * w) = prA b nS nW w := fun w w0 w1 => by unfold prA; rw [if_pos w1]; exact (g4 w w0 w1).1
  have pk : ∀ k, 0 ≤ k → k < nS - nW → N (29 + k) = prA b nS nW (nW + k) := fun k k0 k1 => by
    unfold prA; rw [if_neg (by omega), show 3 + nS + 3 * nW + (nW + k) = 3 + nS + 4 * nW + k by omega]; exact g6 k k0 k1
  have b0 := hb 0 (by omega) (by omega)
  have b1 := hb 1 (by omega) (by omega)
  have b2 := hb 2 (by omega) (by omega)
  refine ⟨by omega, by omega, fun p p0 p1 => ?_, fun w w0 w1 => ?_, g5, fun k k0 k1 => ?_, fun v w v0 v1 w1 => ?_, fun j k j0 j1 k1 => ?_, fun w k w0 w1 k0 k1 => ?_⟩
  · have := hb (3 + p) (by omega) (by omega)
    have := h5 p p0 p1
    rw [g3 p p0 p1]; omega
  · have q := (h8 w w0 (by omega)).1
    rw [← pw w w0 w1] at q
    obtain ⟨c1, c2, c3⟩ := g4 w w0 w1
    obtain ⟨d1, d2, d3⟩ := h6 w w0 w1
    have := hb (3 + nS + 4 * w + 1) (by omega) (by omega)
    have := hb (3 + nS + 4 * w + 2) (by omega) (by omega)
    have := hb (3 + nS + 4 * w + 3) (by omega) (by omega)
    omega
  · have q := (h8 (nW + k) (by omega) (by omega)).1
    rw [← pk k k0 k1] at q; exact q
  · rw [pw v v0 (by omega), pw w (by omega) w1]; exact (h8 w (by omega) (by omega)).2 v v0 v1
  · rw [pk j j0 (by omega), pk k (by omega) k1]; exact (h8 (nW + k) (by omega) (by omega)).2 (nW + j) (by omega) (by omega)
  · rw [pw w w0 w1, pk k k0 k1]; exact (h8 (nW + k) (by omega) (by omega)).2 w w0 (by omega)
theorem t134 : T134 := by
  intro n s hR hn
  have hLL := R_LL hR
  obtain ⟨b1, b2, b3, b4, b5, b6, b7, b8, b9, b10⟩ := R_cnt hR
  obtain ⟨q1, q2, q3, q4, q5, q6⟩ := R_tape hR
  obtain ⟨u1, u2, u3⟩ := R_refu hR 5 (by omega) (by omega)
  have hbb : ∀ k, 0 ≤ k → k < 1600 → s.1 2 k = s.1 210 k := fun k k0 k1 => (q4 k k0 k1).1
  have hb2 : ∀ k, 0 ≤ k → k < 1600 → 0 ≤ s.1 2 k ∧ s.1 2 k ≤ 255 := fun k k0 k1 => (q4 k k0 k1).2
  have hb : ∀ k, 0 ≤ k → k < 1600 → 0 ≤ s.1 210 k ∧ s.1 210 k ≤ 255 := fun k k0 k1 => by rw [← hbb k k0 k1]; exact hb2 k k0 k1
  unfold Two m134
  refine k_v (k_c (p67 (nP := s.1 242 4) (nS := s.1 242 5) (nW := s.1 242 6) hLL b1 b4 b6 b2 hb2 q2 q3 b7 b8 b9 b5) ?_)
  intro r s1 h1
  obtain ⟨f1, h1⟩ := h1
  refine k_v ?_
  rcases h1 with ⟨o1, o2, o3⟩ | ⟨o1, o2⟩
  · rw [o2]
    refine k_q (by decide) (k_c (p56 (A := 28) (B := 34) (by omega)) ?_)
    intro _ s2 h2
    obtain ⟨c1, c2, c3, c4, c5, c6, c7⟩ := h2
    refine k_v (k_r ?_)
    have f2 : Fr (fun a k => (28 ≤ a ∧ a ≤ 39) ∨ (a = 1 ∧ k = 2) ∨ (a = 0 ∧ k = 17)) s s2 := fr_trans (fr_mono (fun a k z => by omega) f1) (fr_trans (fr_I (by omega)) (fr_mono (fun a k z => by omega) c7))
    unfold m284
    refine k_v (k_v ?_)
    rw [sI_a (by omega), f2.1 209 1 (by omega)]
    generalize hw : sI (sI s2 0 17 0) 209 1 0 = w
    have fw : Fr (fun a k => (28 ≤ a ∧ a ≤ 39) ∨ (a = 1 ∧ k = 2) ∨ (a = 0 ∧ k = 17) ∨ (a = 209 ∧ k = 1)) s w := by
      rw [← hw]; exact fr_trans (fr_mono (fun a k z => by omega) f2) (fr_trans (fr_I (by omega)) (fr_I (by omega)))
    have w210 : (fun i => w.1 210 i) = (fun i => s.1 210 i) := funext (fun i => fw.1 210 i (by omega))
    have hbw : ∀ k, 0 ≤ k → k < 1600 → 0 ≤ w.1 210 k ∧ w.1 210 k ≤ 255 := fun k k0 k1 => by rw [fw.1 210 k (by omega)]; exact hb k k0 k1
    have w2 : w.1 1 2 = 0 := by rw [← hw, sI_a (by omega), sI_a (by omega), c7.1 1 2 (by omega), sI_e]
    have w17 : w.1 0 17 = 0 := by rw [← hw, sI_a (by omega), sI_e]
    have w1 : w.1 209 1 = 0 := by rw [← hw, sI_e]
    have G2 : ∀ a k, 28 ≤ a → a ≤ 33 → w.1 a k = s2.1 a k := fun a k a0 a1 => by rw [← hw, sI_a (by omega), sI_a (by omega)]
    have hw4 : w.1 242 4 = s.1 242 4 := fw.1 242 4 (by omega)
    have hw5 : w.1 242 5 = s.1 242 5 := fw.1 242 5 (by omega)
    have hw6 : w.1 242 6 = s.1 242 6 := fw.1 242 6 (by omega)
    have ok : onOk (fun i => s.1 210 i) (s.1 209 1) (s.1 242 4) (s.1 242 5) (s.1 242 6) := by rw [← q1]; exact onOk_cg hbb b7 b8 b9 b5 o1
    refine k_c (p283 (nP := s.1 242 4) (nS := s.1 242 5) (nW := s.1 242 6) hw4 hw5 hw6 hbw b7 b8 b9 b5) ?_
    intro r3 s3 h3
    obtain ⟨e3, h3⟩ := h3
    rw [w210] at h3
    rcases h3 with ⟨p1, p2⟩ | ⟨p1, p2⟩
    · rw [p2, e3]
      have d0 := hbw 0 (by omega) (by omega)
      have d1 := hbw 1 (by omega) (by omega)
      refine k_q (by decide) (k_e e182 ?_)
      rw [hw5]
      refine k_z (by omega) (by omega) (k_x (by omega) (by omega) (k_v (k_z (by omega) (by omega) (k_x (by omega) (by omega) (k_v (k_z (by omega) (by omega) (k_x (by omega) (by omega) (k_v (k_x (by omega) (by omega) (k_v (k_x (by omega) (by omega) (k_v ?_))))))))))))
      rw [sI_a (by omega)]
      refine k_m (p284_74 (s0 := w) hw5 hw6 hbw b7 b8 b9 b5 zFu (s.1 242 5).toNat 0 _ (by omega) (by omega) (by unfold zFu; omega) (fr_trans (fr_I (Or.inl rfl)) (fr_I (Or.inl rfl))) (by rw [sI_k (by omega), sI_e]) sI_e (fun q q0 q1 => by omega)) ?_
      intro r4 t h4
      obtain ⟨r1, r2, r3, r4⟩ := h4
      refine ⟨r1.symm, ?_⟩
      rw [w210] at r4
      have F : ∀ a k, ¬ ((28 ≤ a ∧ a ≤ 39) ∨ (a = 1 ∧ k = 2) ∨ (a = 0 ∧ k = 17) ∨ (a = 209 ∧ k = 1) ∨ a = 254 ∨ (a = 209 ∧ k = 74)) → t.1 a k = s.1 a k := fun a k z => by rw [r2.1 a k (by omega), fw.1 a k (by omega)]
      have hM : t.2 = s.2 := Prod.ext (r2.2.1.trans fw.2.1) (r2.2.2.trans fw.2.2)
      have G : ∀ a k, 28 ≤ a → a ≤ 33 → t.1 a k = s2.1 a k := fun a k a0 a1 => by rw [r2.1 a k (by omega)]; exact G2 a k a0 a1
      have t12 : t.1 1 2 = 0 := by rw [r2.1 1 2 (by omega)]; exact w2
      have t17 : t.1 0 17 = 0 := by rw [r2.1 0 17 (by omega)]; exact w17
      have t91 : t.1 209 1 = 0 := by rw [r2.1 209 1 (by omega)]; exact w1
      refine R_of (n := n) (s := s) hR (by rw [hM]) (fun a k q => ⟨F a k (by unfold Stt at q; omega), by rw [hM]⟩) ?_ ?_ ?_ ?_ ?_ ?_ ?_
      · refine ⟨by rw [t12, t91], by omega, by omega, fun k k0 k1 => ?_, ?_, ?_⟩
        · rw [F 2 k (by omega), F 210 k (by omega)]; exact q4 k k0 k1
        · rw [F 1 5 (by omega), F 209 7 (by omega)]; exact q5
        · rw [F 1 6 (by omega), F 209 8 (by omega)]; exact q6
      · exact rRefu_eq (fun k => F _ _ (by omega)) (fun k => F _ _ (by omega)) (R_refu hR)
      · exact rSeed_eq (F _ _ (by omega)) (by rw [hM]) (R_seed hR)
      · exact rImg_eq (F _ _ (by omega)) (F _ _ (by omega)) (fun k => F _ _ (by omega)) (fun k => F _ _ (by omega)) (R_img hR)
      · exact rRows_eq (F _ _ (by omega)) (F _ _ (by omega)) (fun k => F _ _ (by omega)) (fun k => F _ _ (by omega)) (fun k => F _ _ (by omega)) (F _ _ (by omega)) (R_rows hR)
      · have t5 : t.1 242 5 = s.1 242 5 := F _ _ (by omega)
        have t6 : t.1 242 6 = s.1 242 6 := F _ _ (by omega)
        have t4 : t.1 242 4 = s.1 242 4 := F _ _ (by omega)
        refine ⟨?_, by rw [t4, t5, t6]; exact nInv_on hb b7 b8 b9 b5 ok r4⟩
        obtain ⟨n1, n2, n3, n4, n5, n6⟩ := r4
        obtain ⟨m1, m2, m3, m4, m5, m6⟩ := o3
        refine ⟨?_, ?_, fun p p0 p1 => ?_, fun w w0 w1 => ?_, ?_, fun k k0 k1 => ?_⟩
        · rw [n1, G 28 6 (by omega) (by omega), c5, sI_a (by omega), m2]
          show 256 * s.1 2 0 + s.1 2 1 = 256 * s.1 210 0 + s.1 210 1
          rw [hbb 0 (by omega) (by omega), hbb 1 (by omega) (by omega)]
        · rw [n2, G 28 7 (by omega) (by omega), c6, sI_a (by omega), m3]
          exact hbb 2 (by omega) (by omega)
        · rw [t5] at p1
          rw [n3 p p0 p1, G (28 + 1) p (by omega) (by omega), c1 p p0 (by omega), sI_a (by omega)]
          exact (m4 p p0 p1).trans (hbb _ (by omega) (by omega))
        · rw [t6] at w1
          obtain ⟨z1, z2, z3⟩ := n4 w w0 w1
          obtain ⟨y1, y2, y3⟩ := c2 w w0 (by omega)
          obtain ⟨x1, x2, x3⟩ := m5 w w0 w1
          rw [z1, z2, z3, G (28 + 2) w (by omega) (by omega), G (28 + 3) w (by omega) (by omega), G (28 + 4) w (by omega) (by omega), y1, y2, y3, sI_a (by omega), sI_a (by omega), sI_a (by omega)]
          refine ⟨x1.trans (hbb _ (by omega) (by omega)), x2.trans ?_, x3.trans ?_⟩
          · show s.1 2 _ - 1 = s.1 210 _ - 1
            rw [hbb _ (by omega) (by omega)]
          · show 256 * s.1 2 (3 + s.1 242 5 + 4 * w + 2) + s.1 2 (3 + s.1 242 5 + 4 * w + 3) = 256 * s.1 210 (3 + s.1 242 5 + 4 * w + 2) + s.1 210 (3 + s.1 242 5 + 4 * w + 3)
            rw [hbb (3 + s.1 242 5 + 4 * w + 2) (by omega) (by omega), hbb (3 + s.1 242 5 + 4 * w + 3) (by omega) (by omega)]
        · rw [n5, G 28 5 (by omega) (by omega), c4, sI_a (by omega)]; exact m1
        · rw [n5] at k1
          rw [n6 k k0 k1, G (28 + 5) k (by omega) (by omega), c3 k k0 (by omega), sI_a (by omega)]
          exact (m6 k k0 k1).trans (hbb _ (by omega) (by omega))
      · obtain ⟨z1, z2, z3, z4, z5, z6, z7, z8⟩ := R_past hR
        refine ⟨by rw [F 0 16 (by omega)]; exact z1, by rw [F 0 16 (by omega)]; exact z2, by omega, by omega, by rw [t17, r3], by rw [F 209 75 (by omega)]; exact z6, by rw [F 209 75 (by omega)]; exact z7, fun j j0 j1 => by omega⟩
    · exact absurd ok p1
  · rw [o2]
    have f5 : Fr (fun a k => (34 ≤ a ∧ a ≤ 39) ∨ (a = 1 ∧ k = 2)) s (sI s1 1 2 0) := fr_trans (fr_mono (fun a k z => by omega) f1) (fr_I (by omega))
    have g12 : (sI s1 1 2 0).1 1 2 = 0 := sI_e
    generalize sI s1 1 2 0 = s5 at f5 g12
    have g41 : s5.1 41 5 = s.1 41 5 := f5.1 41 5 (by omega)
    have ee : m136 5 s5 = some (-1, sI s5 41 5 (s.1 41 5 + 1)) := by
      unfold m136
      rw [oX_pos (by omega) (by omega), oV_eq, g41, oZ_pos (by omega) (by omega), oX_pos (by omega) (by omega), oV_eq]
    refine k_p rfl (k_e ee (k_r ?_))
    unfold m284
    refine k_v (k_v ?_)
    rw [sI_a (by omega), f5.1 209 1 (by omega)]
    generalize hw : sI (sI s5 41 5 (s.1 41 5 + 1)) 209 1 0 = w
    have fw : Fr (fun a k => (34 ≤ a ∧ a ≤ 39) ∨ (a = 1 ∧ k = 2) ∨ (a = 41 ∧ k = 5) ∨ (a = 209 ∧ k = 1)) s w := by
      rw [← hw]; exact fr_trans (fr_mono (fun a k z => by omega) f5) (fr_trans (fr_I (by omega)) (fr_I (by omega)))
    have w210 : (fun i => w.1 210 i) = (fun i => s.1 210 i) := funext (fun i => fw.1 210 i (by omega))
    have hbw : ∀ k, 0 ≤ k → k < 1600 → 0 ≤ w.1 210 k ∧ w.1 210 k ≤ 255 := fun k k0 k1 => by rw [fw.1 210 k (by omega)]; exact hb k k0 k1
    have w2 : w.1 1 2 = 0 := by rw [← hw, sI_a (by omega), sI_a (by omega)]; exact g12
    have w1 : w.1 209 1 = 0 := by rw [← hw, sI_e]
    have w41 : w.1 41 5 = s.1 41 5 + 1 := by rw [← hw, sI_a (by omega), sI_e]
    have w211 : w.1 211 5 = s.1 211 5 := fw.1 211 5 (by omega)
    refine k_c (p283 (nP := s.1 242 4) (nS := s.1 242 5) (nW := s.1 242 6) (fw.1 242 4 (by omega)) (fw.1 242 5 (by omega)) (fw.1 242 6 (by omega)) hbw b7 b8 b9 b5) ?_
    intro r3 s3 h3
    obtain ⟨e3, h3⟩ := h3
    rw [w210] at h3
    rcases h3 with ⟨p1, p2⟩ | ⟨p1, p2⟩
    · rw [← q1] at p1
      exact absurd (onOk_cg (fun k k0 k1 => (hbb k k0 k1).symm) b7 b8 b9 b5 p1) o1
    · rw [p2, e3]
      refine k_p rfl (k_x (by omega) (by omega) (k_v ?_))
      rw [w211]
      refine k_z (by omega) (by omega) (k_x (by omega) (by omega) (k_v (k_r ⟨rfl, ?_⟩)))
      generalize ht : sI w 211 5 (s.1 211 5 + 1) = t
      have F : ∀ a k, ¬ ((34 ≤ a ∧ a ≤ 39) ∨ (a = 1 ∧ k = 2) ∨ (a = 41 ∧ k = 5) ∨ (a = 209 ∧ k = 1) ∨ (a = 211 ∧ k = 5)) → t.1 a k = s.1 a k := fun a k z => by rw [← ht, sI_if, if_neg (by omega), fw.1 a k (by omega)]
      have hM : t.2 = s.2 := by rw [← ht]; exact Prod.ext fw.2.1 fw.2.2
      have t12 : t.1 1 2 = 0 := by rw [← ht, sI_a (by omega)]; exact w2
      have t91 : t.1 209 1 = 0 := by rw [← ht, sI_a (by omega)]; exact w1
      have t41 : t.1 41 5 = s.1 41 5 + 1 := by rw [← ht, sI_a (by omega)]; exact w41
      have t11 : t.1 211 5 = s.1 211 5 + 1 := by rw [← ht, sI_e]
      refine R_of (n := n) (s := s) hR (by rw [hM]) (fun a k q => ⟨F a k (by unfold Stt at q; omega), by rw [hM]⟩) ?_ ?_ ?_ ?_ ?_ ?_ ?_
      · refine ⟨by rw [t12, t91], by omega, by omega, fun k k0 k1 => ?_, ?_, ?_⟩
        · rw [F 2 k (by omega), F 210 k (by omega)]; exact q4 k k0 k1
        · rw [F 1 5 (by omega), F 209 7 (by omega)]; exact q5
        · rw [F 1 6 (by omega), F 209 8 (by omega)]; exact q6
      · refine rRefu_inc (j := 5) (by omega) (by omega) (fun k => ?_) (fun k => ?_) (R_refu hR)
        · by_cases e : k = 5
          · rw [if_pos e, e]; exact t41
          · rw [if_neg e]; exact F _ _ (by omega)
        · by_cases e : k = 5
          · rw [if_pos e, e]; exact t11
          · rw [if_neg e]; exact F _ _ (by omega)
      · exact rSeed_eq (F _ _ (by omega)) (by rw [hM]) (R_seed hR)
      · exact rImg_eq (F _ _ (by omega)) (F _ _ (by omega)) (fun k => F _ _ (by omega)) (fun k => F _ _ (by omega)) (R_img hR)
      · exact rRows_eq (F _ _ (by omega)) (F _ _ (by omega)) (fun k => F _ _ (by omega)) (fun k => F _ _ (by omega)) (fun k => F _ _ (by omega)) (F _ _ (by omega)) (R_rows hR)
      · exact rNow_eq (R_cnt hR) (fun k => F _ _ (by omega)) (fun a k q1 q2 => F _ _ (by omega)) (fun k => F _ _ (by omega)) (R_now hR)
      · exact rPast_eq (R_cnt hR) (fun k => F _ _ (by omega)) (F _ _ (by omega)) (F _ _ (by omega)) (F _ _ (by omega)) (F _ _ (by omega)) (fun a k q1 q2 => F _ _ (by omega)) (fun k => F _ _ (by omega)) (R_past hR)
