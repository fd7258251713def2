/-! ===== the class tells a land: walker ===== -/
theorem fnd_snoc {f : Int → Int} {p : Int} : ∀ (j : Nat) (k : Int), f (k + (j : Int)) ≠ p → fnd f p (j + 1) k = fnd f p j k := by
  intro j
  induction j with
  | zero =>
    intro k h
    show (if f k = p then k else (-1 : Int)) = -1
    rw [show k + ((0 : Nat) : Int) = k by omega] at h
    exact if_neg h
  | succ j ih =>
    intro k h
    show (if f k = p then k else fnd f p (j + 1) (k + 1)) = (if f k = p then k else fnd f p j (k + 1))
    rw [ih (k + 1) (by rw [show k + 1 + (j : Int) = k + ((j + 1 : Nat) : Int) by omega]; exact h)]
section
variable {g : Int → Int} {e F E : Int} {L : Nat} {D D' : dL} {s s0 : zS} {v : Int}
theorem dF_cong (h0 : ∀ k, D'.1 0 k = D.1 0 k) (h1 : ∀ k, D'.1 1 k = D.1 1 k) {d x : Int} : dF D' d x = dF D d x := by
  unfold dF
  rw [h0, show (fun i => D'.1 1 (8 * d + i)) = (fun i => D.1 1 (8 * d + i)) from funext fun i => h1 _]
theorem tNew_cong (h0 : ∀ k, D'.1 0 k = D.1 0 k) (h1 : ∀ k, D'.1 1 k = D.1 1 k) {k : Int → Int → Int → dR} : tNew g e D' F E k = tNew g e D F E k := by
  unfold tNew
  rcases lxNm g e F E with q | q
  · rfl
  · show (if dF D' 0 q.1 ≠ -1 ∨ dF D' 1 q.1 ≠ -1 ∨ dF D' 2 q.1 ≠ -1 then _ else _) = (if dF D 0 q.1 ≠ -1 ∨ dF D 1 q.1 ≠ -1 ∨ dF D 2 q.1 ≠ -1 then _ else _)
    rw [dF_cong h0 h1, dF_cong h0 h1, dF_cong h0 h1]
theorem tOne_cong (h0 : ∀ k, D'.1 0 k = D.1 0 k) (h1 : ∀ k, D'.1 1 k = D.1 1 k) {d : Int} {k : Int → Int → Int → dR} : tOne g e D' d F E k = tOne g e D d F E k := by
  unfold tOne
  rcases lxNm g e F E with q | q
  · rfl
  · show (if dF D' d q.1 = -1 then _ else k (dF D' d q.1) _ _) = (if dF D d q.1 = -1 then _ else k (dF D d q.1) _ _)
    rw [dF_cong h0 h1]
theorem e43 {c p : Int} (hc : s.1 (L + 5) 0 = c) (c6 : c ≤ 6) : ∀ (n j : Nat) (w : Int), w = c - (j : Int) → 0 ≤ w → j < n → m43_2 n L p w s = some (if fnd (fun x => s.1 (L + 16) x) p j w = -1 then 0 else 1, s) := by
  intro n
  induction n with
  | zero => intro j w _ _ h; omega
  | succ n ih =>
    intro j w hw w0 hj
    rw [m43_2, oV_eq, hc]
    cases j with
    | zero => rw [if_neg (by omega)]; rfl
    | succ j =>
      rw [if_pos (by omega), oX_pos (by omega) (by omega), oV_eq]
      show _ = some (if (if s.1 (L + 16) w = p then w else fnd (fun x => s.1 (L + 16) x) p j (w + 1)) = -1 then 0 else 1, s)
      by_cases d : s.1 (L + 16) w = p
      · rw [if_pos d, if_pos d, if_neg (by omega)]
      · rw [if_neg d, if_neg d, oZ_pos (by omega) (by omega), ih j (w + 1) (by omega) (by omega) (by omega)]
/-- the walker that is told, before its numbers -/
theorem dBeg (D : dL) (c x y z : Int) : ∃ D' : dL, (∀ r k, r ≠ 4 → r ≠ 5 → D'.1 r k = D.1 r k) ∧ D'.2 = D.2 ∧ (∀ k, k ≠ 3 * c → k ≠ 3 * c + 1 → k ≠ 3 * c + 2 → D'.1 4 k = D.1 4 k) ∧ (∀ k, k ≠ c → D'.1 5 k = D.1 5 k) ∧ D'.1 5 c = -1 ∧ D'.1 4 (3 * c) = x ∧ D'.1 4 (3 * c + 1) = y ∧ D'.1 4 (3 * c + 2) = z := by
  refine ⟨dU (dU (dU (dU D 4 (3 * c) x) 4 (3 * c + 1) y) 4 (3 * c + 2) z) 5 c (-1), fun r k h4 h5 => ?_, rfl, fun k k0 k1 k2 => ?_, fun k h => ?_, dU_e, ?_, ?_, ?_⟩
  · rw [dU_r h5, dU_r h4, dU_r h4, dU_r h4]
  · rw [dU_r (by decide), dU_k k2, dU_k k1, dU_k k0]
  · rw [dU_k h, dU_r (by decide), dU_r (by decide), dU_r (by decide)]
  · rw [dU_r (by decide), dU_k (by omega), dU_k (by omega), dU_e]
  · rw [dU_r (by decide), dU_k (by omega), dU_e]
  · rw [dU_r (by decide), dU_e]
/-- walker -/
theorem p93 (ht : tOk g e) (hL : L = 43 ∨ L = 66) (hI : dInv D) (h6 : D.1 0 2 < 6) (hD : cD L D s) (hW : lxW g e F E) (h : cLx g e F E s) (hk : tkK g e F E = 1) : Ok (m93 L s) (cSt L g e s (dWalk g e D (nxF g e F) (nxE g e F E))) := by
  have hB := dB_of hI
  unfold m93 dWalk
  refine k_v ?_
  rw [show s.1 (L + 5) 0 = D.1 0 2 from hD.1.1.2.2.1]
  have c0 : 0 ≤ D.1 0 2 := hB.2.2.2.2.2
  generalize hc : D.1 0 2 = c
  rw [hc] at c0 h6
  refine k_x c0 (by omega) (k_v ?_)
  obtain ⟨D', d1, d2, d4, d5, dm, dx, dy, dz⟩ := dBeg D c (s.1 (L + 13) c) (s.1 (L + 14) c) (s.1 (L + 15) c)
  generalize hs1 : sI s (L + 16) c (-1) = s1
  have f1 : Fr (fun x k => x = L + 16 ∧ k = c) s s1 := by rw [← hs1]; exact fr_I ⟨rfl, rfl⟩
  have o1 : ∀ x k, ¬ (x = L + 16 ∧ k = c) → s1.1 x k = s.1 x k := fun x k hx => f1.1 x k hx
  have e1 : s1.1 (L + 16) c = -1 := by rw [← hs1, sI_e]
  have D1 : cDx L D' (D.1 0 1) (c + 1) s1 := by
    obtain ⟨⟨⟨h0, h1, h2, h3, h4⟩, m7, m8, m6⟩, ⟨n1, n2, n3⟩, q3, q4, q5, q6, q7, q8⟩ := hD
    refine ⟨⟨⟨?_, ?_, ?_, ?_, ?_⟩, ?_, ?_, ?_⟩, ⟨fun w w0 w1 => ?_, fun w w0 w1 => ?_, fun w w0 w1 => ?_⟩, fun a b a0 a1 b0 b1 => ?_, fun j j0 j1 => ?_, fun w w0 w1 => ?_, ?_, ?_, ?_⟩
    · rw [o1 _ _ (by omega), d1 0 _ (by decide) (by decide)]; exact h0
    · rw [o1 _ _ (by omega), d1 0 _ (by decide) (by decide)]; exact h1
    · rw [o1 _ _ (by omega), d1 0 _ (by decide) (by decide)]; exact h2
    · rw [o1 _ _ (by omega), d1 0 _ (by decide) (by decide)]; exact h3
    · rw [o1 _ _ (by omega), d2]; exact h4
    · rw [o1 _ _ (by omega)]; exact m7
    · rw [o1 _ _ (by omega)]; exact m8
    · rw [o1 _ _ (by omega)]; exact m6
    · rw [d1 0 _ (by decide) (by decide)] at w1
      rw [d1 1 _ (by decide) (by decide)]
      exact nmRel_ext (fun k _ _ => (o1 _ _ (by omega)).symm) (n1 w w0 w1)
    · rw [d1 0 _ (by decide) (by decide)] at w1
      rw [d1 1 _ (by decide) (by decide)]
      exact nmRel_ext (fun k _ _ => (o1 _ _ (by omega)).symm) (n2 w w0 w1)
    · rw [d1 0 _ (by decide) (by decide)] at w1
      rw [d1 1 _ (by decide) (by decide)]
      exact nmRel_ext (fun k _ _ => (o1 _ _ (by omega)).symm) (n3 w w0 w1)
    · rw [o1 _ _ (by omega), d1 2 _ (by decide) (by decide)]
      exact q3 a b a0 a1 b0 b1
    · rw [o1 _ _ (by omega), o1 _ _ (by omega), o1 _ _ (by omega), d1 3 _ (by decide) (by decide), d1 3 _ (by decide) (by decide), d1 3 _ (by decide) (by decide)]
      exact q4 j j0 j1
    · rw [o1 _ _ (by omega), o1 _ _ (by omega), o1 _ _ (by omega)]
      by_cases z : w = c
      · subst z
        exact ⟨dx.symm, dy.symm, dz.symm, by rw [e1, dm]⟩
      · rw [o1 _ _ (by omega), d4 _ (by omega) (by omega) (by omega), d4 _ (by omega) (by omega) (by omega), d4 _ (by omega) (by omega) (by omega), d5 _ z]
        exact q5 w w0 (by omega)
    · rw [o1 _ _ (by omega), o1 _ _ (by omega), o1 _ _ (by omega), d1 6 _ (by decide) (by decide), d1 6 _ (by decide) (by decide), d1 6 _ (by decide) (by decide)]
      exact q6
    · rw [d2]; exact ⟨by rw [o1 _ _ (by omega)]; exact q7.1, fun i hi => by rw [o1 _ _ (by omega)]; exact q7.2 i hi⟩
    · rw [d2]; exact ⟨by rw [o1 _ _ (by omega)]; exact q8.1, fun i hi => by rw [o1 _ _ (by omega)]; exact q8.2 i hi⟩
  have z0 : ∀ k, D'.1 0 k = D.1 0 k := fun k => d1 0 k (by decide) (by decide)
  have z1 : ∀ k, D'.1 1 k = D.1 1 k := fun k => d1 1 k (by decide) (by decide)
  have hB1 : dB D' := by unfold dB; rw [z0, z0, z0]; exact hB
  have l1 : cLx g e F E s1 := cLx_fr (fun a k z => by omega) f1 h
  have f1' : FrK (clF L) s s1 := frk_of (fr_mono (fun a k z => by omega) f1)
  refine k_c (p76a ht hW l1 (tkK_1 hk).1 (by omega)) ?_
  rintro _ t ⟨t1, t2, t3⟩
  have ft : FrK (clF L) s t := frk_trans f1' (frk_of (fr_mono (fun a k z => Or.inl z) t3))
  rw [← tNew_cong z0 z1]
  refine cw_new (d := 2) ht hL hB1 (Or.inr (Or.inr ⟨rfl, rfl, by rw [z0, hc]; exact h6⟩)) (cDx_fr (fun a k a0 a1 a2 => t3.1 a k (by omega)) D1) t2 t1 ft (fun y u du lu wu fu => ?_)
  have hB' : dB (dAdd D' 2 y.1) := dB_add hB1 (Or.inr ⟨rfl, by rw [z0, hc]; exact h6⟩)
  have fu' : FrK (clF L) s u := frk_trans ft (frk_of fu)
  refine cw_num ht (by omega) wu lu fu' (fun sz w s1' s2 lw ww fw => ?_)
  have fw' : FrK (clF L) s w := frk_trans fu' (frk_of (fr_mono (fun a k z => Or.inl z) fw))
  have dw := cDx_fr (fun a k a0 a1 a2 => fw.1 a k (by omega)) du
  refine cw_num ht (by omega) ww lw fw' (fun wl w2 wl1 wl2 lw2 ww2 fw2 => ?_)
  have fw2' : FrK (clF L) s w2 := frk_trans fw' (frk_of (fr_mono (fun a k z => Or.inl z) fw2))
  have dw2 := cDx_fr (fun a k a0 a1 a2 => fw2.1 a k (by omega)) dw
  refine cw_word ht ww2 lw2 fw2' (fun x lx wx fx => ?_)
  have fx' : FrK (clF L) s x := frk_trans fw2' (frk_of (fr_mono (fun a k z => Or.inl z) fx))
  have dx' := cDx_fr (fun a k a0 a1 a2 => fx.1 a k (by omega)) dw2
  rw [← tOne_cong z0 z1 (d := 0), ← tOne_add (v := y.1) (D := D') (d := 0) (d' := 2) (by decide) (by rw [z0]; omega) (by rw [z0]; omega) (by rw [z0]; omega)]
  refine cw_one ht hL hB' (Or.inl ⟨rfl, rfl⟩) dx' wx lx fx' (fun to z to0 to1 kz lz dz' fz => ?_)
  rw [dA_0 (by decide), z0] at to1
  have fz' : FrK (clF L) s z := frk_trans fx' (frk_of (fr_mono (fun a k z => Or.inr (Or.inl z)) fz))
  refine k_c (p76a ht wx lz (tkK_1 kz).1 (by omega)) ?_
  rintro _ o ⟨lo, wo, fo⟩
  have fo' : FrK (clF L) s o := frk_trans fz' (frk_of (fr_mono (fun a k z => Or.inl z) fo))
  have do' := cDx_fr (fun a k a0 a1 a2 => fo.1 a k (by omega)) dz'
  refine cw_word ht wo lo fo' (fun x2 lx2 wx2 fx2 => ?_)
  have fx2' : FrK (clF L) s x2 := frk_trans fo' (frk_of (fr_mono (fun a k z => Or.inl z) fx2))
  have dx2 := cDx_fr (fun a k a0 a1 a2 => fx2.1 a k (by omega)) do'
  rw [← tOne_cong z0 z1 (d := 1), ← tOne_add (v := y.1) (D := D') (d := 1) (d' := 2) (by decide) (by rw [z0]; omega) (by rw [z0]; omega) (by rw [z0]; omega)]
  refine cw_one ht hL hB' (Or.inr ⟨rfl, rfl⟩) dx2 wx2 lx2 fx2' (fun pr p pr0 pr1 kp lp dp fp => ?_)
  rw [dA_0 (by decide), z0] at pr1
  have fp' : FrK (clF L) s p := frk_trans fx2' (frk_of (fr_mono (fun a k z => Or.inr (Or.inl z)) fp))
  have hp5 : p.1 (L + 5) 0 = c + 1 := by rw [dp.1.1.2.2.1, dA_s, z0, hc]
  have hq5 := dp.2.2.2.2.1
  have e5 : ∀ w, 0 ≤ w → w < c + 1 → p.1 (L + 16) w = D'.1 5 w := fun w w0 w1 => by rw [(hq5 w w0 w1).2.2.2, dA_r (by decide) (by decide)]
  have fn : fnd (fun x => p.1 (L + 16) x) pr (c + 1).toNat 0 = fnd (fun w => D.1 5 w) pr c.toNat 0 := by
    rw [show (c + 1).toNat = c.toNat + 1 by omega, fnd_snoc c.toNat 0 (by
      show p.1 (L + 16) (0 + (c.toNat : Int)) ≠ pr
      rw [show (0 : Int) + (c.toNat : Int) = c by omega, e5 c c0 (by omega), dm]; omega)]
    exact fnd_congr _ _ (fun w w0 w1 => by show p.1 (L + 16) w = D.1 5 w; rw [e5 w (by omega) (by omega), d5 w (by omega)])
  unfold m43
  refine k_e (e43 hp5 (by omega) zFu (c + 1).toNat 0 (by omega) (by omega) (by unfold zFu; omega)) ?_
  rw [fn]
  by_cases cw : fnd (fun w => D.1 5 w) pr c.toNat 0 = -1
  · rw [if_pos cw]
    refine k_p rfl ?_
    rw [if_neg (fun z => z cw)]
    refine k_c (p76a ht wx2 lp (tkK_1 kp).1 (by omega)) ?_
    rintro _ k ⟨lk, wk, fk⟩
    have fk' : FrK (clF L) s k := frk_trans fp' (frk_of (fr_mono (fun a k z => Or.inl z) fk))
    have dk := cDx_fr (fun a k a0 a1 a2 => fk.1 a k (by omega)) dp
    refine k_x c0 (by omega) (k_v (k_x c0 (by omega) (k_v (k_x c0 (by omega) (k_v (k_x c0 (by omega) (k_v (k_r ?_))))))))
    generalize hr : sI (sI (sI (sI k (L + 13) c sz.1) (L + 14) c wl.1) (L + 15) c to) (L + 16) c pr = r
    have fr : Fr (fun x k => (x = L + 13 ∨ x = L + 14 ∨ x = L + 15 ∨ x = L + 16) ∧ k = c) k r := by rw [← hr]; exact fr_trans (fr_I ⟨Or.inl rfl, rfl⟩) (fr_trans (fr_I ⟨Or.inr (Or.inl rfl), rfl⟩) (fr_trans (fr_I ⟨Or.inr (Or.inr (Or.inl rfl)), rfl⟩) (fr_I ⟨Or.inr (Or.inr (Or.inr rfl)), rfl⟩)))
    have r13 : r.1 (L + 13) c = sz.1 := by rw [← hr, sI_a (by omega), sI_a (by omega), sI_a (by omega), sI_e]
    have r14 : r.1 (L + 14) c = wl.1 := by rw [← hr, sI_a (by omega), sI_a (by omega), sI_e]
    have r15 : r.1 (L + 15) c = to := by rw [← hr, sI_a (by omega), sI_e]
    have r16 : r.1 (L + 16) c = pr := by rw [← hr, sI_e]
    have ro : ∀ x j, ¬ ((x = L + 13 ∨ x = L + 14 ∨ x = L + 15 ∨ x = L + 16) ∧ j = c) → r.1 x j = k.1 x j := fun x j hx => fr.1 x j hx
    generalize hX : dU (dU (dU (dU (dAdd D 2 y.1) 4 (3 * c) sz.1) 4 (3 * c + 1) wl.1) 4 (3 * c + 2) to) 5 c pr = X
    have e0 : ∀ j, X.1 0 j = (dAdd D' 2 y.1).1 0 j := fun j => by
      rw [← hX, dU_r (by decide), dU_r (by decide), dU_r (by decide), dU_r (by decide)]
      by_cases z : j = 2
      · rw [z, dA_s, dA_s, z0]
      · rw [dA_0 z, dA_0 z, z0]
    have er1 : ∀ j, X.1 1 j = (dAdd D' 2 y.1).1 1 j := fun j => by
      rw [← hX, dU_r (by decide), dU_r (by decide), dU_r (by decide), dU_r (by decide)]
      unfold dAdd
      rw [dU_r (show (1 : Int) ≠ 0 by decide), dU_s, dU_r (show (1 : Int) ≠ 0 by decide), dU_s, z0, z1]
    have er : ∀ q j, q ≠ 0 → q ≠ 1 → q ≠ 4 → q ≠ 5 → X.1 q j = D.1 q j := fun q j h0 h1 h4 h5 => by rw [← hX, dU_r h5, dU_r h4, dU_r h4, dU_r h4, dA_r h0 h1]
    have er' : ∀ q j, q ≠ 0 → q ≠ 1 → q ≠ 4 → q ≠ 5 → X.1 q j = (dAdd D' 2 y.1).1 q j := fun q j h0 h1 h4 h5 => by rw [er q j h0 h1 h4 h5, dA_r h0 h1, d1 q j h4 h5]
    have e4 : ∀ j, X.1 4 j = if j = 3 * c + 2 then to else if j = 3 * c + 1 then wl.1 else if j = 3 * c then sz.1 else D.1 4 j := fun j => by rw [← hX, dU_r (by decide), dU_s, dU_s, dU_s, dA_r (by decide) (by decide)]
    have ex5 : ∀ j, X.1 5 j = if j = c then pr else D.1 5 j := fun j => by rw [← hX, dU_s, dU_r (by decide), dU_r (by decide), dU_r (by decide), dA_r (by decide) (by decide)]
    have em : X.2 = D.2 := by rw [← hX]; rfl
    have em' : (dAdd D' 2 y.1).2 = D.2 := by rw [dA_2, d2]
    have e01 : X.1 0 1 = D.1 0 1 := by rw [e0, dA_0 (by decide), z0]
    have e02 : X.1 0 2 = c + 1 := by rw [e0, dA_s, z0, hc]
    obtain ⟨⟨⟨h0, h1, h2, h3, h4⟩, m7, m8, m6⟩, ⟨n1, n2, n3⟩, q3, q4, q5, q6, q7, q8⟩ := dk
    refine ⟨rfl, ⟨⟨⟨?_, ?_, ?_, ?_, ?_⟩, ?_, ?_, ?_⟩, ⟨fun w w0 w1 => ?_, fun w w0 w1 => ?_, fun w w0 w1 => ?_⟩, fun a b a0 a1 b0 b1 => ?_, fun j j0 j1 => ?_, fun w w0 w1 => ?_, ?_, ?_, ?_⟩, cLx_fr (fun a k z => by omega) fr lk, frk_trans fk' (frk_of (fr_mono (fun a k z => by omega) fr))⟩
    · rw [ro _ _ (by omega), e0]; exact h0
    · rw [ro _ _ (by omega), e0]; exact h1
    · rw [ro _ _ (by omega), e0]; exact h2
    · rw [ro _ _ (by omega), e0]; exact h3
    · rw [ro _ _ (by omega), em, ← em']; exact h4
    · rw [ro _ _ (by omega)]; exact m7
    · rw [ro _ _ (by omega)]; exact m8
    · rw [ro _ _ (by omega)]; exact m6
    · rw [e0] at w1
      rw [er1]
      exact nmRel_ext (fun k _ _ => (ro _ _ (by omega)).symm) (n1 w w0 w1)
    · rw [e0] at w1
      rw [er1]
      exact nmRel_ext (fun k _ _ => (ro _ _ (by omega)).symm) (n2 w w0 w1)
    · rw [e0] at w1
      rw [er1]
      exact nmRel_ext (fun k _ _ => (ro _ _ (by omega)).symm) (n3 w w0 w1)
    · rw [ro _ _ (by omega), er' 2 _ (by decide) (by decide) (by decide) (by decide)]
      exact q3 a b a0 a1 b0 b1
    · rw [e01] at j1
      rw [ro _ _ (by omega), ro _ _ (by omega), ro _ _ (by omega), er' 3 _ (by decide) (by decide) (by decide) (by decide), er' 3 _ (by decide) (by decide) (by decide) (by decide), er' 3 _ (by decide) (by decide) (by decide) (by decide)]
      exact q4 j j0 j1
    · rw [e02] at w1
      rw [e4, e4, e4, ex5]
      by_cases z : w = c
      · subst z
        rw [r13, r14, r15, r16, if_neg (by omega), if_neg (by omega), if_pos rfl, if_neg (by omega), if_pos rfl, if_pos rfl, if_pos rfl]
        exact ⟨rfl, rfl, rfl, rfl⟩
      · rw [ro _ _ (by omega), ro _ _ (by omega), ro _ _ (by omega), ro _ _ (by omega), if_neg (by omega), if_neg (by omega), if_neg (by omega), if_neg (by omega), if_neg (by omega), if_neg (by omega), if_neg (by omega), if_neg (by omega), if_neg (by omega), if_neg z]
        have := q5 w w0 w1
        rw [dA_r (by decide) (by decide), dA_r (by decide) (by decide), dA_r (by decide) (by decide), dA_r (by decide) (by decide), d4 _ (by omega) (by omega) (by omega), d4 _ (by omega) (by omega) (by omega), d4 _ (by omega) (by omega) (by omega), d5 _ z] at this
        exact this
    · rw [ro _ _ (by omega), ro _ _ (by omega), ro _ _ (by omega), er' 6 _ (by decide) (by decide) (by decide) (by decide), er' 6 _ (by decide) (by decide) (by decide) (by decide), er' 6 _ (by decide) (by decide) (by decide) (by decide)]
      exact q6
    · rw [em, ← em']; exact ⟨by rw [ro _ _ (by omega)]; exact q7.1, fun i hi => by rw [ro _ _ (by omega)]; exact q7.2 i hi⟩
    · rw [em, ← em']; exact ⟨by rw [ro _ _ (by omega)]; exact q8.1, fun i hi => by rw [ro _ _ (by omega)]; exact q8.2 i hi⟩
  · rw [if_neg cw]
    refine k_q (by decide) (k_v ?_)
    rw [if_pos cw, lp.2.2.1]
    refine k_c p77 ?_
    rintro r u ⟨r0, u5, u6, u3⟩
    subst r0
    exact k_d (Or.inl rfl) (k_r (cSt_bad fp' u5 u6 (fr_mono (fun a k z => by omega) u3)))
end
