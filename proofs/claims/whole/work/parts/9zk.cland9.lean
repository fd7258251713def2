/-! ===== the class's land is done; a new land of the class ===== -/
def dRd (D : dL) (a b : Int) : Int := if 0 < D.1 2 (7 * a + b) then D.1 2 (7 * a + b) else 1000
def cFd (b : Nat) (l : List Int) (df : Int) (s : zS) : Prop := (l = [] ∧ s.1 b 2 = 1 ∧ s.1 (b + 1) 0 = df) ∨ (l ≠ [] ∧ cFm b l s)
abbrev c44F (L : Nat) (a : Nat) (_ : Int) : Prop := a = L + 8 ∨ a = L + 9 ∨ a = L + 17 ∨ a = L + 18 ∨ a = L + 20 ∨ a = L + 21
abbrev dWy (D : dL) : Int → Int → Int := wFl (wDg (dRd D)) (D.1 0 0).toNat
def cWd (L : Nat) (D : dL) (t : zS) : Prop := cFd (L + 17) D.2.1 10003 t ∧ cFd (L + 20) D.2.2.1 10002 t ∧ cWy L (D.1 0 0) (dWy D) t ∧ ∀ a b, 0 ≤ a → a < D.1 0 0 → 0 ≤ b → b < D.1 0 0 → t.1 (L + 9) (7 * a + b) = wNx (D.1 0 0) (dRd D) (dWy D) a b
section
variable {L b : Nat} {D : dL} {s t u : zS} {df : Int} {l : List Int}
theorem dRd_ok (h : dInv D) : wRd (D.1 0 0) (dRd D) := fun a b a0 a1 b0 b1 => by
  have h0 := h.1
  have := h.2.1 a b a0 (by omega) b0 (by omega)
  unfold dRd
  by_cases c : 0 < D.1 2 (7 * a + b)
  · rw [if_pos c]; omega
  · rw [if_neg c]; omega
theorem p19 (h : s.1 b 2 = 0) : Ok (m19 b df s) (fun _ t => t.1 b 2 = 1 ∧ t.1 (b + 1) 0 = df ∧ Fr (fun a _ => a = b ∨ a = b + 1) s t) := by
  unfold m19
  refine k_v ?_
  rw [h]
  refine k_p (by decide) (k_v ?_)
  refine k_x (by omega) (by omega) (k_v (k_v ?_))
  rw [sI_a (by omega), h]
  refine k_z (by omega) (by omega) (k_v (k_r ⟨by rw [sI_e]; rfl, by rw [sI_a (by omega), sI_e], fr_trans (fr_I (Or.inr rfl)) (fr_I (Or.inl rfl))⟩))
theorem cFd_fr (h : cFd b l df s) (hf : ∀ a k, a = b ∨ a = b + 1 → t.1 a k = s.1 a k) : cFd b l df t := by
  rcases h with ⟨h1, h2, h3⟩ | ⟨h1, h2, h3⟩
  · exact Or.inl ⟨h1, by rw [hf _ _ (Or.inl rfl)]; exact h2, by rw [hf _ _ (Or.inr rfl)]; exact h3⟩
  · exact Or.inr ⟨h1, by rw [hf _ _ (Or.inl rfl)]; exact h2, fun i hi => by rw [hf _ _ (Or.inr rfl)]; exact h3 i hi⟩
/-- a formula, or what stands for it -/
theorem p_dft {K : zS → Option (Int × zS)} {P : Int → zS → Prop} (h : cFm b l s) (hK : ∀ t, cFd b l df t → Fr (fun a _ => a = b ∨ a = b + 1) s t → Ok (K t) P) : Ok (oV (s.1 b 2) fun z1 => if z1 = (0 : Int) then oC (m19 b df s) fun _ t => K t else K s) P := by
  refine k_v ?_
  rw [h.1]
  by_cases c : l = []
  · rw [c]
    refine k_p rfl (k_c (p19 (by rw [h.1, c]; rfl)) ?_)
    rintro _ t ⟨t1, t2, t3⟩
    exact hK t (Or.inl ⟨c, t1, t2⟩) t3
  · have : l.length ≠ 0 := fun z => c (List.length_eq_zero_iff.mp z)
    exact k_q (by omega) (hK s (Or.inr ⟨c, h⟩) fr_refl)
theorem p44 (hI : dInv D) (hD : cD L D u) : Ok (m44 L u) (fun _ t => cWd L D t ∧ Fr (c44F L) u t) := by
  have h0 := hI.1
  have hR := dRd_ok hI
  have fin : ∀ t, cFd (L + 17) D.2.1 10003 t → cFd (L + 20) D.2.2.1 10002 t → Fr (c44F L) u t → Ok (oC (m45 L t) fun _ s7 => m44_46 zFu L (0 : Int) s7) (fun _ t => cWd L D t ∧ Fr (c44F L) u t) := by
    intro t t1 t2 t3
    have hn : t.1 (L + 1) 0 = D.1 0 0 := by rw [t3.1 (L + 1) 0 (by omega)]; exact hD.1.1.1
    have h7 : ∀ a b, 0 ≤ a → a < D.1 0 0 → 0 ≤ b → b < D.1 0 0 → t.1 (L + 7) (7 * a + b) = dRd D a b := fun a b a0 a1 b0 b1 => by rw [t3.1 (L + 7) _ (by omega)]; exact hD.2.2.1 a b a0 (by omega) b0 (by omega)
    refine k_c (p45 (R := dRd D) (n := D.1 0 0) (by omega) (by omega) (wDg_ln hR) hn h7) ?_
    rintro _ v ⟨v1, v2⟩
    have hp := p44_46 (s0 := v) (L := L) (n := D.1 0 0) (R := dRd D) (M := dWy D) (by omega) hR (wFl_ok (wDg_ln hR) _ (by omega)) (by rw [v2.1 (L + 1) 0 (by omega)]; exact hn) (fun a b a0 a1 b0 b1 => by rw [v2.1 (L + 7) _ (by omega)]; exact h7 a b a0 a1 b0 b1) v1 zFu (D.1 0 0).toNat 0 v (by omega) (by omega) (by unfold zFu; omega) (fun a b a0 a1 b0 b1 => by omega) fr_refl
    refine k_m hp ?_
    rintro _ w ⟨w1, w2⟩
    exact ⟨⟨cFd_fr t1 (fun a k z => by rw [w2.1 a k (by omega), v2.1 a k (by omega)]), cFd_fr t2 (fun a k z => by rw [w2.1 a k (by omega), v2.1 a k (by omega)]), fun a b a0 a1 b0 b1 => by rw [w2.1 (L + 8) _ (by omega)]; exact v1 a b a0 a1 b0 b1, w1⟩, fr_trans t3 (fr_trans (fr_mono (fun a k z => by omega) v2) (fr_mono (fun a k z => by omega) w2))⟩
  have f20 : ∀ t, cFd (L + 17) D.2.1 10003 t → Fr (fun a _ => a = L + 17 ∨ a = L + 17 + 1) u t → Ok (m44_20 L t) (fun _ t => cWd L D t ∧ Fr (c44F L) u t) := by
    intro t t1 t2
    unfold m44_20
    have h20 : cFm (L + 20) D.2.2.1 t := ⟨by rw [t2.1 _ _ (by omega)]; exact hD.2.2.2.2.2.2.2.1, fun i hi => by rw [t2.1 _ _ (by omega)]; exact hD.2.2.2.2.2.2.2.2 i hi⟩
    refine p_dft (K := fun s4 => oC (m45 L s4) fun _ s7 => m44_46 zFu L (0 : Int) s7) (df := 10002) h20 (fun v v1 v2 => fin v (cFd_fr t1 (fun a k z => v2.1 a k (by omega))) v1 (fr_trans (fr_mono (fun a k z => by omega) t2) (fr_mono (fun a k z => by omega) v2)))
  unfold m44
  exact p_dft (K := fun s4 => m44_20 L s4) (df := 10003) hD.2.2.2.2.2.2.1 (fun v v1 v2 => f20 v v1 v2)
end
/-- the rows of a land but formulas and ways -/
def cB (L : Nat) (D : dL) (s : zS) : Prop := ∃ u, cD L D u ∧ ∀ a k, L ≤ a → a ≤ L + 16 → a ≠ L + 8 → a ≠ L + 9 → s.1 a k = u.1 a k
/-- the State of a new land -/
def sS (D : dL) (t : zS) : Prop := t.1 28 6 = 0 ∧ t.1 28 7 = D.1 6 0 ∧ (∀ w, 0 ≤ w → w < D.1 0 2 → t.1 (28 + 2) w = D.1 5 w ∧ t.1 (28 + 3) w = -1 ∧ t.1 (28 + 4) w = 0) ∧ t.1 28 5 = uwN (D.1 5) (D.1 0 2).toNat (D.1 0 1).toNat ∧ (∀ k, 0 ≤ k → k < uwN (D.1 5) (D.1 0 2).toNat (D.1 0 1).toNat → t.1 (28 + 5) k = uwS (D.1 5) (D.1 0 2).toNat (D.1 0 1).toNat k) ∧ ∀ p, 0 ≤ p → p < D.1 0 1 → t.1 (28 + 1) p = D.1 3 (3 * p + 2)
def cNwL (L L' : Nat) (s : zS) (x : dR) (r : Int) (t : zS) : Prop := match x with
  | .inl q => r = -1 ∧ (t.1 1 2 = 0 ∧ t.1 1 5 = q.1 ∧ t.1 1 6 = q.2) ∧ t.1 41 1 = s.1 41 1 + 1 ∧ FrK (fun a k => clG L a k ∨ (a = 1 ∧ k = 2) ∨ (a = 41 ∧ k = 1)) s t
  | .inr q => r = q.1.2.2.2 ∧ dInv q.1 ∧ (t.1 1 2 = 0 ∧ t.1 1 5 = 0 ∧ t.1 1 6 = -1) ∧ (t.1 24 0 = 0 ∧ t.1 0 17 = 0) ∧ (t.2.2 1 = L ∧ t.2.2 2 = L' ∧ t.2.2 3 = L) ∧ t.2.1 = s.2.1 ∧ cB L q.1 t ∧ cWd L q.1 t ∧ sS q.1 t ∧ ∀ a k, ¬ (clG L a k ∨ (a = 1 ∧ k = 2) ∨ (a = 24 ∧ k = 0) ∨ (a = 0 ∧ k = 17) ∨ (28 ≤ a ∧ a ≤ 33)) → t.1 a k = s.1 a k
section
variable {g : Int → Int} {e : Int} {L L' : Nat} {s : zS}
theorem p103 (ht : tOk g e) (hL : L = 43 ∨ L = 66) (hL2 : s.2.2 2 = L) (hL1 : s.2.2 1 = L') (hs : cTp g e s) (hc : s.1 (L + 1) 1 = 7 ∧ s.1 (L + 3) 1 = 8 ∧ s.1 (L + 5) 1 = 6) (h41 : 0 ≤ s.1 41 1 ∧ s.1 41 1 ≤ 1000) : Ok (m103 s) (cNwL L L' s (dLoop g e 80 dNil (lxS g e 4 0) (-1))) := by
  unfold m103
  refine k_v ?_
  rw [hL2]
  have hp := p87 (P := fun D t => dInv D ∧ cB L D t ∧ cWd L D t ∧ t.1 1 5 = 0 ∧ t.1 1 6 = -1 ∧ FrK (clG L) s t) ht hL hs hc (fun v D F E u v5 v6 fv hI hW hl d0 d8 hD fu => ?_)
  · refine k_c hp ?_
    intro r t hr
    refine k_v ?_
    rcases hz : dLoop g e 80 dNil (lxS g e 4 0) (-1) with q | q
    · rw [hz] at hr
      obtain ⟨rfl, t5, t6, t3⟩ := hr
      refine k_p rfl ?_
      have e41 : t.1 41 1 = s.1 41 1 := t3.1 41 1 (by omega)
      unfold m136
      refine k_c (Q := fun r v => r = -1 ∧ v = sI (sI t 1 2 0) 41 1 (s.1 41 1 + 1)) (k_x (by omega) (by omega) (k_v ?_)) ?_
      · rw [sI_a (by decide), e41]
        exact k_z (by omega) (by omega) (k_x (by omega) (by omega) (k_v (k_r ⟨rfl, rfl⟩)))
      · rintro r v ⟨rfl, rfl⟩
        refine k_r ⟨rfl, ⟨?_, ?_, ?_⟩, sI_e, frk_trans (frk_mono (fun a k z => Or.inl z) t3) (frk_of (fr_trans (fr_I (Or.inr (Or.inl ⟨rfl, rfl⟩))) (fr_I (Or.inr (Or.inr ⟨rfl, rfl⟩)))))⟩
        · rw [sI_a (by decide), sI_e]
        · rw [sI_a (by decide), sI_k (by decide)]; exact t5
        · rw [sI_a (by decide), sI_k (by decide)]; exact t6
    · rw [hz] at hr
      obtain ⟨rfl, hI, ⟨u, hu, hc'⟩, t2, t5, t6, t3⟩ := hr
      have h0 := hI.1
      have r1 : (sI t 1 2 0).2.2 1 = L' := by rw [sI_22, t3.2.2 1 (by decide)]; exact hL1
      have r2 : (sI t 1 2 0).2.2 2 = L := by rw [sI_22, t3.2.2 2 (by decide)]; exact hL2
      refine k_q (by decide) (k_v (k_v (k_v (k_v (k_v (k_v (k_v ?_)))))))
      rw [r1, r2, sM_q (show (1 : Nat) ≠ 2 by decide), sM_e]
      generalize hv : sM (sM (sM (sI t 1 2 0) 1 L) 2 L') 3 L = v
      have v1 : v.1 = (sI t 1 2 0).1 := by rw [← hv]; rfl
      have v2 : v.2.1 = t.2.1 := by rw [← hv]; rfl
      have vr1 : v.2.2 1 = L := by rw [← hv, sM_q (by decide), sM_q (by decide), sM_e]
      have vr2 : v.2.2 2 = L' := by rw [← hv, sM_q (by decide), sM_e]
      have vr3 : v.2.2 3 = L := by rw [← hv, sM_e]
      rw [vr1]
      have vc : ∀ a k, ¬ (a = 1 ∧ k = 2) → v.1 a k = t.1 a k := fun a k h => by rw [v1, sI_if, if_neg h]
      have vu : ∀ a k, L ≤ a → a ≤ L + 16 → a ≠ L + 8 → a ≠ L + 9 → v.1 a k = u.1 a k := fun a k h1 h2 h3 h4 => by rw [vc a k (by omega)]; exact hc' a k h1 h2 h3 h4
      have hb : v.1 (L + 3) 0 = q.1.1 0 1 := by rw [vu _ _ (by omega) (by omega) (by omega) (by omega)]; exact hu.1.1.2.1
      have hcw : v.1 (L + 5) 0 = q.1.1 0 2 := by rw [vu _ _ (by omega) (by omega) (by omega) (by omega)]; exact hu.1.1.2.2.1
      have h16 : ∀ w, 0 ≤ w → w < q.1.1 0 2 → v.1 (L + 16) w = q.1.1 5 w := fun w w0 w1 => by rw [vu _ _ (by omega) (by omega) (by omega) (by omega)]; exact (hu.2.2.2.2.1 w w0 w1).2.2.2
      refine k_c (p57 (A := 28) (L := L) (s := v) (by omega) (by omega) hb (by omega) (by omega) hcw (by omega) (by omega)) ?_
      rintro _ w ⟨w6, w7, ww, w5, wk, wp, wf⟩
      have en : uwN (v.1 (L + 16)) (q.1.1 0 2).toNat (q.1.1 0 1).toNat = uwN (q.1.1 5) (q.1.1 0 2).toNat (q.1.1 0 1).toNat := uwN_congr (fun i i0 i1 => h16 i i0 (by omega)) _
      refine k_v (k_v (k_v (k_v ?_)))
      have z1 : (sI (sI w 24 0 0) 0 17 0).2.2 = v.2.2 := wf.2.2
      have zc : ∀ a k, ¬ (a = 24 ∧ k = 0) → ¬ (a = 0 ∧ k = 17) → (sI (sI w 24 0 0) 0 17 0).1 a k = w.1 a k := fun a k h1 h2 => by rw [sI_if, if_neg h2, sI_if, if_neg h1]
      have z24 : (sI (sI w 24 0 0) 0 17 0).1 24 0 = 0 := by rw [sI_a (by decide), sI_e]
      have z17 : (sI (sI w 24 0 0) 0 17 0).1 0 17 = 0 := sI_e
      have z2 : (sI (sI w 24 0 0) 0 17 0).2.1 = s.2.1 := by show w.2.1 = _; rw [wf.2.1, v2]; exact t3.2.1
      generalize sI (sI w 24 0 0) 0 17 0 = z at *
      have zw : ∀ a k, 33 < a → z.1 a k = t.1 a k := fun a k h => by rw [zc a k (by omega) (by omega), wf.1 a k (by omega), vc a k (by omega)]
      rw [z1, vr1, zw L 15 (by omega), hc' L 15 (by omega) (by omega) (by omega) (by omega)]
      refine k_r ⟨hu.1.1.2.2.2.2, hI, ⟨?_, ?_, ?_⟩, ⟨z24, z17⟩, ⟨by rw [z1]; exact vr1, by rw [z1]; exact vr2, by rw [z1]; exact vr3⟩, z2, ⟨u, hu, fun a k h1 h2 h3 h4 => by rw [zw a k (by omega)]; exact hc' a k h1 h2 h3 h4⟩, ?_, ?_, fun a k h => ?_⟩
      · rw [zc 1 2 (by omega) (by omega), wf.1 1 2 (by omega), v1, sI_e]
      · rw [zc 1 5 (by omega) (by omega), wf.1 1 5 (by omega), vc 1 5 (by omega)]; exact t5
      · rw [zc 1 6 (by omega) (by omega), wf.1 1 6 (by omega), vc 1 6 (by omega)]; exact t6
      · obtain ⟨a1, a2, a3, a4⟩ := t2
        exact ⟨cFd_fr a1 (fun a k y => zw a k (by omega)), cFd_fr a2 (fun a k y => zw a k (by omega)), fun a b a0 a1 b0 b1 => by rw [zw _ _ (by omega)]; exact a3 a b a0 a1 b0 b1, fun a b a0 a1 b0 b1 => by rw [zw _ _ (by omega)]; exact a4 a b a0 a1 b0 b1⟩
      · refine ⟨?_, ?_, fun i i0 i1 => ?_, ?_, fun k k0 k1 => ?_, fun p p0 p1 => ?_⟩
        · rw [zc 28 6 (by omega) (by omega)]; exact w6
        · rw [zc 28 7 (by omega) (by omega), w7, vu L 17 (by omega) (by omega) (by omega) (by omega)]; exact hu.2.2.2.2.2.1.1
        · rw [zc _ _ (by omega) (by omega), zc _ _ (by omega) (by omega), zc _ _ (by omega) (by omega), (ww i i0 i1).1, h16 i i0 i1]
          exact ⟨rfl, (ww i i0 i1).2⟩
        · rw [zc 28 5 (by omega) (by omega), w5, en]
        · rw [zc _ _ (by omega) (by omega), wk k k0 (by rw [en]; exact k1)]
          exact uwS_congr (fun i i0 i1 => h16 i i0 (by omega)) _ k
        · rw [zc _ _ (by omega) (by omega), wp p p0 p1, vu _ _ (by omega) (by omega) (by omega) (by omega)]
          exact (hu.2.2.2.1 p p0 p1).2.2
      · rw [zc a k (by omega) (by omega), wf.1 a k (by omega), vc a k (by omega)]
        exact t3.1 a k (fun y => h (Or.inl y))
  · have u5 : u.1 1 5 = 0 := by rw [fu.1 1 5 (by omega)]; exact v5
    have u6 : u.1 1 6 = -1 := by rw [fu.1 1 6 (by omega)]; exact v6
    refine k_m (p44 hI hD) ?_
    rintro _ w ⟨w1, w2⟩
    refine ⟨hI, ⟨u, hD, fun a k h1 h2 h3 h4 => w2.1 a k (by omega)⟩, w1, ?_, ?_, frk_trans fv (frk_trans (frk_mono (fun a k z => by omega) fu) (frk_of (fr_mono (fun a k z => by omega) w2)))⟩
    · rw [w2.1 1 5 (by omega)]; exact u5
    · rw [w2.1 1 6 (by omega)]; exact u6
end
