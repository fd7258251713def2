/-! ===== the class tells a land: sums, settings ===== -/
abbrev smF (b : Nat) (a : Nat) (k : Int) : Prop := xF a k ∨ (a = b ∧ k = 2) ∨ a = b + 1 ∨ (a = 8 ∧ k = 2)
section
variable {g : Int → Int} {e F E : Int} {L : Nat} {D D' : dL} {s s0 : zS} {v : Int}
/-- a fault, with the land's cells changed -/
theorem cSt_bad2 {w p : Int} {t : zS} (h5 : t.1 1 5 = w) (h6 : t.1 1 6 = p) (ft : FrK (clG L) s t) : cSt L g e s (.inl (w, p)) 0 t := ⟨rfl, h5, h6, ft⟩
theorem p24 {b : Nat} {k' : List Int → Int → Int → dR} (ht : tOk g e) (hL : L = 43 ∨ L = 66) (hb : b = L + 17 ∨ b = L + 20) (hW : lxW g e F E) (h : cLx g e F E s) (hk : tkK g e F E = 1) (hK : ∀ (q : Int × Int × List Int) (t : zS), cLx g e q.1 q.2.1 t → cFm b q.2.2 t → FrK (smF b) s t → cSt L g e s (k' q.2.2 q.1 q.2.1) 1 t) : Ok (m24 b s) (cSt L g e s (tSum g e (nxF g e F) (nxE g e F E) k')) := by
  unfold m24 tSum
  refine k_c (p76a ht hW h (tkK_1 hk).1 (by omega)) ?_
  rintro _ u ⟨u1, u2, u3⟩
  have fu : FrK (smF b) s u := frk_of (fr_mono (fun a k z => Or.inl z) u3)
  refine k_c (Q := fun _ v => cG g e b false (nxF g e F) (nxE g e F E) [] v ∧ FrK (smF b) s v) ?_ ?_
  · unfold m26
    refine k_v (k_v (k_d (Or.inl rfl) (k_v (k_r ?_))))
    have g1 : ∀ a k, ¬ (a = 8 ∧ k = 2) → ¬ (a = b ∧ k = 2) → (sI (sM (sI u b 2 0) 4 b) 8 2 0).1 a k = u.1 a k := fun a k n1 n2 => by
      show (sI _ 8 2 0).1 a k = _
      rw [sI_if, if_neg n1]
      show (sI u b 2 0).1 a k = _
      rw [sI_if, if_neg n2]
    have fv : FrK (smF b) u (sI (sM (sI u b 2 0) 4 b) 8 2 0) := by
      refine ⟨fun a k n => g1 a k (by omega) (by omega), rfl, fun q n => ?_⟩
      show (if q = 4 then b else u.2.2 q) = u.2.2 q
      rw [if_neg n]
    refine ⟨⟨u2, ⟨⟨?_, fun k k0 k1 => ?_, fun b b0 b1 => ?_⟩, ?_, ?_, ?_⟩, ⟨rfl, ?_, fun i hi => by simp at hi⟩, ?_, ?_⟩, frk_trans fu fv⟩
    · rw [g1 1 2 (by omega) (by omega)]; exact u1.1.1
    · rw [g1 2 k (by omega) (by omega)]; exact u1.1.2.1 k k0 k1
    · rw [g1 4 b (by omega) (by omega)]; exact u1.1.2.2 b b0 b1
    · rw [g1 1 3 (by omega) (by omega)]; exact u1.2.1
    · rw [g1 1 4 (by omega) (by omega)]; exact u1.2.2.1
    · rw [g1 1 8 (by omega) (by omega)]; exact u1.2.2.2
    · show (sI _ 8 2 0).1 b 2 = 0
      rw [sI_a (by omega)]
      show (sI u b 2 0).1 b 2 = 0
      rw [sI_e]
    · show ((0 : Nat) : Int) ≤ _
      have := u2.1
      omega
    · show (sI _ 8 2 0).1 8 2 = 0
      rw [sI_e]
  rintro _ v ⟨v1, v2⟩
  have hr := (pM29 (b := b) (ask := false) (Or.inr (by omega)) ht 40).1 3 0 _ _ [] v (by omega) (by omega) (by omega) (by omega) (by omega) v1
  show Ok (oC (M29 40 3 0 v) _) _
  rcases hy : qM g e false 40 3 0 (nxF g e F) (nxE g e F E) with q | q
  · rw [hy] at hr
    refine k_c hr ?_
    rintro r w ⟨rfl, w1, w2, w3⟩
    exact k_d (Or.inl rfl) (k_r (cSt_bad2 w1 w2 (frk_trans (frk_mono (fun a k z => by omega) v2) (frk_of (fr_mono (fun a k z => by omega) w3)))))
  · rw [hy] at hr
    refine k_c hr ?_
    rintro r w ⟨rfl, w1, w3⟩
    exact k_d (Or.inr rfl) (k_r (hK q w w1.2.1 ⟨w1.2.2.1.2.1, w1.2.2.1.2.2⟩ (frk_trans v2 (frk_of (fr_mono (fun a k z => by omega) w3)))))
/-- the pull told -/
theorem cDx_17 {l : List Int} {bp bw : Int} {t : zS} (hL : L = 43 ∨ L = 66) (hD : cDx L D bp bw s) (hf : FrK (smF (L + 17)) s t) (hc : cFm (L + 17) l t) : cDx L (D.1, l, D.2.2) bp bw t := by
  have ro : ∀ x j, ¬ smF (L + 17) x j → t.1 x j = s.1 x j := hf.1
  obtain ⟨⟨⟨h0, h1, h2, h3, h4⟩, m7, m8, m6⟩, ⟨n1, n2, n3⟩, q3, q4, q5, q6, q7, q8⟩ := hD
  refine ⟨⟨⟨?_, ?_, ?_, ?_, ?_⟩, ?_, ?_, ?_⟩, ⟨fun w w0 w1 => ?_, fun w w0 w1 => ?_, fun w w0 w1 => ?_⟩, fun a b a0 a1 b0 b1 => ?_, fun j j0 j1 => ?_, fun w w0 w1 => ?_, ?_, hc, ?_⟩
  · rw [ro _ _ (by omega)]; exact h0
  · rw [ro _ _ (by omega)]; exact h1
  · rw [ro _ _ (by omega)]; exact h2
  · rw [ro _ _ (by omega)]; exact h3
  · rw [ro _ _ (by omega)]; exact h4
  · rw [ro _ _ (by omega)]; exact m7
  · rw [ro _ _ (by omega)]; exact m8
  · rw [ro _ _ (by omega)]; exact m6
  · exact nmRel_ext (fun k _ _ => (ro _ _ (by omega)).symm) (n1 w w0 w1)
  · exact nmRel_ext (fun k _ _ => (ro _ _ (by omega)).symm) (n2 w w0 w1)
  · exact nmRel_ext (fun k _ _ => (ro _ _ (by omega)).symm) (n3 w w0 w1)
  · rw [ro _ _ (by omega)]; exact q3 a b a0 a1 b0 b1
  · rw [ro _ _ (by omega), ro _ _ (by omega), ro _ _ (by omega)]; exact q4 j j0 j1
  · rw [ro _ _ (by omega), ro _ _ (by omega), ro _ _ (by omega), ro _ _ (by omega)]; exact q5 w w0 w1
  · rw [ro _ _ (by omega), ro _ _ (by omega), ro _ _ (by omega)]; exact q6
  · exact ⟨by rw [ro _ _ (by omega)]; exact q8.1, fun i hi => by rw [ro _ _ (by omega)]; exact q8.2 i hi⟩
/-- the strive told -/
theorem cDx_20 {l : List Int} {bp bw : Int} {t : zS} (hL : L = 43 ∨ L = 66) (hD : cDx L D bp bw s) (hf : FrK (smF (L + 20)) s t) (hc : cFm (L + 20) l t) : cDx L (D.1, D.2.1, l, D.2.2.2) bp bw t := by
  have ro : ∀ x j, ¬ smF (L + 20) x j → t.1 x j = s.1 x j := hf.1
  obtain ⟨⟨⟨h0, h1, h2, h3, h4⟩, m7, m8, m6⟩, ⟨n1, n2, n3⟩, q3, q4, q5, q6, q7, q8⟩ := hD
  refine ⟨⟨⟨?_, ?_, ?_, ?_, ?_⟩, ?_, ?_, ?_⟩, ⟨fun w w0 w1 => ?_, fun w w0 w1 => ?_, fun w w0 w1 => ?_⟩, fun a b a0 a1 b0 b1 => ?_, fun j j0 j1 => ?_, fun w w0 w1 => ?_, ?_, ?_, hc⟩
  · rw [ro _ _ (by omega)]; exact h0
  · rw [ro _ _ (by omega)]; exact h1
  · rw [ro _ _ (by omega)]; exact h2
  · rw [ro _ _ (by omega)]; exact h3
  · rw [ro _ _ (by omega)]; exact h4
  · rw [ro _ _ (by omega)]; exact m7
  · rw [ro _ _ (by omega)]; exact m8
  · rw [ro _ _ (by omega)]; exact m6
  · exact nmRel_ext (fun k _ _ => (ro _ _ (by omega)).symm) (n1 w w0 w1)
  · exact nmRel_ext (fun k _ _ => (ro _ _ (by omega)).symm) (n2 w w0 w1)
  · exact nmRel_ext (fun k _ _ => (ro _ _ (by omega)).symm) (n3 w w0 w1)
  · rw [ro _ _ (by omega)]; exact q3 a b a0 a1 b0 b1
  · rw [ro _ _ (by omega), ro _ _ (by omega), ro _ _ (by omega)]; exact q4 j j0 j1
  · rw [ro _ _ (by omega), ro _ _ (by omega), ro _ _ (by omega), ro _ _ (by omega)]; exact q5 w w0 w1
  · rw [ro _ _ (by omega), ro _ _ (by omega), ro _ _ (by omega)]; exact q6
  · exact ⟨by rw [ro _ _ (by omega)]; exact q7.1, fun i hi => by rw [ro _ _ (by omega)]; exact q7.2 i hi⟩
/-- a setting told -/
theorem cDx_set {i v : Int} {bp bw : Int} (hL : L = 43 ∨ L = 66) (hi : 0 ≤ i ∧ i ≤ 2) (hD : cDx L D bp bw s) : cDx L (dU D 6 i v) bp bw (sI s L (17 + i) v) := by
  generalize ht : sI s L (17 + i) v = t
  have fr : Fr (fun x k => x = L ∧ k = 17 + i) s t := by rw [← ht]; exact fr_I ⟨rfl, rfl⟩
  have te : t.1 L (17 + i) = v := by rw [← ht, sI_e]
  have ro : ∀ x j, ¬ (x = L ∧ j = 17 + i) → t.1 x j = s.1 x j := fr.1
  have er : ∀ q j, q ≠ 6 → (dU D 6 i v).1 q j = D.1 q j := fun q j h => dU_r h
  obtain ⟨⟨⟨h0, h1, h2, h3, h4⟩, m7, m8, m6⟩, ⟨n1, n2, n3⟩, q3, q4, q5, q6, q7, q8⟩ := hD
  have e6 : ∀ j, 0 ≤ j → j ≤ 2 → s.1 L (17 + j) = D.1 6 j → t.1 L (17 + j) = (dU D 6 i v).1 6 j := fun j j0 j2 hj => by
    rw [dU_s]
    by_cases c : j = i
    · rw [if_pos c, c, te]
    · rw [if_neg c, ro _ _ (by omega)]; exact hj
  refine ⟨⟨⟨?_, ?_, ?_, ?_, ?_⟩, ?_, ?_, ?_⟩, ⟨fun w w0 w1 => ?_, fun w w0 w1 => ?_, fun w w0 w1 => ?_⟩, fun a b a0 a1 b0 b1 => ?_, fun j j0 j1 => ?_, fun w w0 w1 => ?_, ⟨e6 0 (by omega) (by omega) q6.1, e6 1 (by omega) (by omega) q6.2.1, e6 2 (by omega) (by omega) q6.2.2⟩, ?_, ?_⟩
  · rw [ro _ _ (by omega), er 0 _ (by decide)]; exact h0
  · rw [ro _ _ (by omega), er 0 _ (by decide)]; exact h1
  · rw [ro _ _ (by omega), er 0 _ (by decide)]; exact h2
  · rw [ro _ _ (by omega), er 0 _ (by decide)]; exact h3
  · rw [ro _ _ (by omega)]; exact h4
  · rw [ro _ _ (by omega)]; exact m7
  · rw [ro _ _ (by omega)]; exact m8
  · rw [ro _ _ (by omega)]; exact m6
  · rw [er 0 _ (by decide)] at w1
    rw [er 1 _ (by decide)]
    exact nmRel_ext (fun k _ _ => (ro _ _ (by omega)).symm) (n1 w w0 w1)
  · rw [er 0 _ (by decide)] at w1
    rw [er 1 _ (by decide)]
    exact nmRel_ext (fun k _ _ => (ro _ _ (by omega)).symm) (n2 w w0 w1)
  · rw [er 0 _ (by decide)] at w1
    rw [er 1 _ (by decide)]
    exact nmRel_ext (fun k _ _ => (ro _ _ (by omega)).symm) (n3 w w0 w1)
  · rw [ro _ _ (by omega), er 2 _ (by decide)]; exact q3 a b a0 a1 b0 b1
  · rw [ro _ _ (by omega), ro _ _ (by omega), ro _ _ (by omega), er 3 _ (by decide), er 3 _ (by decide), er 3 _ (by decide)]; exact q4 j j0 j1
  · rw [ro _ _ (by omega), ro _ _ (by omega), ro _ _ (by omega), ro _ _ (by omega), er 4 _ (by decide), er 4 _ (by decide), er 4 _ (by decide), er 5 _ (by decide)]; exact q5 w w0 w1
  · exact ⟨by rw [ro _ _ (by omega)]; exact q7.1, fun i hi => by rw [ro _ _ (by omega)]; exact q7.2 i hi⟩
  · exact ⟨by rw [ro _ _ (by omega)]; exact q8.1, fun i hi => by rw [ro _ _ (by omega)]; exact q8.2 i hi⟩
/-- one setting -/
theorem p94_1 {k : Nat} {i lo hi : Int} (ht : tOk g e) (hL : L = 43 ∨ L = 66) (hi2 : 0 ≤ i ∧ i ≤ 2) (lo0 : 0 ≤ lo) (hD : cD L D s) (hW : lxW g e F E) (h : cLx g e F E s) (hk : isW g e F E (sL k) = true) : Ok (oC (m95 k lo hi s) fun z17 s18 => oV (sI s18 L (17 + i) z17) fun s20 => oV (s20.1 L (17 + i)) fun z21 => if z21 = (-1 : Int) then some ((0 : Int), s20) else some ((1 : Int), s20)) (cSt L g e s (tN g e lo hi (nxF g e F) (nxE g e F E) fun v F2 E2 => .inr (dU D 6 i v, F2, E2))) := by
  unfold m95
  rw [show ∀ {x : Option (Int × zS)} {y z : Int → zS → Option (Int × zS)}, oC (oC x y) z = oC x fun a t => oC (y a t) z from fun {x y z} => by cases x <;> rfl]
  refine k_c (p82 ht hW h) ?_
  rintro r t (⟨c, rfl, t1, t2, t3⟩ | ⟨c, _⟩)
  · rw [if_neg (by decide)]
    unfold tN
    have hp := p83 (lo := lo) (hi := hi) ht t2 t1
    refine k_c (k_c hp (fun r t q => k_r q)) ?_
    intro r u hu
    rcases hz : lxNum g e (nxF g e F) (nxE g e F E) lo hi with q | q
    · rw [hz] at hu
      obtain ⟨rfl, u5, u6, u3⟩ := hu
      refine k_v (k_v ?_)
      rw [sI_e]
      refine k_p rfl (k_r (cSt_bad2 ?_ ?_ ?_))
      · rw [sI_a (by omega)]; exact u5
      · rw [sI_a (by omega)]; exact u6
      · exact frk_of (fr_trans (fr_mono (fun a k z => by omega) t3) (fr_trans (fr_mono (fun a k z => by omega) u3) (fr_I (by omega))))
    · rw [hz] at hu
      have hi' := lxNum_in t2 hz
      obtain ⟨rfl, u1, u2, u3⟩ := hu
      refine k_v (k_v ?_)
      rw [sI_e]
      refine k_q (by omega) (k_r ⟨rfl, ?_, ?_, ?_⟩)
      · exact cDx_set hL hi2 (cDx_fr (fun a k a0 a1 a2 => (u3.1 a k (by omega)).trans (t3.1 a k (by omega))) hD)
      · exact cLx_fr (A := fun x k => x = L ∧ k = 17 + i) (fun a k z => by omega) (fr_I ⟨rfl, rfl⟩) u1
      · exact frk_of (fr_trans (fr_mono (fun a k z => by omega) t3) (fr_trans (fr_mono (fun a k z => by omega) u3) (fr_I (by omega))))
  · exact absurd hk c
/-- full: the fifth fault -/
theorem p89 (h : cLx g e F E s) : Ok (m89 s) (fun r t => (r = 0 ∨ r = 1) ∧ cSt L g e s (.inl (5, F)) r t) := by
  unfold m89
  refine k_v ?_
  rw [h.2.2.1]
  refine k_c p77 ?_
  rintro r u ⟨rfl, u5, u6, u3⟩
  exact k_d (Or.inl rfl) (k_r ⟨Or.inl rfl, cSt_bad2 u5 u6 (frk_of (fr_mono (fun a k z => by omega) u3))⟩)
end
