/-! ===== the class tells a land: a statement, the loop ===== -/
section
variable {g : Int → Int} {e F E : Int} {L : Nat} {D D' : dL} {s s0 : zS} {v : Int}
theorem e51 {a : Nat} {c m : Int} (hc : s.1 a 0 = c) (hm : s.1 a 1 = m) : m51 a s = some (if c < m then 0 else 1, s) := by
  unfold m51
  rw [oV_eq, oV_eq, hc, hm]
  by_cases d : c < m
  · rw [if_pos d, if_pos d]
  · rw [if_neg d, if_neg d]
theorem p89d (h : cLx g e F E s) : Ok (oC (m89 s) fun z t => oD z (some (z, t))) (cSt L g e s (.inl (5, F))) :=
  kD (k_m (p89 (L := L) h) (fun r t q => q.2)) (fun r t q => cSt_01 q)
theorem p94 (ht : tOk g e) (hL : L = 43 ∨ L = 66) (hD : cD L D s) (hW : lxW g e F E) (h : cLx g e F E s) : Ok (m94 L s) (cSt L g e s (if isW g e F E (sL 31) = true then tN g e 0 2 (nxF g e F) (nxE g e F E) fun v F2 E2 => .inr (dU D 6 0 v, F2, E2)
  else if isW g e F E (sL 32) = true then tN g e 1 9 (nxF g e F) (nxE g e F E) fun v F2 E2 => .inr (dU D 6 1 v, F2, E2)
  else if isW g e F E (sL 33) = true then tN g e 0 100 (nxF g e F) (nxE g e F E) fun v F2 E2 => .inr (dU D 6 2 v, F2, E2)
  else .inl (1, F))) := by
  unfold m94
  refine k_e (e80 ht hW h 31) ?_
  by_cases c1 : isW g e F E (sL 31) = true
  · rw [if_pos c1, if_pos c1]
    exact k_q (by decide) (p94_1 (i := 0) ht hL (by omega) (by omega) hD hW h c1)
  rw [if_neg c1, if_neg c1]
  refine k_p rfl (k_e (e80 ht hW h 32) ?_)
  by_cases c2 : isW g e F E (sL 32) = true
  · rw [if_pos c2, if_pos c2]
    exact k_q (by decide) (p94_1 (i := 1) ht hL (by omega) (by omega) hD hW h c2)
  rw [if_neg c2, if_neg c2]
  refine k_p rfl (k_e (e80 ht hW h 33) ?_)
  by_cases c3 : isW g e F E (sL 33) = true
  · rw [if_pos c3, if_pos c3]
    exact k_q (by decide) (p94_1 (i := 2) ht hL (by omega) (by omega) hD hW h c3)
  rw [if_neg c3, if_neg c3]
  refine k_p rfl (k_c (p78 h.2.2.1) ?_)
  rintro r t ⟨rfl, t5, t6, t3⟩
  exact k_d (Or.inl rfl) (k_r (cSt_bad2 t5 t6 (frk_of (fr_mono (fun a k z => by omega) t3))))
/-- a STATEMENT -/
theorem p88 (ht : tOk g e) (hL : L = 43 ∨ L = 66) (hI : dInv D) (hD : cD L D s) (hW : lxW g e F E) (h : cLx g e F E s) : Ok (m88 L s) (cSt L g e s (dStm g e D F E)) := by
  obtain ⟨⟨h0, h1, h2, h3, h4⟩, m7, m8, m6⟩ := hD.1
  unfold m88 dStm
  refine k_e (e80 ht hW h 0) ?_
  by_cases c0 : isW g e F E (sL 0) = true
  · rw [if_pos c0, if_pos c0]
    refine k_q (by decide) (k_e (e51 h0 m7) ?_)
    by_cases d : D.1 0 0 < 7
    · rw [if_pos d, if_pos d]
      exact k_p rfl (kD (p90 ht hL hI d hD hW h (isW_t c0).1) (fun r t q => cSt_01 q))
    · rw [if_neg d, if_neg d]
      exact k_q (by decide) (p89d h)
  rw [if_neg c0, if_neg c0]
  refine k_p rfl (k_e (e80 ht hW h 3) ?_)
  by_cases c1 : isW g e F E (sL 3) = true
  · rw [if_pos c1, if_pos c1]
    refine k_q (by decide) (k_v ?_)
    rw [h3]
    by_cases d : D.1 0 3 < 12
    · refine k_p d ?_
      rw [if_pos d]
      exact kD (p91 ht hL hI d hD hW h (isW_t c1).1) (fun r t q => cSt_01 q)
    · refine k_q d ?_
      rw [if_neg d]
      exact p89d h
  rw [if_neg c1, if_neg c1]
  refine k_p rfl (k_e (e80 ht hW h 5) ?_)
  by_cases c2 : isW g e F E (sL 5) = true
  · rw [if_pos c2, if_pos c2]
    refine k_q (by decide) (k_e (e51 h1 m8) ?_)
    by_cases d : D.1 0 1 < 8
    · rw [if_pos d, if_pos d]
      exact k_p rfl (kD (p92 ht hL hI d hD hW h (isW_t c2).1) (fun r t q => cSt_01 q))
    · rw [if_neg d, if_neg d]
      exact k_q (by decide) (p89d h)
  rw [if_neg c2, if_neg c2]
  refine k_p rfl (k_e (e80 ht hW h 9) ?_)
  by_cases c3 : isW g e F E (sL 9) = true
  · rw [if_pos c3, if_pos c3]
    refine k_q (by decide) (k_e (e51 h2 m6) ?_)
    by_cases d : D.1 0 2 < 6
    · rw [if_pos d, if_pos d]
      exact k_p rfl (kD (p93 ht hL hI d hD hW h (isW_t c3).1) (fun r t q => cSt_01 q))
    · rw [if_neg d, if_neg d]
      exact k_q (by decide) (p89d h)
  rw [if_neg c3, if_neg c3]
  refine k_p rfl (k_e (e80 ht hW h 13) ?_)
  by_cases c4 : isW g e F E (sL 13) = true
  · rw [if_pos c4, if_pos c4]
    refine k_q (by decide) (k_v ?_)
    rw [hD.2.2.2.2.2.2.1.1]
    by_cases d : D.2.1 = []
    · refine k_q (by rw [d]; decide) ?_
      rw [if_pos d]
      exact kD (p24 ht hL (Or.inl rfl) hW h (isW_t c4).1 (fun q t t1 t2 t3 => ⟨rfl, cDx_17 hL hD t3 t2, t1, frk_mono (fun a k z => by omega) t3⟩)) (fun r t q => cSt_01 q)
    · refine k_p (by have := List.length_pos_iff.mpr d; omega) ?_
      rw [if_neg d]
      exact p89d h
  rw [if_neg c4, if_neg c4]
  refine k_p rfl (k_e (e80 ht hW h 30) ?_)
  by_cases c5 : isW g e F E (sL 30) = true
  · rw [if_pos c5, if_pos c5]
    refine k_q (by decide) (k_v ?_)
    rw [hD.2.2.2.2.2.2.2.1]
    by_cases d : D.2.2.1 = []
    · refine k_q (by rw [d]; decide) ?_
      rw [if_pos d]
      exact kD (p24 ht hL (Or.inr rfl) hW h (isW_t c5).1 (fun q t t1 t2 t3 => ⟨rfl, cDx_20 hL hD t3 t2, t1, frk_mono (fun a k z => by omega) t3⟩)) (fun r t q => cSt_01 q)
    · refine k_p (by have := List.length_pos_iff.mpr d; omega) ?_
      rw [if_neg d]
      exact p89d h
  rw [if_neg c5, if_neg c5]
  exact k_p rfl (kD (p94 ht hL hD hW h) (fun r t q => cSt_01 q))
/-- a statement more -/
theorem cD_more (hL : L = 43 ∨ L = 66) (hD : cD L D s) : cD L (D.1, D.2.1, D.2.2.1, D.2.2.2 + 1) (sI s L 15 (D.2.2.2 + 1)) := by
  generalize ht : sI s L 15 (D.2.2.2 + 1) = t
  have fr : Fr (fun x k => x = L ∧ k = 15) s t := by rw [← ht]; exact fr_I ⟨rfl, rfl⟩
  have te : t.1 L 15 = D.2.2.2 + 1 := by rw [← ht, sI_e]
  have ro : ∀ x j, ¬ (x = L ∧ j = 15) → t.1 x j = s.1 x j := fr.1
  obtain ⟨⟨⟨h0, h1, h2, h3, h4⟩, m7, m8, m6⟩, ⟨n1, n2, n3⟩, q3, q4, q5, q6, q7, q8⟩ := hD
  refine ⟨⟨⟨?_, ?_, ?_, ?_, te⟩, ?_, ?_, ?_⟩, ⟨fun w w0 w1 => ?_, fun w w0 w1 => ?_, fun w w0 w1 => ?_⟩, fun a b a0 a1 b0 b1 => ?_, fun j j0 j1 => ?_, fun w w0 w1 => ?_, ?_, ?_, ?_⟩
  · rw [ro _ _ (by omega)]; exact h0
  · rw [ro _ _ (by omega)]; exact h1
  · rw [ro _ _ (by omega)]; exact h2
  · rw [ro _ _ (by omega)]; exact h3
  · rw [ro _ _ (by omega)]; exact m7
  · rw [ro _ _ (by omega)]; exact m8
  · rw [ro _ _ (by omega)]; exact m6
  · exact nmRel_ext (fun k _ _ => (ro _ _ (by omega)).symm) (n1 w w0 w1)
  · exact nmRel_ext (fun k _ _ => (ro _ _ (by omega)).symm) (n2 w w0 w1)
  · exact nmRel_ext (fun k _ _ => (ro _ _ (by omega)).symm) (n3 w w0 w1)
  · rw [ro _ _ (by omega)]; exact q3 a b a0 a1 b0 b1
  · rw [ro _ _ (by omega), ro _ _ (by omega), ro _ _ (by omega)]; exact q4 j j0 j1
  · rw [ro _ _ (by omega), ro _ _ (by omega), ro _ _ (by omega), ro _ _ (by omega)]; exact q5 w w0 w1
  · rw [ro _ _ (by omega), ro _ _ (by omega), ro _ _ (by omega)]; exact q6
  · exact ⟨by rw [ro _ _ (by omega)]; exact q7.1, fun i hi => by rw [ro _ _ (by omega)]; exact q7.2 i hi⟩
  · exact ⟨by rw [ro _ _ (by omega)]; exact q8.1, fun i hi => by rw [ro _ _ (by omega)]; exact q8.2 i hi⟩
/-- what the class's telling leaves: a fault, or what P says of the land told -/
def cTl (L : Nat) (s0 : zS) (P : dL → zS → Prop) (x : dR) (r : Int) (t : zS) : Prop := match x with
  | .inl q => r = 0 ∧ t.1 1 5 = q.1 ∧ t.1 1 6 = q.2 ∧ FrK (clG L) s0 t
  | .inr q => r = 1 ∧ P q.1 t
theorem p87_67 {P : dL → zS → Prop} (hW : lxW g e F E) (h : cLx g e F E s) (hf : FrK (clF L) s0 s) (hm : ¬ F < e → Ok (m44 L s) (fun _ t => P D t)) : Ok (m87_67 L s) (cTl L s0 P (if F < e then .inl (5, F) else .inr (D, F, E))) := by
  unfold m87_67
  refine k_v ?_
  rw [h.2.1]
  have t0 := tkK_0 hW
  by_cases c : F < e
  · refine k_q (fun y => (t0.mp y) c) ?_
    rw [if_pos c]
    refine k_m (p89d (L := L) h) ?_
    rintro r t ⟨rfl, t5, t6, t3⟩
    exact ⟨rfl, t5, t6, frk_trans (frk_mono (fun a k z => by omega) hf) t3⟩
  · refine k_p (t0.mpr c) ?_
    rw [if_neg c]
    exact k_c (hm c) (fun r t q => k_r ⟨rfl, q⟩)
theorem p87_13 {P : dL → zS → Prop} (ht : tOk g e) (hL : L = 43 ∨ L = 66) (hm : ∀ D F E u, dInv D → lxW g e F E → dLn D ≤ F → 0 ≤ D.2.2.2 → D.2.2.2 ≤ 80 → cD L D u → FrK (clF L) s0 u → Ok (m44 L u) (fun _ t => P D t)) : ∀ (n j : Nat) (x : Int) (D : dL) (F E : Int) (s : zS), x = 80 - (j : Int) → j < n → 0 ≤ D.2.2.2 → D.2.2.2 ≤ x → dInv D → dLn D ≤ F → lxW g e F E → cLx g e F E s → cD L D s → FrK (clF L) s0 s → Ok (m87_13 n L x s) (cTl L s0 P (dLoop g e j D F E)) := by
  intro n
  induction n with
  | zero => intro j x D F E s _ h; omega
  | succ n ih =>
    intro j x D F E s hx hj st0 st1 hI hl hW h hD hf
    rw [m87_13]
    have fin := p87_67 (D := D) (P := P) hW h hf (fun _ => hm D F E s hI hW hl st0 (by omega) hD hf)
    cases j with
    | zero =>
      refine k_q (by omega) ?_
      exact fin
    | succ j =>
      refine k_p (by omega) (k_v ?_)
      rw [h.2.1]
      have t0 := tkK_0 hW
      unfold dLoop
      by_cases c : F < e
      · refine k_q (fun y => (t0.mp y) c) ?_
        rw [if_pos c]
        have hp := p88 ht hL hI hD hW h
        rcases hz : dStm g e D F E with q | q
        · rw [hz] at hp
          refine k_c hp ?_
          rintro r t ⟨rfl, t5, t6, t3⟩
          exact k_p rfl (k_r ⟨rfl, t5, t6, frk_trans (frk_mono (fun a k z => by omega) hf) t3⟩)
        · rw [hz] at hp
          obtain ⟨k1, k2, k3, k4, k5⟩ := dStm_in hI hW hz
          refine k_c hp ?_
          rintro r t ⟨rfl, t1, t2, t3⟩
          refine k_q (by decide) ?_
          have ft := frk_trans hf t3
          unfold m81
          rw [show ∀ {x : Option (Int × zS)} {y z : Int → zS → Option (Int × zS)}, oC (oC x y) z = oC x fun a t => oC (y a t) z from fun {x y z} => by cases x <;> rfl]
          refine k_e (e79 ht k2 t2 (show kindB 59 = 3 by decide)) ?_
          by_cases d : q.2.1 < e ∧ g q.2.1 = 59
          · show Ok _ (cTl L s0 P (if q.2.1 < e ∧ g q.2.1 = 59 then dLoop g e j (q.1.1, q.1.2.1, q.1.2.2.1, q.1.2.2.2 + 1) (nxF g e q.2.1) (nxE g e q.2.1 q.2.2) else .inl (1, q.2.1)))
            rw [if_pos d, if_pos d, if_neg (by decide)]
            refine k_c (Q := fun r u => r = 1 ∧ cLx g e (nxF g e q.2.1) (nxE g e q.2.1 q.2.2) u ∧ lxW g e (nxF g e q.2.1) (nxE g e q.2.1 q.2.2) ∧ Fr xF t u) (k_c (p76a ht k2 t2 d.1 (by rw [tkK_3 d.1 (by rw [d.2]; decide)]; decide)) (fun _ u q => k_r ⟨rfl, q⟩)) ?_
            rintro r u ⟨rfl, u1, u2, u3⟩
            have gx := nx_any k2 d.1
            have du : cD L q.1 u := cDx_fr (fun a k a0 a1 a2 => u3.1 a k (by omega)) t1
            refine k_q (by decide) (k_v ?_)
            rw [du.1.1.2.2.2.2]
            refine k_z (by omega) (by omega) (k_v (k_z (by omega) (by omega) ?_))
            refine ih j (x + 1) _ _ _ _ (by omega) (by omega) (by show 0 ≤ q.1.2.2.2 + 1; omega) (by show q.1.2.2.2 + 1 ≤ x + 1; omega) k1 (by have : dLn (q.1.1, q.1.2.1, q.1.2.2.1, q.1.2.2.2 + 1) = dLn q.1 := rfl; omega) u2 (cLx_fr (A := fun x k => x = L ∧ k = 15) (fun a k z => by omega) (fr_I ⟨rfl, rfl⟩) u1) (cD_more hL du) (frk_trans ft (frk_trans (frk_of (fr_mono (fun a k z => Or.inl z) u3)) (frk_of (fr_I (by omega)))))
          · show Ok _ (cTl L s0 P (if q.2.1 < e ∧ g q.2.1 = 59 then dLoop g e j (q.1.1, q.1.2.1, q.1.2.2.1, q.1.2.2.2 + 1) (nxF g e q.2.1) (nxE g e q.2.1 q.2.2) else .inl (1, q.2.1)))
            rw [if_neg d, if_neg d, if_pos rfl]
            refine k_c (Q := fun r u => r = 0 ∧ u.1 1 5 = 1 ∧ u.1 1 6 = q.2.1 ∧ Fr cfF t u) (k_c (p78 t2.2.2.1) ?_) ?_
            · rintro r u ⟨rfl, u1⟩
              exact k_d (Or.inl rfl) (k_r ⟨rfl, u1⟩)
            · rintro r u ⟨rfl, u5, u6, u3⟩
              exact k_p rfl (k_r ⟨rfl, u5, u6, frk_trans (frk_mono (fun a k z => by omega) ft) (frk_of (fr_mono (fun a k z => by omega) u3))⟩)
      · refine k_p (t0.mpr c) ?_
        rw [if_neg c]
        rw [if_neg c] at fin
        exact fin
end
