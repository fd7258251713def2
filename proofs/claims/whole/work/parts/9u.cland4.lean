/-! ===== the class tells a land: pair, walker ===== -/
section
variable {g : Int → Int} {e F E : Int} {L : Nat} {D : dL} {s s0 : zS} {v : Int}
/-- a name that is new, and on -/
theorem cw_new {K : zS → Option (Int × zS)} {k' : Int → Int → Int → dR} {d bp bw : Int} {a0 : Nat} (ht : tOk g e) (hL : L = 43 ∨ L = 66) (hI : dB D) (hd : (d = 0 ∧ a0 = L + 1 ∧ D.1 0 0 < 7) ∨ (d = 1 ∧ a0 = L + 3 ∧ D.1 0 1 < 8) ∨ (d = 2 ∧ a0 = L + 5 ∧ D.1 0 2 < 6)) (hD : cDx L D bp bw s) (hW : lxW g e F E) (h : cLx g e F E s) (hf : FrK (clF L) s0 s) (hK : ∀ (y : Int × Int × Int) (t : zS), cDx L (dAdd D d y.1) bp bw t → cLx g e y.2.1 y.2.2 t → lxW g e y.2.1 y.2.2 → Fr (clF L) s t → Ok (K t) (cSt L g e s0 (k' y.1 y.2.1 y.2.2))) : Ok (oC (m96 L a0 s) fun z t => if z = (0 : Int) then some ((0 : Int), t) else K t) (cSt L g e s0 (tNew g e D F E k')) := by
  have hp := p96 (d := d) (bp := bp) (bw := bw) ht hL hI hd hD hW h
  rw [tNew_nw]
  rcases hz : nwR g e D F E with q | q
  · rw [hz] at hp
    exact kB0 hp (fun t q => cSt_bad hf q.1 q.2.1 q.2.2)
  · rw [hz] at hp
    have qn := nwR_in hW hz
    exact kB1 hp (fun t u => hK q t u.1 u.2.1 qn.1 u.2.2)
theorem dB_add {d : Int} (h : dB D) (hd : (d = 1 ∧ D.1 0 1 < 8) ∨ (d = 2 ∧ D.1 0 2 < 6)) : dB (dAdd D d v) := by
  rcases hd with ⟨rfl, hd⟩ | ⟨rfl, hd⟩
  · refine ⟨?_, ?_, ?_, ?_, ?_, ?_⟩
    · rw [dA_0 (by decide)]; omega
    · rw [dA_s]; omega
    · rw [dA_0 (by decide)]; omega
    · rw [dA_0 (by decide)]; omega
    · rw [dA_s]; omega
    · rw [dA_0 (by decide)]; omega
  · refine ⟨?_, ?_, ?_, ?_, ?_, ?_⟩
    · rw [dA_0 (by decide)]; omega
    · rw [dA_0 (by decide)]; omega
    · rw [dA_s]; omega
    · rw [dA_0 (by decide)]; omega
    · rw [dA_0 (by decide)]; omega
    · rw [dA_s]; omega
/-- pair -/
theorem p92 (ht : tOk g e) (hL : L = 43 ∨ L = 66) (hI : dInv D) (h8 : D.1 0 1 < 8) (hD : cD L D s) (hW : lxW g e F E) (h : cLx g e F E s) (hk : tkK g e F E = 1) : Ok (m92 L s) (cSt L g e s (dPair g e D (nxF g e F) (nxE g e F E))) := by
  have hB := dB_of hI
  unfold m92 dPair
  refine k_v ?_
  rw [show s.1 (L + 3) 0 = D.1 0 1 from hD.1.1.2.1]
  refine k_c (p76a ht hW h (tkK_1 hk).1 (by omega)) ?_
  rintro _ t ⟨t1, t2, t3⟩
  have ft : FrK (clF L) s t := frk_of (fr_mono (fun a k z => Or.inl z) t3)
  refine cw_new (d := 1) ht hL hB (Or.inr (Or.inl ⟨rfl, rfl, h8⟩)) (cDx_fr (fun a k a0 a1 a2 => t3.1 a k (by omega)) hD) t2 t1 ft (fun y u du lu wu fu => ?_)
  have hB' : dB (dAdd D 1 y.1) := dB_add hB (Or.inl ⟨rfl, h8⟩)
  have fu' : FrK (clF L) s u := frk_trans ft (frk_of fu)
  refine cw_num ht (by omega) wu lu fu' (fun sz w s1 s2 lw ww fw => ?_)
  have fw' : FrK (clF L) s w := frk_trans fu' (frk_of (fr_mono (fun a k z => Or.inl z) fw))
  have dw := cDx_fr (fun a k a0 a1 a2 => fw.1 a k (by omega)) du
  refine cw_word ht ww lw fw' (fun x lx wx fx => ?_)
  have fx' : FrK (clF L) s x := frk_trans fw' (frk_of (fr_mono (fun a k z => Or.inl z) fx))
  have dx := cDx_fr (fun a k a0 a1 a2 => fx.1 a k (by omega)) dw
  rw [← tOne_add (v := y.1) (d := 0) (d' := 1) (by decide) (by omega) (by omega) (by omega)]
  refine cw_one ht hL hB' (Or.inl ⟨rfl, rfl⟩) dx wx lx fx' (fun to z to0 to1 kz lz dz fz => ?_)
  rw [dA_0 (by decide)] at to1
  have fz' : FrK (clF L) s z := frk_trans fx' (frk_of (fr_mono (fun a k z => Or.inr (Or.inl z)) fz))
  refine k_c (p76a ht wx lz (tkK_1 kz).1 (by omega)) ?_
  rintro _ o ⟨lo, wo, fo⟩
  have fo' : FrK (clF L) s o := frk_trans fz' (frk_of (fr_mono (fun a k z => Or.inl z) fo))
  have do' := cDx_fr (fun a k a0 a1 a2 => fo.1 a k (by omega)) dz
  refine cw_num ht (by omega) wo lo fo' (fun bb p b0 b9 lp wp fp => ?_)
  have fp' : FrK (clF L) s p := frk_trans fo' (frk_of (fr_mono (fun a k z => Or.inl z) fp))
  have dp := cDx_fr (fun a k a0 a1 a2 => fp.1 a k (by omega)) do'
  have c0 : 0 ≤ D.1 0 1 := hB.2.2.2.2.1
  refine k_x c0 (by omega) (k_v (k_x c0 (by omega) (k_v (k_x c0 (by omega) (k_v (k_r ?_))))))
  generalize hr : sI (sI (sI p (L + 10) (D.1 0 1) sz.1) (L + 11) (D.1 0 1) to) (L + 12) (D.1 0 1) bb.1 = r
  have fr : Fr (fun x k => (x = L + 10 ∨ x = L + 11 ∨ x = L + 12) ∧ k = D.1 0 1) p r := by rw [← hr]; exact fr_trans (fr_I ⟨Or.inl rfl, rfl⟩) (fr_trans (fr_I ⟨Or.inr (Or.inl rfl), rfl⟩) (fr_I ⟨Or.inr (Or.inr rfl), rfl⟩))
  have r10 : r.1 (L + 10) (D.1 0 1) = sz.1 := by rw [← hr, sI_a (by omega), sI_a (by omega), sI_e]
  have r11 : r.1 (L + 11) (D.1 0 1) = to := by rw [← hr, sI_a (by omega), sI_e]
  have r12 : r.1 (L + 12) (D.1 0 1) = bb.1 := by rw [← hr, sI_e]
  have ro : ∀ x k, ¬ ((x = L + 10 ∨ x = L + 11 ∨ x = L + 12) ∧ k = D.1 0 1) → r.1 x k = p.1 x k := fun x k hx => fr.1 x k hx
  generalize hX : dU (dU (dU (dAdd D 1 y.1) 3 (3 * D.1 0 1) sz.1) 3 (3 * D.1 0 1 + 1) to) 3 (3 * D.1 0 1 + 2) bb.1 = X
  have e01 : X.1 0 1 = D.1 0 1 + 1 := by rw [← hX, dU_r (by decide), dU_r (by decide), dU_r (by decide), dA_s]
  have e0 : ∀ k, X.1 0 k = (dAdd D 1 y.1).1 0 k := fun k => by rw [← hX, dU_r (by decide), dU_r (by decide), dU_r (by decide)]
  have er : ∀ q k, q ≠ 3 → X.1 q k = (dAdd D 1 y.1).1 q k := fun q k h3 => by rw [← hX, dU_r h3, dU_r h3, dU_r h3]
  have e3 : ∀ k, X.1 3 k = if k = 3 * D.1 0 1 + 2 then bb.1 else if k = 3 * D.1 0 1 + 1 then to else if k = 3 * D.1 0 1 then sz.1 else (dAdd D 1 y.1).1 3 k := fun k => by rw [← hX, dU_s, dU_s, dU_s]
  have em : X.2 = D.2 := by rw [← hX]; rfl
  have e02 : X.1 0 2 = D.1 0 2 := by rw [e0, dA_0 (by decide)]
  obtain ⟨⟨⟨h0, h1, h2, h3, h4⟩, m7, m8, m6⟩, ⟨n1, n2, n3⟩, q3, q4, q5, q6, q7, q8⟩ := dp
  refine ⟨rfl, ⟨⟨⟨?_, ?_, ?_, ?_, ?_⟩, ?_, ?_, ?_⟩, ⟨fun w w0 w1 => ?_, fun w w0 w1 => ?_, fun w w0 w1 => ?_⟩, fun a b a0 a1 b0 b1 => ?_, fun j j0 j1 => ?_, fun w w0 w1 => ?_, ?_, ?_, ?_⟩, cLx_fr (fun a k z => by omega) fr lp, frk_trans fp' (frk_of (fr_mono (fun a k z => by omega) fr))⟩
  · rw [ro _ _ (by omega), e0]; exact h0
  · rw [ro _ _ (by omega), e0]; exact h1
  · rw [ro _ _ (by omega), e0]; exact h2
  · rw [ro _ _ (by omega), e0]; exact h3
  · rw [ro _ _ (by omega), em]; exact h4
  · rw [ro _ _ (by omega)]; exact m7
  · rw [ro _ _ (by omega)]; exact m8
  · rw [ro _ _ (by omega)]; exact m6
  · rw [e0] at w1
    rw [er 1 _ (by decide)]
    exact nmRel_ext (fun k _ _ => (ro _ _ (by omega)).symm) (n1 w w0 w1)
  · rw [e0] at w1
    rw [er 1 _ (by decide)]
    exact nmRel_ext (fun k _ _ => (ro _ _ (by omega)).symm) (n2 w w0 w1)
  · rw [e0] at w1
    rw [er 1 _ (by decide)]
    exact nmRel_ext (fun k _ _ => (ro _ _ (by omega)).symm) (n3 w w0 w1)
  · rw [ro _ _ (by omega), er 2 _ (by decide)]
    exact q3 a b a0 a1 b0 b1
  · rw [e01] at j1
    rw [e3, e3, e3]
    by_cases c : j = D.1 0 1
    · subst c
      rw [r10, r11, r12, if_neg (by omega), if_neg (by omega), if_pos rfl, if_neg (by omega), if_pos rfl, if_pos rfl]
      exact ⟨rfl, rfl, rfl⟩
    · rw [ro _ _ (by omega), ro _ _ (by omega), ro _ _ (by omega), if_neg (by omega), if_neg (by omega), if_neg (by omega), if_neg (by omega), if_neg (by omega), if_neg (by omega), if_neg (by omega), if_neg (by omega), if_neg (by omega)]
      exact q4 j j0 (by omega)
  · rw [e02] at w1
    rw [ro _ _ (by omega), ro _ _ (by omega), ro _ _ (by omega), ro _ _ (by omega), er 4 _ (by decide), er 4 _ (by decide), er 4 _ (by decide), er 5 _ (by decide)]
    exact q5 w w0 w1
  · rw [ro _ _ (by omega), ro _ _ (by omega), ro _ _ (by omega), er 6 _ (by decide), er 6 _ (by decide), er 6 _ (by decide)]
    exact q6
  · rw [em]; exact ⟨by rw [ro _ _ (by omega)]; exact q7.1, fun i hi => by rw [ro _ _ (by omega)]; exact q7.2 i hi⟩
  · rw [em]; exact ⟨by rw [ro _ _ (by omega)]; exact q8.1, fun i hi => by rw [ro _ _ (by omega)]; exact q8.2 i hi⟩
end
