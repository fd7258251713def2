/-! ===== the class tells a land: place, road, pair, walker ===== -/
abbrev dB (D : dL) : Prop := D.1 0 0 ≤ 7 ∧ D.1 0 1 ≤ 8 ∧ D.1 0 2 ≤ 6 ∧ 0 ≤ D.1 0 0 ∧ 0 ≤ D.1 0 1 ∧ 0 ≤ D.1 0 2
theorem dB_of {D : dL} (h : dInv D) : dB D := ⟨h.1.1.2, h.1.2.1.2, h.1.2.2.1.2, h.1.1.1, h.1.2.1.1, h.1.2.2.1.1⟩
section
variable {g : Int → Int} {e F E : Int} {L : Nat} {D : dL} {s s0 : zS} {v : Int}
theorem dA_0 {d k : Int} (h : k ≠ d) : (dAdd D d v).1 0 k = D.1 0 k := by unfold dAdd; rw [dU_k h, dU_r (by decide)]
theorem dA_s {d : Int} : (dAdd D d v).1 0 d = D.1 0 d + 1 := by unfold dAdd; exact dU_e
theorem dA_r {d r k : Int} (h0 : r ≠ 0) (h1 : r ≠ 1) : (dAdd D d v).1 r k = D.1 r k := by unfold dAdd; rw [dU_r h0, dU_r h1]
theorem dA_2 {d : Int} : (dAdd D d v).2 = D.2 := rfl
theorem dF_add {d d' x : Int} (hd : d < d') (h8 : D.1 0 d ≤ 8) (h0 : 0 ≤ D.1 0 d) (h0' : 0 ≤ D.1 0 d') : dF (dAdd D d' v) d x = dF D d x := by
  unfold dF
  rw [dA_0 (by omega)]
  refine fnd_congr _ _ (fun i i0 i1 => ?_)
  show (dAdd D d' v).1 1 (8 * d + i) = D.1 1 (8 * d + i)
  unfold dAdd
  rw [dU_r (by decide), dU_k (by omega)]
theorem tOne_add {d d' : Int} {k : Int → Int → Int → dR} (hd : d < d') (h8 : D.1 0 d ≤ 8) (h0 : 0 ≤ D.1 0 d) (h0' : 0 ≤ D.1 0 d') : tOne g e (dAdd D d' v) d F E k = tOne g e D d F E k := by
  unfold tOne
  rcases lxNm g e F E with q | q
  · rfl
  · dsimp only
    rw [dF_add hd h8 h0 h0']
/-- place -/
theorem p90 (ht : tOk g e) (hL : L = 43 ∨ L = 66) (hI : dInv D) (h7 : D.1 0 0 < 7) (hD : cD L D s) (hW : lxW g e F E) (h : cLx g e F E s) (hk : tkK g e F E = 1) : Ok (m90 L s) (cSt L g e s (dPlace g e D (nxF g e F) (nxE g e F E))) := by
  unfold m90
  refine k_c (p76a ht hW h (tkK_1 hk).1 (by omega)) ?_
  rintro _ t ⟨t1, t2, t3⟩
  have ft : FrK (clF L) s t := frk_of (fr_mono (fun a k z => Or.inl z) t3)
  refine kD ?_ (fun r u q => cSt_01 q)
  refine k_m (p96 (d := 0) ht hL (dB_of hI) (Or.inl ⟨rfl, rfl, h7⟩) (cDx_fr (fun a k a0 a1 a2 => t3.1 a k (by omega)) hD) t2 t1) ?_
  intro r u hu
  unfold dPlace
  rw [tNew_nw]
  generalize nwR g e D (nxF g e F) (nxE g e F E) = x at hu ⊢
  rcases x with q | q
  · obtain ⟨rfl, u5, u6, u3⟩ := hu
    exact cSt_bad ft u5 u6 u3
  · obtain ⟨rfl, u1, u2, u3⟩ := hu
    refine ⟨rfl, ?_, u2, frk_trans ft (frk_of u3)⟩
    show cDx L (dAdd D 0 q.1) ((dAdd D 0 q.1).1 0 1) ((dAdd D 0 q.1).1 0 2) u
    rw [dA_0 (by decide), dA_0 (by decide)]
    exact u1
/-- road -/
theorem p91 (ht : tOk g e) (hL : L = 43 ∨ L = 66) (hI : dInv D) (h12 : D.1 0 3 < 12) (hD : cD L D s) (hW : lxW g e F E) (h : cLx g e F E s) (hk : tkK g e F E = 1) : Ok (m91 L s) (cSt L g e s (dRoad g e D (nxF g e F) (nxE g e F E))) := by
  have hB := dB_of hI
  unfold m91 dRoad
  refine k_c (p76a ht hW h (tkK_1 hk).1 (by omega)) ?_
  rintro _ t ⟨t1, t2, t3⟩
  have ft : FrK (clF L) s t := frk_of (fr_mono (fun a k z => Or.inl z) t3)
  refine cw_one ht hL hB (Or.inl ⟨rfl, rfl⟩) (cDx_fr (fun a k a0 a1 a2 => t3.1 a k (by omega)) hD) t2 t1 ft (fun a u a0 a1 ka lu du fu => ?_)
  have fu' : FrK (clF L) s u := frk_trans ft (frk_of (fr_mono (fun a k z => Or.inr (Or.inl z)) fu))
  refine k_c (p76a ht t2 lu (tkK_1 ka).1 (by omega)) ?_
  rintro _ w ⟨w1, w2, w3⟩
  have fw : FrK (clF L) s w := frk_trans fu' (frk_of (fr_mono (fun a k z => Or.inl z) w3))
  refine cw_one ht hL hB (Or.inl ⟨rfl, rfl⟩) (cDx_fr (fun a k a0 a1 a2 => w3.1 a k (by omega)) du) w2 w1 fw (fun b y b0 b1 kb ly dy fy => ?_)
  have fy' : FrK (clF L) s y := frk_trans fw (frk_of (fr_mono (fun a k z => Or.inr (Or.inl z)) fy))
  have bad : (a = b ∨ 0 < D.1 2 (7 * a + b)) → Ok (m91_60 y) (cSt L g e s (if a = b ∨ 0 < D.1 2 (7 * a + b) then .inl (3, nxF g e (nxF g e F)) else tW g e (sL 4) (nxF g e (nxF g e (nxF g e F))) (nxE g e (nxF g e (nxF g e F)) (nxE g e (nxF g e F) (nxE g e F E))) fun F4 E4 => tN g e 1 9 F4 E4 fun n F5 E5 => .inr (dU (dU (dU D 2 (7 * a + b) n) 2 (7 * b + a) n) 0 3 (D.1 0 3 + 1), F5, E5))) := by
    intro c
    rw [if_pos c]
    unfold m91_60
    refine k_v ?_
    rw [ly.2.2.1]
    refine k_c p77 ?_
    rintro r z ⟨rfl, z5, z6, z3⟩
    exact k_d (Or.inl rfl) (k_r (cSt_bad fy' z5 z6 (fr_mono (fun a k z => Or.inl (by omega)) z3)))
  have rd := dy.2.2.1 a b a0 (by omega) b0 (by omega)
  have ri := hI.2.1 a b a0 (by omega) b0 (by omega)
  have e41 : m41 L a b y = some (if 0 < D.1 2 (7 * a + b) then 1 else 0, y) := by
    unfold m41
    rw [oZ_pos (by omega) (by omega), oZ_pos (by omega) (by omega), oX_pos (by omega) (by omega), oV_eq, show a * 7 + b = 7 * a + b by omega, rd]
    by_cases c : 0 < D.1 2 (7 * a + b)
    · rw [if_pos c, if_pos c, if_neg (by omega)]
    · rw [if_neg c, if_neg c, if_pos rfl]
  refine k_i (fun c => bad (Or.inl c)) (fun c => k_e e41 ?_)
  by_cases x : 0 < D.1 2 (7 * a + b)
  · rw [if_pos x]
    exact k_q (by decide) (bad (Or.inr x))
  · rw [if_neg x]
    refine k_p rfl ?_
    rw [if_neg (show ¬ (a = b ∨ 0 < D.1 2 (7 * a + b)) from fun z => z.elim c x)]
    refine k_c (p76a ht w2 ly (tkK_1 kb).1 (by omega)) ?_
    rintro _ z ⟨z1, z2, z3⟩
    have fz : FrK (clF L) s z := frk_trans fy' (frk_of (fr_mono (fun a k z => Or.inl z) z3))
    have dz : cDx L D (D.1 0 1) (D.1 0 2) z := cDx_fr (fun a k a0 a1 a2 => z3.1 a k (by omega)) dy
    refine cw_num ht (by omega) z2 z1 fz (fun q o q1 q9 o1 o2 o3 => ?_)
    have do' : cDx L D (D.1 0 1) (D.1 0 2) o := cDx_fr (fun a k a0 a1 a2 => o3.1 a k (by omega)) dz
    have fo : FrK (clF L) s o := frk_trans fz (frk_of (fr_mono (fun a k z => Or.inl z) o3))
    unfold m40
    refine k_c (Q := fun _ p => cD L (dU (dU (dU D 2 (7 * a + b) q.1) 2 (7 * b + a) q.1) 0 3 (D.1 0 3 + 1)) p ∧ Fr (fun x k => x = L + 7 ∨ (x = L ∧ k = 16)) o p) ?_ ?_
    · refine k_z (by omega) (by omega) (k_z (by omega) (by omega) (k_x (by omega) (by omega) (k_v (k_z (by omega) (by omega) (k_z (by omega) (by omega) (k_x (by omega) (by omega) (k_v (k_v ?_))))))))
      rw [show a * 7 + b = 7 * a + b by omega, show b * 7 + a = 7 * b + a by omega]
      rw [sI_a (by omega), sI_a (by omega), do'.1.1.2.2.2.1]
      have i3 := hI.1.2.2.2
      refine k_z (by omega) (by omega) (k_v (k_r ?_))
      generalize hp : sI (sI (sI o (L + 7) (7 * a + b) q.1) (L + 7) (7 * b + a) q.1) L 16 (D.1 0 3 + 1) = p
      have fp : Fr (fun x k => x = L + 7 ∨ (x = L ∧ k = 16)) o p := by rw [← hp]; exact fr_trans (fr_I (Or.inl rfl)) (fr_trans (fr_I (Or.inl rfl)) (fr_I (Or.inr ⟨rfl, rfl⟩)))
      have p16 : p.1 L 16 = D.1 0 3 + 1 := by rw [← hp, sI_e]
      have p7 : ∀ k, p.1 (L + 7) k = if k = 7 * b + a then q.1 else if k = 7 * a + b then q.1 else o.1 (L + 7) k := fun k => by
        rw [← hp, sI_a (by omega)]
        by_cases c1 : k = 7 * b + a
        · rw [c1, sI_e, if_pos rfl]
        · rw [sI_k c1, if_neg c1]
          by_cases c2 : k = 7 * a + b
          · rw [c2, sI_e, if_pos rfl]
          · rw [sI_k c2, if_neg c2]
      have po : ∀ x k, x ≠ L + 7 → ¬ (x = L ∧ k = 16) → p.1 x k = o.1 x k := fun x k h1 h2 => fp.1 x k (by omega)
      have e0 : ∀ k, k ≠ 3 → (dU (dU (dU D 2 (7 * a + b) q.1) 2 (7 * b + a) q.1) 0 3 (D.1 0 3 + 1)).1 0 k = D.1 0 k := fun k hk => by rw [dU_k hk, dU_r (by decide), dU_r (by decide)]
      have e3 : (dU (dU (dU D 2 (7 * a + b) q.1) 2 (7 * b + a) q.1) 0 3 (D.1 0 3 + 1)).1 0 3 = D.1 0 3 + 1 := dU_e
      have er : ∀ r k, r ≠ 0 → r ≠ 2 → (dU (dU (dU D 2 (7 * a + b) q.1) 2 (7 * b + a) q.1) 0 3 (D.1 0 3 + 1)).1 r k = D.1 r k := fun r k h0 h2 => by rw [dU_r h0, dU_r h2, dU_r h2]
      have e2 : ∀ k, (dU (dU (dU D 2 (7 * a + b) q.1) 2 (7 * b + a) q.1) 0 3 (D.1 0 3 + 1)).1 2 k = if k = 7 * b + a then q.1 else if k = 7 * a + b then q.1 else D.1 2 k := fun k => by rw [dU_r (by decide), dU_s, dU_s]
      have em : (dU (dU (dU D 2 (7 * a + b) q.1) 2 (7 * b + a) q.1) 0 3 (D.1 0 3 + 1)).2 = D.2 := rfl
      generalize dU (dU (dU D 2 (7 * a + b) q.1) 2 (7 * b + a) q.1) 0 3 (D.1 0 3 + 1) = X at *
      obtain ⟨⟨⟨h0, h1, h2, h3, h4⟩, m7, m8, m6⟩, ⟨n1, n2, n3⟩, r3, r4, r5, r6, r7, r8⟩ := do'
      refine ⟨⟨⟨⟨?_, ?_, ?_, ?_, ?_⟩, ?_, ?_, ?_⟩, ⟨fun w w0 w1 => ?_, fun w w0 w1 => ?_, fun w w0 w1 => ?_⟩, fun x y x0 x1 y0 y1 => ?_, fun p p0 p1 => ?_, fun w w0 w1 => ?_, ?_, ?_, ?_⟩, fp⟩
      · rw [po _ _ (by omega) (by omega), e0 0 (by decide)]; exact h0
      · rw [po _ _ (by omega) (by omega), e0 1 (by decide)]; exact h1
      · rw [po _ _ (by omega) (by omega), e0 2 (by decide)]; exact h2
      · rw [p16, e3]
      · rw [po _ _ (by omega) (by omega), em]; exact h4
      · rw [po _ _ (by omega) (by omega)]; exact m7
      · rw [po _ _ (by omega) (by omega)]; exact m8
      · rw [po _ _ (by omega) (by omega)]; exact m6
      · rw [e0 0 (by decide)] at w1
        rw [er 1 _ (by decide) (by decide)]
        exact nmRel_ext (fun k _ _ => (po _ _ (by omega) (by omega)).symm) (n1 w w0 w1)
      · rw [e0 1 (by decide)] at w1
        rw [er 1 _ (by decide) (by decide)]
        exact nmRel_ext (fun k _ _ => (po _ _ (by omega) (by omega)).symm) (n2 w w0 w1)
      · rw [e0 2 (by decide)] at w1
        rw [er 1 _ (by decide) (by decide)]
        exact nmRel_ext (fun k _ _ => (po _ _ (by omega) (by omega)).symm) (n3 w w0 w1)
      · rw [p7, e2]
        by_cases c1 : 7 * x + y = 7 * b + a
        · rw [if_pos c1, if_pos c1, if_pos (by omega)]
        · rw [if_neg c1, if_neg c1]
          by_cases c2 : 7 * x + y = 7 * a + b
          · rw [if_pos c2, if_pos c2, if_pos (by omega)]
          · rw [if_neg c2, if_neg c2]
            exact r3 x y x0 x1 y0 y1
      · rw [e0 1 (by decide)] at p1
        rw [po _ _ (by omega) (by omega), po _ _ (by omega) (by omega), po _ _ (by omega) (by omega), er 3 _ (by decide) (by decide), er 3 _ (by decide) (by decide), er 3 _ (by decide) (by decide)]
        exact r4 p p0 p1
      · rw [e0 2 (by decide)] at w1
        rw [po _ _ (by omega) (by omega), po _ _ (by omega) (by omega), po _ _ (by omega) (by omega), po _ _ (by omega) (by omega), er 4 _ (by decide) (by decide), er 4 _ (by decide) (by decide), er 4 _ (by decide) (by decide), er 5 _ (by decide) (by decide)]
        exact r5 w w0 w1
      · rw [po _ _ (by omega) (by omega), po _ _ (by omega) (by omega), po _ _ (by omega) (by omega), er 6 _ (by decide) (by decide), er 6 _ (by decide) (by decide), er 6 _ (by decide) (by decide)]
        exact r6
      · rw [em]; exact ⟨by rw [po _ _ (by omega) (by omega)]; exact r7.1, fun i hi => by rw [po _ _ (by omega) (by omega)]; exact r7.2 i hi⟩
      · rw [em]; exact ⟨by rw [po _ _ (by omega) (by omega)]; exact r8.1, fun i hi => by rw [po _ _ (by omega) (by omega)]; exact r8.2 i hi⟩
    · rintro _ p ⟨p1, p2⟩
      exact k_r ⟨rfl, p1, cLx_fr (fun a k z => by omega) p2 o1, frk_trans fo (frk_of (fr_mono (fun a k z => by omega) p2))⟩
end
