/-! ===== the class reads a PART, a FACT, all ===== -/
theorem qF_in {g : Int → Int} {e F E : Int} {ask : Bool} : qF g e ask F E = -1 ∨ (0 ≤ qF g e ask F E ∧ qF g e ask F E ≤ 8 ∧ tkK g e F E = 1 ∧ (ask = false → qF g e ask F E ≤ 4)) := by
  unfold qF
  have w : ∀ k, isW g e F E (sL k) = true → tkK g e F E = 1 := fun k z => (isW_t z).1
  by_cases c1 : isW g e F E (sL 19) = true
  · rw [if_pos c1]; exact Or.inr ⟨by omega, by omega, w _ c1, fun _ => by omega⟩
  rw [if_neg c1]
  by_cases c2 : isW g e F E (sL 20) = true
  · rw [if_pos c2]; exact Or.inr ⟨by omega, by omega, w _ c2, fun _ => by omega⟩
  rw [if_neg c2]
  by_cases c3 : isW g e F E (sL 21) = true
  · rw [if_pos c3]; exact Or.inr ⟨by omega, by omega, w _ c3, fun _ => by omega⟩
  rw [if_neg c3]
  by_cases c4 : isW g e F E (sL 22) = true
  · rw [if_pos c4]; exact Or.inr ⟨by omega, by omega, w _ c4, fun _ => by omega⟩
  rw [if_neg c4]
  by_cases c5 : isW g e F E (sL 23) = true
  · rw [if_pos c5]; exact Or.inr ⟨by omega, by omega, w _ c5, fun _ => by omega⟩
  rw [if_neg c5]
  by_cases c0 : ask = true
  · rw [if_pos c0]
    by_cases c6 : isW g e F E (sL 24) = true
    · rw [if_pos c6]; exact Or.inr ⟨by omega, by omega, w _ c6, fun z => by rw [c0] at z; exact absurd z (by decide)⟩
    rw [if_neg c6]
    by_cases c7 : isW g e F E (sL 25) = true
    · rw [if_pos c7]; exact Or.inr ⟨by omega, by omega, w _ c7, fun z => by rw [c0] at z; exact absurd z (by decide)⟩
    rw [if_neg c7]
    by_cases c8 : isW g e F E (sL 26) = true
    · rw [if_pos c8]; exact Or.inr ⟨by omega, by omega, w _ c8, fun z => by rw [c0] at z; exact absurd z (by decide)⟩
    rw [if_neg c8]
    by_cases c9 : isW g e F E (sL 27) = true
    · rw [if_pos c9]; exact Or.inr ⟨by omega, by omega, w _ c9, fun z => by rw [c0] at z; exact absurd z (by decide)⟩
    rw [if_neg c9]
    exact Or.inl rfl
  · rw [if_neg c0]; exact Or.inl rfl
theorem qX_in {g : Int → Int} {e F : Int} : qX g e F = -1 ∨ (7 ≤ qX g e F ∧ qX g e F ≤ 9 ∧ F < e ∧ kindB (g F) = 3) := by
  unfold qX
  by_cases c1 : F < e ∧ g F = 60
  · rw [if_pos c1]; exact Or.inr ⟨by omega, by omega, c1.1, by rw [c1.2]; decide⟩
  rw [if_neg c1]
  by_cases c2 : F < e ∧ g F = 62
  · rw [if_pos c2]; exact Or.inr ⟨by omega, by omega, c2.1, by rw [c2.2]; decide⟩
  rw [if_neg c2]
  by_cases c3 : F < e ∧ g F = 61
  · rw [if_pos c3]; exact Or.inr ⟨by omega, by omega, c3.1, by rw [c3.2]; decide⟩
  rw [if_neg c3]
  exact Or.inl rfl
section
variable {g : Int → Int} {e : Int} {b : Nat} {ask : Bool} {f : Int → Int → zS → Option (Int × zS)} {rd : Int → Int → Int → Int → qR} {n : Int} {o F E : Int} {s : zS} {K : List Int}
/-- a fact's name is taken -/
theorem p33_209 (hb : b = 5 ∨ 60 ≤ b) (ht : tOk g e) (h : cG g e b ask F E K s) {x2 : Int} (hx : x2 = if qF g e ask F E = -1 then -1 else fIx (qF g e ask F E)) : Ok (m33_209 f x2 s) (cQ g e b ask s K (if qF g e ask F E = -1 then .inl (1, F) else .inr (nxF g e F, nxE g e F E, [40 + qF g e ask F E]))) := by
  unfold m33_209
  by_cases z : qF g e ask F E = -1
  · rw [if_pos z] at hx ⊢
    rw [hx]
    refine k_p rfl (k_c (p78g h) ?_)
    rintro r t ⟨rfl, t1⟩
    exact k_d (Or.inl rfl) (k_r ⟨rfl, t1⟩)
  · rw [if_neg z] at hx ⊢
    obtain ⟨q1, q2, q3, _⟩ := (qF_in (g := g) (e := e) (F := F) (E := E) (ask := ask)).resolve_left z
    have fi := fIx_in q1 q2
    rw [hx]
    refine k_q (by omega) (k_c (cG_adv hb ht h (tkK_1 q3).1 (by omega)) ?_)
    rintro _ t ⟨t1, t2⟩
    have g1 := (nx_any h.1 (tkK_1 q3).1).2
    have g2 := h.2.2.2.1
    refine k_z (by omega) (by omega) (k_c (cG_w (c := 40 + qF g e ask F E) hb ht t1 (by omega) ?_) ?_)
    · rw [cDec_fact (by omega) (by omega), show 40 + qF g e ask F E - 40 = qF g e ask F E by omega]
    · rintro r u ⟨rfl, u1, u2⟩
      exact k_d (Or.inr rfl) (k_r ⟨rfl, u1, fr_trans t2 u2⟩)
theorem p33_187 (hb : b = 5 ∨ 60 ≤ b) (ht : tOk g e) (h : cG g e b ask F E K s) : Ok (m33_187 f s) (cQ g e b ask s K (if qF g e ask F E = -1 then .inl (1, F) else .inr (nxF g e F, nxE g e F E, [40 + qF g e ask F E]))) := by
  have end209 := fun x2 hx => p33_209 (f := f) (x2 := x2) hb ht h hx
  have hask := h.2.2.2.2
  unfold m33_187
  refine k_e (e36 ht h.1 h.2.1) ?_
  by_cases c1 : isW g e F E (sL 19) = true
  · rw [if_pos c1]
    exact k_q (by decide) (end209 3 (by unfold qF; rw [if_pos c1]; rfl))
  rw [if_neg c1]
  by_cases c2 : isW g e F E (sL 20) = true
  · rw [if_pos c2]
    exact k_q (by decide) (end209 4 (by unfold qF; rw [if_neg c1, if_pos c2]; rfl))
  rw [if_neg c2]
  by_cases c3 : isW g e F E (sL 21) = true
  · rw [if_pos c3]
    exact k_q (by decide) (end209 5 (by unfold qF; rw [if_neg c1, if_neg c2, if_pos c3]; rfl))
  rw [if_neg c3]
  by_cases c4 : isW g e F E (sL 22) = true
  · rw [if_pos c4]
    exact k_q (by decide) (end209 2 (by unfold qF; rw [if_neg c1, if_neg c2, if_neg c3, if_pos c4]; rfl))
  rw [if_neg c4]
  by_cases c5 : isW g e F E (sL 23) = true
  · rw [if_pos c5]
    exact k_q (by decide) (end209 6 (by unfold qF; rw [if_neg c1, if_neg c2, if_neg c3, if_neg c4, if_pos c5]; rfl))
  rw [if_neg c5]
  refine k_p rfl (k_v ?_)
  rw [hask]
  unfold akI
  by_cases c0 : ask = true
  · rw [if_pos c0]
    refine k_q (by decide) (k_e (e37 ht h.1 h.2.1) ?_)
    refine end209 _ ?_
    unfold qF
    rw [if_neg c1, if_neg c2, if_neg c3, if_neg c4, if_neg c5, if_pos c0]
    by_cases c6 : isW g e F E (sL 24) = true
    · rw [if_pos c6, if_pos c6]; rfl
    rw [if_neg c6, if_neg c6]
    by_cases c7 : isW g e F E (sL 25) = true
    · rw [if_pos c7, if_pos c7]; rfl
    rw [if_neg c7, if_neg c7]
    by_cases c8 : isW g e F E (sL 26) = true
    · rw [if_pos c8]; rfl
    rw [if_neg c8]
    by_cases c9 : isW g e F E (sL 27) = true
    · rw [if_pos c9]; rfl
    rw [if_neg c9]
    rfl
  · rw [if_neg c0]
    refine k_p rfl (end209 (-1) ?_)
    unfold qF
    rw [if_neg c1, if_neg c2, if_neg c3, if_neg c4, if_neg c5, if_neg c0]
    rfl
theorem isW_5 {l : List Int} (h : isW g e F E l = true) : tkK g e F E ≠ 5 := by rw [(isW_t h).1]; decide
theorem sg_5 {c : Int} (hc : kindB c = 3) (h : F < e ∧ g F = c) : tkK g e F E ≠ 5 := by rw [tkK_3 h.1 (by rw [h.2]; exact hc)]; decide
/-- a PART -/
theorem p33 (hb : b = 5 ∨ 60 ≤ b) (ht : tOk g e) (hf : cRd g e b ask f rd n) (o0 : 0 ≤ o) (o6 : o ≤ 6) (hn : 3 * (6 - o) + 1 ≤ n) (h : cG g e b ask F E K s) : Ok (m33 f o s) (cQ g e b ask s K (qP g e ask rd o F E)) := by
  have hK := h.2.2.2.1
  have hask := h.2.2.2.2
  unfold m33 qP
  refine k_v ?_
  rw [h.2.1.2.1]
  by_cases d1 : tkK g e F E = 2
  · have hp := p83 (lo := 0) (hi := 9999) ht h.1 h.2.1
    refine k_p d1 ?_
    rw [if_pos d1]
    rcases hz : lxNum g e F E 0 9999 with q | q
    · rw [hz] at hp
      refine k_c hp ?_
      rintro r t ⟨rfl, t1, t2, t3⟩
      exact k_p rfl (k_r ⟨rfl, t1, t2, fr_mono (fun a k z => Or.inl z) t3⟩)
    · rw [hz] at hp
      have hi := lxNum_in h.1 hz
      refine k_c hp ?_
      rintro r t ⟨rfl, t1, t2, t3⟩
      have ct : cG g e b ask q.2.1 q.2.2 K t := ⟨t2, t1, cS_fr (fun a k z => by omega) t3 h.2.2.1, by omega, by rw [t3.1 8 2 (by omega)]; exact hask⟩
      refine k_q (by omega) (kB1 (cG_w (c := 1000 + q.1) hb ht ct (by omega) (by rw [cDec_num (by omega)]; omega)) (fun u hu => k_r ⟨rfl, hu.1, fr_trans (fr_mono (fun a k z => Or.inl z) t3) hu.2⟩))
  refine k_q d1 ?_
  rw [if_neg d1]
  refine k_e (e79 ht h.1 h.2.1 (by decide)) ?_
  by_cases d2 : F < e ∧ g F = 40
  · rw [if_pos d2, if_pos d2]
    refine k_q (by decide) ?_
    unfold qO
    by_cases oo : o < 6
    · rw [if_pos oo]
      dsimp only
      refine kB1 (p35t hb ht h d2.1 (sg_5 (by decide) d2) oo) (fun t ht' => k_z (by omega) (by omega) ?_)
      have hr := hf.1 3 (o + 1) _ _ K t (by omega) (by omega) (by omega) (by omega) (by omega) ht'.1
      rcases hy : rd 3 (o + 1) (nxF g e F) (nxE g e F E) with q | q
      · rw [hy] at hr
        exact kB0 hr (fun v hv => ⟨rfl, hv.1, hv.2.1, frx ht'.2 hv.2.2⟩)
      · rw [hy] at hr
        refine kB1 hr (fun v hv => ?_)
        show Ok _ (cQ g e b ask s K (if q.1 < e ∧ g q.1 = 41 then .inr (nxF g e q.1, nxE g e q.1 q.2.1, q.2.2) else .inl (1, q.1)))
        by_cases x : q.1 < e ∧ g q.1 = 41
        · rw [if_pos x]
          exact kB1 (p81t hb ht hv.1 (by decide) x) (fun w hw => k_r ⟨rfl, hw.1, fr_trans ht'.2 (fr_trans hv.2 hw.2)⟩)
        · rw [if_neg x]
          exact kB0 (p81f ht hv.1 (by decide) x) (fun w hw => ⟨rfl, hw.1, hw.2.1, frx ht'.2 (frx hv.2 hw.2.2)⟩)
    · rw [if_neg oo]
      exact kB0 (p35f h oo) (fun t ht' => ⟨rfl, ht'⟩)
  rw [if_neg d2, if_neg d2]
  refine k_p rfl (k_e (e80 ht h.1 h.2.1 16) ?_)
  by_cases d3 : isW g e F E (sL 16) = true
  · rw [if_pos d3, if_pos d3]
    exact k_q (by decide) (kD (p34 (act := 5) hb ht hf o0 o6 hn h (isW_t d3).1 (by omega) (by omega)) (fun r t q => cQ_01 q))
  rw [if_neg d3, if_neg d3]
  refine k_p rfl (k_e (e80 ht h.1 h.2.1 17) ?_)
  by_cases d4 : isW g e F E (sL 17) = true
  · rw [if_pos d4, if_pos d4]
    exact k_q (by decide) (kD (p34 (act := 6) hb ht hf o0 o6 hn h (isW_t d4).1 (by omega) (by omega)) (fun r t q => cQ_01 q))
  rw [if_neg d4, if_neg d4]
  refine k_p rfl (k_v ?_)
  rw [hask]
  have rest := p33_187 (f := f) hb ht h
  unfold akI
  by_cases d0 : ask = true
  · rw [if_pos d0]
    refine k_q (by decide) (k_e (e80 ht h.1 h.2.1 18) ?_)
    by_cases d5 : isW g e F E (sL 18) = true
    · rw [if_pos d5]
      refine k_q (by decide) ?_
      rw [if_pos (show ask = true ∧ isW g e F E (sL 18) = true from ⟨d0, d5⟩)]
      unfold qO
      by_cases oo : o < 6
      · rw [if_pos oo]
        dsimp only
        refine kB1 (p35t hb ht h (isW_F d5) (isW_5 d5) oo) (fun t ht' => k_z (by omega) (by omega) ?_)
        have g1 := (nx_any h.1 (isW_F d5)).2
        have hr := hf.1 5 (o + 1) _ _ K t (by omega) (by omega) (by omega) (by omega) (by omega) ht'.1
        rcases hy : rd 5 (o + 1) (nxF g e F) (nxE g e F E) with q | q
        · rw [hy] at hr
          exact kB0 hr (fun v hv => ⟨rfl, hv.1, hv.2.1, frx ht'.2 hv.2.2⟩)
        · rw [hy] at hr
          have hl := (hf.2 _ _ _ _ _ hy ht'.1.1).2.1
          refine kB1 hr (fun v hv => kB1 (cG_w (c := 60) hb ht hv.1 ?_ (by decide)) (fun w hw => k_r ⟨rfl, ?_, fr_trans ht'.2 (fr_trans hv.2 hw.2)⟩))
          · simp only [List.length_append]; omega
          · have := hw.1
            rw [List.append_assoc] at this
            exact this
      · rw [if_neg oo]
        exact kB0 (p35f h oo) (fun t ht' => ⟨rfl, ht'⟩)
    · rw [if_neg d5]
      refine k_p rfl ?_
      rw [if_neg (show ¬ (ask = true ∧ isW g e F E (sL 18) = true) from fun z => d5 z.2)]
      exact rest
  · rw [if_neg d0]
    refine k_p rfl ?_
    rw [if_neg (show ¬ (ask = true ∧ isW g e F E (sL 18) = true) from fun z => d0 z.1)]
    exact rest
/-- what is compared -/
theorem p32 (hb : b = 5 ∨ 60 ≤ b) (ht : tOk g e) (hf : cRd g e b ask f rd n) (o0 : 0 ≤ o) (o6 : o ≤ 6) (hn : 3 * (6 - o) + 4 ≤ n) (h : cG g e b ask F E K s) : Ok (m32 f o s) (cQ g e b ask s K (qB (rd 3 o F E) fun F1 E1 l => if qX g e F1 = -1 then .inl (1, F1) else qB (rd 3 o (nxF g e F1) (nxE g e F1 E1)) fun F2 E2 l' => .inr (F2, E2, l ++ (l' ++ [qX g e F1])))) := by
  have hK := h.2.2.2.1
  unfold m32
  have hr := hf.1 3 o _ _ K s (by omega) (by omega) (by omega) (by omega) (by omega) h
  rcases hy : rd 3 o F E with q | q
  · rw [hy] at hr
    exact kB0 hr (fun v hv => ⟨rfl, hv⟩)
  · rw [hy] at hr
    have hl := (hf.2 _ _ _ _ _ hy h.1).2.1
    refine kB1 hr (fun t ht' => ?_)
    show Ok _ (cQ g e b ask s K (if qX g e q.1 = -1 then .inl (1, q.1) else qB (rd 3 o (nxF g e q.1) (nxE g e q.1 q.2.1)) fun F2 E2 l' => .inr (F2, E2, q.2.2 ++ (l' ++ [qX g e q.1]))))
    have go : ∀ y0, y0 = (if qX g e q.1 = -1 then -1 else 19999 + qX g e q.1) → Ok (m32_66 f o y0 t) (cQ g e b ask s K (if qX g e q.1 = -1 then .inl (1, q.1) else qB (rd 3 o (nxF g e q.1) (nxE g e q.1 q.2.1)) fun F2 E2 l' => .inr (F2, E2, q.2.2 ++ (l' ++ [qX g e q.1])))) := by
      intro y0 e0
      unfold m32_66
      by_cases z : qX g e q.1 = -1
      · rw [if_pos z] at e0 ⊢
        refine k_p e0 (k_c (p78g ht'.1) ?_)
        rintro r u ⟨rfl, u1, u2, u3⟩
        exact k_d (Or.inl rfl) (k_r ⟨rfl, u1, u2, frx ht'.2 u3⟩)
      · rw [if_neg z] at e0 ⊢
        obtain ⟨x1, x2, x3, x4⟩ := (qX_in (g := g) (e := e) (F := q.1)).resolve_left z
        refine k_q (by omega) (k_c (cG_adv hb ht ht'.1 x3 (by rw [tkK_3 x3 x4]; decide)) ?_)
        rintro _ u ⟨u1, u2⟩
        have g1 := (nx_any ht'.1.1 x3).2
        have hr' := hf.1 3 o _ _ (K ++ q.2.2) u (by omega) (by omega) (by omega) (by omega) (by omega) u1
        rcases hy' : rd 3 o (nxF g e q.1) (nxE g e q.1 q.2.1) with q' | q'
        · rw [hy'] at hr'
          exact kB0 hr' (fun v hv => ⟨rfl, hv.1, hv.2.1, frx ht'.2 (frx u2 hv.2.2)⟩)
        · rw [hy'] at hr'
          have hl' := (hf.2 _ _ _ _ _ hy' u1.1).2.1
          refine kB1 hr' (fun v hv => kB1 (cG_w (c := qX g e q.1) hb ht hv.1 ?_ (by rw [e0, cDec_op (by omega) (by omega)])) (fun w hw => k_r ⟨rfl, ?_, fr_trans ht'.2 (fr_trans u2 (fr_trans hv.2 hw.2))⟩))
          · simp only [List.length_append]; omega
          · have := hw.1
            rw [List.append_assoc, List.append_assoc] at this
            exact this
    refine k_e (e79 ht ht'.1.1 ht'.1.2.1 (by decide)) ?_
    by_cases c1 : q.1 < e ∧ g q.1 = 60
    · rw [if_pos c1]
      exact k_q (by decide) (go 20006 (by unfold qX; rw [if_pos c1]; rfl))
    rw [if_neg c1]
    refine k_p rfl (k_e (e79 ht ht'.1.1 ht'.1.2.1 (by decide)) ?_)
    by_cases c2 : q.1 < e ∧ g q.1 = 62
    · rw [if_pos c2]
      exact k_q (by decide) (go 20007 (by unfold qX; rw [if_neg c1, if_pos c2]; rfl))
    rw [if_neg c2]
    refine k_p rfl (k_e (e79 ht ht'.1.1 ht'.1.2.1 (by decide)) ?_)
    by_cases c3 : q.1 < e ∧ g q.1 = 61
    · rw [if_pos c3]
      exact k_q (by decide) (go 20008 (by unfold qX; rw [if_neg c1, if_neg c2, if_pos c3]; rfl))
    rw [if_neg c3]
    exact k_p rfl (go (-1) (by unfold qX; rw [if_neg c1, if_neg c2, if_neg c3]; rfl))
/-- a FACT -/
theorem p31 (hb : b = 5 ∨ 60 ≤ b) (ht : tOk g e) (hf : cRd g e b ask f rd n) (o0 : 0 ≤ o) (o6 : o ≤ 6) (hn : 3 * (6 - o) + 4 ≤ n) (h : cG g e b ask F E K s) : Ok (m31 f o s) (cQ g e b ask s K (qK g e rd o F E)) := by
  have hK := h.2.2.2.1
  unfold m31 qK
  refine k_e (e80 ht h.1 h.2.1 14) ?_
  by_cases d1 : isW g e F E (sL 14) = true
  · rw [if_pos d1, if_pos d1]
    refine k_q (by decide) ?_
    unfold qO
    by_cases oo : o < 6
    · rw [if_pos oo]
      dsimp only
      refine kB1 (p35t hb ht h (isW_F d1) (isW_5 d1) oo) (fun t ht' => k_z (by omega) (by omega) ?_)
      have g1 := (nx_any h.1 (isW_F d1)).2
      have hr := hf.1 2 (o + 1) _ _ K t (by omega) (by omega) (by omega) (by omega) (by omega) ht'.1
      rcases hy : rd 2 (o + 1) (nxF g e F) (nxE g e F E) with q | q
      · rw [hy] at hr
        exact kB0 hr (fun v hv => ⟨rfl, hv.1, hv.2.1, frx ht'.2 hv.2.2⟩)
      · rw [hy] at hr
        have hl := (hf.2 _ _ _ _ _ hy ht'.1.1).2.1
        refine kB1 hr (fun v hv => kB1 (cG_w (c := 12) hb ht hv.1 ?_ (by decide)) (fun w hw => k_r ⟨rfl, ?_, fr_trans ht'.2 (fr_trans hv.2 hw.2)⟩))
        · simp only [List.length_append]; omega
        · have := hw.1
          rw [List.append_assoc] at this
          exact this
    · rw [if_neg oo]
      exact kB0 (p35f h oo) (fun t ht' => ⟨rfl, ht'⟩)
  rw [if_neg d1, if_neg d1]
  refine k_p rfl (k_e (e79 ht h.1 h.2.1 (by decide)) ?_)
  by_cases d2 : F < e ∧ g F = 91
  · rw [if_pos d2, if_pos d2]
    refine k_q (by decide) ?_
    unfold qO
    by_cases oo : o < 6
    · rw [if_pos oo]
      dsimp only
      refine kB1 (p35t hb ht h d2.1 (sg_5 (by decide) d2) oo) (fun t ht' => k_z (by omega) (by omega) ?_)
      have hr := hf.1 0 (o + 1) _ _ K t (by omega) (by omega) (by omega) (by omega) (by omega) ht'.1
      rcases hy : rd 0 (o + 1) (nxF g e F) (nxE g e F E) with q | q
      · rw [hy] at hr
        exact kB0 hr (fun v hv => ⟨rfl, hv.1, hv.2.1, frx ht'.2 hv.2.2⟩)
      · rw [hy] at hr
        refine kB1 hr (fun v hv => ?_)
        show Ok _ (cQ g e b ask s K (if q.1 < e ∧ g q.1 = 93 then .inr (nxF g e q.1, nxE g e q.1 q.2.1, q.2.2) else .inl (1, q.1)))
        by_cases x : q.1 < e ∧ g q.1 = 93
        · rw [if_pos x]
          exact kB1 (p81t hb ht hv.1 (by decide) x) (fun w hw => k_r ⟨rfl, hw.1, fr_trans ht'.2 (fr_trans hv.2 hw.2)⟩)
        · rw [if_neg x]
          exact kB0 (p81f ht hv.1 (by decide) x) (fun w hw => ⟨rfl, hw.1, hw.2.1, frx ht'.2 (frx hv.2 hw.2.2)⟩)
    · rw [if_neg oo]
      exact kB0 (p35f h oo) (fun t ht' => ⟨rfl, ht'⟩)
  rw [if_neg d2, if_neg d2]
  refine k_p rfl (k_e (e80 ht h.1 h.2.1 15) ?_)
  by_cases d3 : isW g e F E (sL 15) = true
  · rw [if_pos d3, if_pos d3]
    have g1 := (nx_any h.1 (isW_F d3)).2
    refine k_q (by decide) (k_c (cG_adv hb ht h (isW_F d3) (isW_5 d3)) ?_)
    rintro _ t ⟨t1, t2⟩
    refine k_c (cG_w (c := 13) hb ht t1 (by omega) (by decide)) ?_
    rintro r u ⟨rfl, u1, u2⟩
    exact k_d (Or.inr rfl) (k_r ⟨rfl, u1, fr_trans t2 u2⟩)
  rw [if_neg d3, if_neg d3]
  exact k_p rfl (kD (p32 hb ht hf o0 o6 hn h) (fun r t q => cQ_01 q))
end
/-- the class's reader -/
theorem pM29 {g : Int → Int} {e : Int} {b : Nat} {ask : Bool} (hb : b = 5 ∨ 60 ≤ b) (ht : tOk g e) : ∀ n : Nat, cRd g e b ask (M29 n) (qM g e ask n) (n : Int) := by
  intro n
  induction n with
  | zero => exact ⟨fun lv o F E K s _ _ _ _ h => by omega, fun lv o F E q h hW => qM_len 0 lv o F E q h hW⟩
  | succ n ih =>
    refine ⟨fun lv o F E K s v0 v5 o0 o6 hn h => ?_, fun lv o F E q h hW => qM_len (n + 1) lv o F E q h hW⟩
    show Ok (m29 (M29 n) lv o s) (cQ g e b ask s K (qT g e ask (qM g e ask n) lv o F E))
    unfold m29 qT
    by_cases c2 : lv = 2
    · rw [if_pos c2, if_pos c2]
      exact kD (p31 hb ht ih o0 o6 (by omega) h) (fun r t q => cQ_01 q)
    rw [if_neg c2, if_neg c2]
    by_cases c5 : lv < 5
    · rw [if_pos c5, if_pos c5]
      refine k_z (by omega) (by omega) ?_
      have hr := ih.1 (lv + 1) o F E K s (by omega) (by omega) o0 o6 (by omega) h
      rcases hy : qM g e ask n (lv + 1) o F E with q | q
      · rw [hy] at hr
        exact kB0 hr (fun v hv => ⟨rfl, hv⟩)
      · rw [hy] at hr
        refine kB1 hr (fun v hv => ?_)
        exact p29_37 hb ht ih (s0 := s) (K := K) v0 (by omega) o0 o6 (by omega) zFu 1600 0 q.1 q.2.1 q.2.2 v (by omega) (by omega) (by unfold zFu; omega) hv.1 hv.2
    · rw [if_neg c5, if_neg c5]
      exact kD (p33 hb ht ih o0 o6 (by omega) h) (fun r t q => cQ_01 q)
