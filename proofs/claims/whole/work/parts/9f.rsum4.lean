/-! ===== the reference reads a PART as the pure reader does ===== -/
section
variable {g : Int → Int} {e F E B o x1 : Int} {ask : Bool} {W C : List Int} {s t : zS} {Q : Int → zS → Prop} {rd : Int → Int → Int → Int → qR} {n1 n2 : Nat}
theorem rK5_fr {y : qR} (hf : Fr rqF s t) (h : rK5 g e ask B x1 W C o s Q y) : rK5 g e ask B x1 W C o t Q y := by
  rcases y with q | q
  · exact fun r u a b c => h r u a b (fF_tr hf c)
  · exact fun n1 n3 n4 u a b => h n1 n3 n4 u a (fr_trans hf b)
theorem rK3_fr {y : qR} (hf : Fr rqF s t) (h : rK3 g e ask B x1 W C o s Q y) : rK3 g e ask B x1 W C o t Q y := by
  rcases y with q | q
  · exact fun r u a b c => h r u a b (fF_tr hf c)
  · exact fun n1 n3 u pd C' a b => h n1 n3 u pd C' a (fr_trans hf b)
/-- a bracket is opened: the stack, then the tape -/
theorem rG_open {x : Int} {u v : zS} (h : rG g e ask B F E W C o s) (hs : rSt B (x :: W) C (o + 1) u) (hl : rLx g e (nxF g e F) (nxE g e F E) v) (hF : F < e) (ho : o < 6) (fu : Fr rkF s u) (fv : Fr yF u v) : rG g e ask B (nxF g e F) (nxE g e F E) (x :: W) C (o + 1) v := by
  have gx := nx_any h.1 hF
  have hlen := h.2.2.2.1
  have hB := h.2.2.2.2.2.1
  have hoo := h.2.2.2.2.2.2
  refine ⟨gx.1, hl, rSt_fr (fun a k z => by omega) fv hs, ?_, rX_fr (fr_trans (fr_mono (fun a k z => by omega) fu) (fr_mono (fun a k z => by omega) fv)) h.2.2.2.2.1, ⟨hB.1, ?_⟩, by omega, by omega⟩
  · rw [List.length_cons]; omega
  · rw [List.length_cons]; omega
/-- min, max behind its word -/
theorem u101 {x4 br act F1 E1 : Int} (ht : tOk g e) (h : rG g e ask B F1 E1 W C o s) (hx : (x4 = 0 ∧ br = 22 ∧ act = 6) ∨ (x4 = 1 ∧ br = 21 ∧ act = 5)) (f1 : 1700 ≤ ((n1 + 1 : Nat) : Int) + F1) (f2 : 1700 ≤ ((n2 + 1 : Nat) : Int) + F1) (h3 : o < 6 → rP3 g e ask x1 rd (o + 1)) (hlen : ∀ lv o F E q, rd lv o F E = .inr q → lxW g e F E → qLen g e F E q) (hK : rK5 g e ask B x1 W C o s Q (if F1 < e ∧ g F1 = 40 then qO g e o F1 E1 (fun F2 E2 => qB (rd 3 (o + 1) F2 E2) fun F3 E3 l => qS g e 44 F3 E3 fun F4 E4 => qB (rd 3 (o + 1) F4 E4) fun F5 E5 l' => qS g e 41 F5 E5 fun F6 E6 => .inr (F6, E6, l ++ (l' ++ [act]))) else .inl (1, F1))) : Ok (m259_101 (m259_2 (n2 + 1)) 1 x4 s) (fun _ v => Ok (uRest x1 (n1 + 1) v) Q) := by
  have hle := ht.2.1
  have hF0 := h.1.1
  have hFe := h.1.2.1
  unfold m259_101
  refine k_c (rG_look ht h) ?_
  rintro r t ⟨rfl, t2, t3, t4⟩
  have hK := rK5_fr t4 hK
  by_cases z : F1 < e ∧ g F1 = 40
  · have gx := nx_any h.1 z.1
    rw [if_pos z] at hK
    refine k_p (by unfold lkV; rw [if_pos z.1]; exact z.2) (k_v ?_)
    rw [t2]
    have body : Ok (m259_139 (m259_2 (n2 + 1)) 1 F1 br t) (fun _ v => Ok (uRest x1 (n1 + 1) v) Q) := by
      unfold m259_139
      have h16 := rG_len ht t3
      by_cases oo : o < 6
      · refine k_c (p249t t3.2.2.1 t3.2.1.2.1 oo t3.2.2.2.2.2.2.1 (by omega)) ?_
        rintro _ u ⟨u1, u2⟩
        have lu : rLx g e F1 E1 u := rLx_fr (A := rkF) (fun a k z => by omega) (frj_of u2) t3.2.1
        refine k_c (p161t ht t3.1 lu (by decide) z.1 z.2) ?_
        rintro _ v ⟨v1, v2⟩
        have gv := rG_open t3 u1 v1 z.1 oo u2 v2
        have fv : Fr rqF t v := fr_trans (rk_rq u2) (yF_rq v2)
        have hK := rK5_fr fv hK
        unfold qO at hK
        rw [if_pos oo] at hK
        dsimp only at hK
        refine ok_un (k := fun _ w => uRest x1 (n1 + 1) w) ?_
        show Ok (uPre x1 (n1 + 1) (n2 + 1) v) Q
        refine h3 oo B _ _ (br :: W) C (n1 + 1) (n2 + 1) v Q gv (by omega) (by omega) (by show br ≠ 1; omega) (by show br ≠ 2; omega) (by show br ≠ 3; omega) (by show br ≠ 4; omega) (by show br < 60; omega) ?_
        rcases hy : rd 3 (o + 1) (nxF g e F1) (nxE g e F1 E1) with q | q
        · rw [hy] at hK
          exact hK
        · rw [hy] at hK
          have hl := hlen _ _ _ _ _ hy gv.1
          have hl2 := hl.2.1
          intro n1' n3' w pd C' w1 w2 hC hp j3 j4 f1' f3'
          have hq0 := w1.1.1
          have hqe := w1.1.2.1
          have hB := h.2.2.2.2.2.1.2
          obtain ⟨n1', rfl⟩ : ∃ m, n1' = m + 1 := ⟨n1' - 1, by omega⟩
          obtain ⟨n3', rfl⟩ : ∃ m, n3' = m + 1 := ⟨n3' - 1, by omega⟩
          have hK : rK5 g e ask B x1 W C o v Q (qS g e 44 q.1 q.2.1 fun F4 E4 => qB (rd 3 (o + 1) F4 E4) fun F5 E5 l' => qS g e 41 F5 E5 fun F6 E6 => .inr (F6, E6, q.2.2 ++ (l' ++ [act]))) := hK
          unfold qS at hK
          by_cases y : q.1 < e ∧ g q.1 = 44
          · rw [if_pos y] at hK
            dsimp only at hK
            have gy := nx_any w1.1 y.1
            refine uComma ht w1 hB y (by omega) hp j3 j4 (fun w' w1' w2' => ?_)
            have hbr : br + 2 = 23 ∨ br + 2 = 24 := by omega
            refine h3 oo B _ _ ((br + 2) :: W) (C' ++ pd) n1' zFu w' Q w1' (by omega) (by have := w1'.1.1; unfold zFu; omega) (by show br + 2 ≠ 1; omega) (by show br + 2 ≠ 2; omega) (by show br + 2 ≠ 3; omega) (by show br + 2 ≠ 4; omega) (by show br + 2 < 60; omega) ?_
            rcases hy' : rd 3 (o + 1) (nxF g e q.1) (nxE g e q.1 q.2.1) with q' | q'
            · rw [hy'] at hK
              exact fun r u' a b c => hK r u' a b (fF_tr w2 (fF_tr w2' c))
            · rw [hy'] at hK
              have hl' := hlen _ _ _ _ _ hy' w1'.1
              intro n1'' n3'' y0 pd' C'' y1 y2 hC' hp' j3' j4' f1'' f3''
              have hK : rK5 g e ask B x1 W C o v Q (if q'.1 < e ∧ g q'.1 = 41 then .inr (nxF g e q'.1, nxE g e q'.1 q'.2.1, q.2.2 ++ (q'.2.2 ++ [act])) else .inl (1, q'.1)) := hK
              have hq0' := y1.1.1
              have hqe' := y1.1.2.1
              obtain ⟨n1'', rfl⟩ : ∃ m, n1'' = m + 1 := ⟨n1'' - 1, by omega⟩
              obtain ⟨n3'', rfl⟩ : ∃ m, n3'' = m + 1 := ⟨n3'' - 1, by omega⟩
              by_cases x : q'.1 < e ∧ g q'.1 = 41
              · rw [if_pos x] at hK
                have gz := nx_any y1.1 x.1
                refine uClose ht y1 hB x (by omega) hp' (by have := h.2.2.2.2.2.2; omega) (fun a a1 a2 => ?_)
                refine hK (n1'' + 1) n3'' zFu a ?_ (fr_trans w2 (fr_trans w2' (fr_trans y2 a2))) (by show 1700 ≤ ((n1'' + 1 : Nat) : Int) + nxF g e q'.1; omega) (by show 1700 ≤ (n3'' : Int) + nxF g e q'.1; omega) (by have h16' := rG_len ht a1; unfold zFu; omega)
                have ec : C'' ++ (pd' ++ ccB (br + 2)) = C ++ (q.2.2 ++ (q'.2.2 ++ [act])) := by
                  have : ccB (br + 2) = [act] := by
                    unfold ccB
                    rcases hx with hx | hx
                    · rw [hx.2.1, hx.2.2]; rfl
                    · rw [hx.2.1, hx.2.2]; rfl
                  rw [this, ← List.append_assoc, hC', hC]
                  simp only [List.append_assoc]
                rw [ec, show o + 1 - 1 = o by omega] at a1
                exact a1
              · rw [if_neg x] at hK
                exact uOpen ht y1 hB x (by omega) hp' j3' j4' (fun r a b c d => hK r a b c (fF_tr w2 (fF_tr w2' (fF_tr y2 d))))
          · rw [if_neg y] at hK
            exact uNoComma ht w1 hB y (by omega) hp j3 j4 (fun r a b c d => hK r a b c (fF_tr w2 d))
      · refine k_c (p249f t3.2.2.1 t3.2.1.2.1 (by have := h.2.2.2.2.2.2; omega)) ?_
        rintro _ u ⟨u1, u2, u3⟩
        have e161 : m161 40 u = some (0, u) := by unfold m161; rw [oV_eq, u1, if_neg (by decide)]
        unfold qO at hK
        rw [if_neg oo] at hK
        refine k_e e161 (u_badP (by decide) u1 u2 (f56_rq u3) (rG_100 ht t3 (u3.1 209 100 (by omega))) hK)
    unfold m259_118
    refine k_q (by omega) ?_
    rcases hx with hx | hx
    · refine k_p hx.1 ?_
      rw [hx.2.1] at body
      exact body
    · refine k_q (by omega) ?_
      rw [hx.2.1] at body
      exact body
  · rw [if_neg z] at hK
    refine k_q (fun y => z ?_) ?_
    · unfold lkV at y
      by_cases f : F1 < e
      · rw [if_pos f] at y; exact ⟨f, y⟩
      · rw [if_neg f] at y; omega
    · unfold m259_118
      refine k_p rfl (k_c (p161f ht t3.2.1 (by decide) z) ?_)
      rintro _ u ⟨u1, u2, u3⟩
      exact u_badP (by decide) u1 u2 (yf_rq u3) (rG_100 ht t3 (u3.1 209 100 (by omega))) hK
theorem lk_w {l : List Int} (h : isW g e F E l = true) : lkV g e F ≠ 40 := by
  obtain ⟨k1, k2, _⟩ := tkK_1 (isW_t h).1
  unfold lkV
  rw [if_pos k1]
  have := kB_1.mp k2
  omega
theorem rP5_of (ht : tOk g e) (h3 : o < 6 → rP3 g e ask x1 rd (o + 1)) (h5 : o < 6 → rP5 g e ask x1 rd (o + 1)) (hlen : ∀ lv o F E q, rd lv o F E = .inr q → lxW g e F E → qLen g e F E q) : rP5 g e ask x1 (qT g e ask rd) o := by
  intro B F E W C n1 n2 s Q h f1 f2 hK
  have hle := ht.2.1
  have hF0 := h.1.1
  have hFe := h.1.2.1
  have hoo := h.2.2.2.2.2.2
  have eq : qT g e ask rd 5 o F E = qP g e ask rd o F E := by
    unfold qT
    rw [if_neg (by decide), if_neg (by decide)]
  rw [eq] at hK
  obtain ⟨n1, rfl⟩ : ∃ m, n1 = m + 1 := ⟨n1 - 1, by omega⟩
  obtain ⟨n2, rfl⟩ : ∃ m, n2 = m + 1 + 1 := ⟨n2 - 2, by omega⟩
  unfold uPre
  refine k_c (Q := fun _ v => Ok (uRest x1 (n1 + 1) v) Q) ?_ (fun r v q => q)
  rw [m259_2]
  refine k_q (by decide) (k_v ?_)
  rw [h.2.1.2.1]
  refine k_p rfl (k_c (rG_look ht h) ?_)
  rintro r t ⟨rfl, t2, t3, t4⟩
  refine k_c (p256_9 ht t3) ?_
  rintro z7 u ⟨rfl, u2, u3, u4⟩
  have hK := rK5_fr (fr_trans t4 u4) hK
  have h16 := rG_len ht u3
  unfold qP at hK
  by_cases d2 : F < e ∧ g F = 40
  · -- a bracket
    have gx := nx_any h.1 d2.1
    rw [if_neg (by rw [tkK_3 d2.1 (by rw [d2.2]; decide)]; decide), if_pos d2] at hK
    refine k_p (by unfold lkV; rw [if_pos d2.1]; exact d2.2) (k_v ?_)
    rw [u2]
    unfold qO at hK
    by_cases oo : o < 6
    · rw [if_pos oo] at hK
      dsimp only at hK
      refine k_c (p249t u3.2.2.1 u3.2.1.2.1 oo hoo.1 (by omega)) ?_
      rintro _ v ⟨v1, v2⟩
      refine k_v ?_
      rw [v2.1 209 2 (by omega), u2]
      refine k_z (by omega) (by omega) (k_v ?_)
      have lv : rLx g e F E v := rLx_fr (A := rkF) (fun a k z => by omega) (frj_of v2) u3.2.1
      have gw := rG_open u3 v1 (rLx_sign h.1 d2.1 (by rw [d2.2]; decide) lv) d2.1 oo v2 (fr_I (by omega))
      have fw : Fr rqF u (sI v 209 2 (F + 1)) := fr_trans (rk_rq v2) (fr_I (by omega))
      generalize sI v 209 2 (F + 1) = w at *
      have hK := rK5_fr fw hK
      refine ok_un (k := fun _ w => uRest x1 (n1 + 1) w) ?_
      show Ok (uPre x1 (n1 + 1) (n2 + 1) w) Q
      refine h3 oo B _ _ (20 :: W) C (n1 + 1) (n2 + 1) w Q gw (by omega) (by omega) (by show (20 : Int) ≠ 1; decide) (by show (20 : Int) ≠ 2; decide) (by show (20 : Int) ≠ 3; decide) (by show (20 : Int) ≠ 4; decide) (by show (20 : Int) < 60; decide) ?_
      rcases hy : rd 3 (o + 1) (nxF g e F) (nxE g e F E) with q | q
      · rw [hy] at hK
        exact hK
      · rw [hy] at hK
        intro n1' n3' y0 pd C' y1 y2 hC hp j3 j4 f1' f3'
        have hK : rK5 g e ask B x1 W C o w Q (if q.1 < e ∧ g q.1 = 41 then .inr (nxF g e q.1, nxE g e q.1 q.2.1, q.2.2) else .inl (1, q.1)) := hK
        have hq0 := y1.1.1
        have hqe := y1.1.2.1
        have hB := h.2.2.2.2.2.1.2
        obtain ⟨n1', rfl⟩ : ∃ m, n1' = m + 1 := ⟨n1' - 1, by omega⟩
        obtain ⟨n3', rfl⟩ : ∃ m, n3' = m + 1 := ⟨n3' - 1, by omega⟩
        by_cases x : q.1 < e ∧ g q.1 = 41
        · rw [if_pos x] at hK
          have gz := nx_any y1.1 x.1
          refine uClose ht y1 hB x (Or.inl rfl) hp (by omega) (fun a a1 a2 => ?_)
          refine hK (n1' + 1) n3' zFu a ?_ (fr_trans y2 a2) (by show 1700 ≤ ((n1' + 1 : Nat) : Int) + nxF g e q.1; omega) (by show 1700 ≤ (n3' : Int) + nxF g e q.1; omega) (by have h16' := rG_len ht a1; unfold zFu; omega)
          have ec : C' ++ (pd ++ ccB 20) = C ++ q.2.2 := by
            have : ccB 20 = [] := rfl
            rw [this, List.append_nil, hC]
          rw [ec, show o + 1 - 1 = o by omega] at a1
          exact a1
        · rw [if_neg x] at hK
          exact uOpen ht y1 hB x (Or.inl rfl) hp j3 j4 (fun r a b c d => hK r a b c (fF_tr y2 d))
    · rw [if_neg oo] at hK
      refine k_c (p249f u3.2.2.1 u3.2.1.2.1 (by omega)) ?_
      rintro _ v ⟨v1, v2, v3⟩
      refine k_v ?_
      rw [v3.1 209 2 (by omega), u2]
      refine k_z (by omega) (by omega) (k_v ?_)
      exact u_badP (w := 4) (p := F) (by decide) (by rw [sI_k (by omega)]; exact v1) (by rw [sI_k (by omega)]; exact v2) (fr_trans (f56_rq v3) (fr_I (by omega))) (rG_100 ht u3 (by rw [sI_k (by omega)]; exact v3.1 209 100 (by omega))) hK
  · -- no bracket
    have nlk : lkV g e F ≠ 40 := by
      intro y
      unfold lkV at y
      by_cases f : F < e
      · rw [if_pos f] at y; exact d2 ⟨f, y⟩
      · rw [if_neg f] at y; omega
    refine k_q nlk (k_c (rG_here ht u3 (k := 16) (by decide) (by decide) (by decide)) ?_)
    rintro z19 v ⟨rfl, v2, v3, v4⟩
    have hK := rK5_fr v4 hK
    by_cases d3 : isW g e F E (sL 16) = true
    · rw [if_pos d3]
      have k1 := (isW_t d3).1
      have gx := nx_any h.1 (isW_F d3)
      rw [if_neg (by omega), if_neg d2, if_pos d3] at hK
      unfold qC at hK
      refine k_q (by decide) ?_
      unfold m259_78
      refine k_c (rG_take ht v3 (k := 16) (by decide) (by decide) (by decide) d3) ?_
      rintro r w ⟨rfl, w1, w2⟩
      exact k_q (by decide) (u101 (act := 5) ht w1 (Or.inr ⟨rfl, rfl, rfl⟩) (by omega) (by omega) h3 hlen (rK5_fr w2 hK))
    rw [if_neg d3]
    refine k_p rfl (k_c (rG_here ht v3 (k := 17) (by decide) (by decide) (by decide)) ?_)
    rintro z23 w ⟨rfl, w2, w3, w4⟩
    have hK := rK5_fr w4 hK
    by_cases d4 : isW g e F E (sL 17) = true
    · rw [if_pos d4]
      have k1 := (isW_t d4).1
      have gx := nx_any h.1 (isW_F d4)
      rw [if_neg (by omega), if_neg d2, if_neg d3, if_pos d4] at hK
      unfold qC at hK
      refine k_q (by decide) ?_
      unfold m259_78
      refine k_c (rG_notake ht w3 (k := 16) (by decide) (by decide) (by decide) (by rw [Bool.not_eq_true] at d3; exact d3)) ?_
      rintro r y ⟨rfl, y1, y2, y3⟩
      refine k_p rfl (k_c (rG_asks ht y2 (k := 17) (by decide) (by decide) (by decide) d4) ?_)
      rintro _ a ⟨a1, a2⟩
      exact u101 (act := 6) ht a1 (Or.inl ⟨rfl, rfl, rfl⟩) (by omega) (by omega) h3 hlen (rK5_fr (fr_trans y3 a2) hK)
    rw [if_neg d4]
    refine k_p rfl ?_
    by_cases d5 : ask = true ∧ isW g e F E (sL 18) = true
    · rw [if_pos d5]
      have k1 := (isW_t d5.2).1
      have gx := nx_any h.1 (isW_F d5.2)
      rw [if_neg (by omega), if_neg d2, if_neg d3, if_neg d4, if_pos d5] at hK
      refine k_q (by decide) (k_z (by decide) (by decide) (k_z (by decide) (by decide) (k_v ?_)))
      rw [w2]
      unfold qO at hK
      by_cases oo : o < 6
      · rw [if_pos oo] at hK
        dsimp only at hK
        refine k_c (p249t w3.2.2.1 w3.2.1.2.1 oo hoo.1 (by omega)) ?_
        rintro _ y ⟨y1, y2⟩
        have ly : rLx g e F E y := rLx_fr (A := rkF) (fun a k z => by omega) (frj_of y2) w3.2.1
        have e257 : m257 9 y = oC (m159 3 284 y) fun _ s38 => some (0, s38) := by
          unfold m257
          rw [if_neg (by decide), if_neg (by decide), if_neg (by decide), if_neg (by decide), if_neg (by decide), if_neg (by decide), if_neg (by decide), if_neg (by decide), if_neg (by decide)]
        rw [e257]
        refine k_c (Q := fun _ a => rG g e ask B (nxF g e F) (nxE g e F E) (60 :: W) C (o + 1) a ∧ Fr rqF w a) ?_ ?_
        · refine k_c (p159t (l := sL 18) ht h.1 ly (by decide) (by decide) ((rX_fr (fr_mono (fun a k z => by omega) y2) w3.2.2.2.2.1).2 (284, sL 18) (by decide)) (by decide) d5.2) ?_
          rintro _ a ⟨a1, a2⟩
          exact k_r ⟨rG_open w3 y1 a1 (isW_F d5.2) oo y2 a2, fr_trans (rk_rq y2) (yF_rq a2)⟩
        rintro _ a ⟨a1, a2⟩
        have hK := rK5_fr a2 hK
        refine ok_un (k := fun _ w => uRest x1 (n1 + 1) w) ?_
        show Ok (uPre x1 (n1 + 1) (n2 + 1) a) Q
        refine h5 oo B _ _ (60 :: W) C (n1 + 1) (n2 + 1) a Q a1 (by omega) (by omega) ?_
        rcases hy : rd 5 (o + 1) (nxF g e F) (nxE g e F E) with q | q
        · rw [hy] at hK
          exact hK
        · rw [hy] at hK
          have hl := hlen _ _ _ _ _ hy a1.1
          have hl2 := hl.2.1
          intro n1' n3' n4 b0 b1 b2 f1' f3' hn4
          rw [List.length_cons] at hn4
          obtain ⟨n4, rfl⟩ : ∃ m, n4 = m + 1 := ⟨n4 - 1, by omega⟩
          have h16' := rG_len ht b1
          rw [List.length_cons] at h16'
          have hlb := b1.2.2.2.1
          unfold uEnd
          refine k_c (Q := fun r c => Ok (uPost x1 n1' n3' c) Q) (p258s b1.2.2.1 h.2.2.2.2.2.1.2 (by decide) b1.2.1.2.1 (by omega) (by omega) (by omega) (fun c c1 c2 => ?_)) (fun r c q => q)
          have gc : rG g e ask B q.1 q.2.1 W (C ++ q.2.2 ++ [60]) o c := by
            rw [show o + 1 - 1 = o by omega] at c1
            refine rG_st b1 c1 c2 ?_ h.2.2.2.2.2.1.2 hoo
            simp only [List.length_append, List.length_cons, List.length_nil] at hlb ⊢
            omega
          rw [List.append_assoc] at gc
          exact ok_un (hK n1' n3' n4 c gc (fr_trans b2 (rk_rq c2)) f1' f3' (by omega))
      · rw [if_neg oo] at hK
        refine k_c (p249f w3.2.2.1 w3.2.1.2.1 (by omega)) ?_
        rintro _ y ⟨y1, y2, y3⟩
        have e257 : m257 9 y = some (0, y) := by
          unfold m257
          rw [if_neg (by decide), if_neg (by decide), if_neg (by decide), if_neg (by decide), if_neg (by decide), if_neg (by decide), if_neg (by decide), if_neg (by decide), if_neg (by decide)]
          unfold m159
          rw [oV_eq, y1, if_neg (by decide), oC_some]
        refine k_e e257 (u_badP (by decide) y1 y2 (f56_rq y3) (rG_100 ht w3 (y3.1 209 100 (by omega))) hK)
    · rw [if_neg d5]
      refine k_p rfl ?_
      rw [m259_2]
      refine k_p rfl (u186 ht w3 f1 (Classical.em _) ?_)
      by_cases d1 : tkK g e F E = 2
      · rw [if_pos d1] at hK ⊢
        exact hK
      · rw [if_neg d1, if_neg d2, if_neg d3, if_neg d4, if_neg d5] at hK
        rw [if_neg d1]
        exact hK
/-- all of a SUM's -/
theorem rP_all (ht : tOk g e) : ∀ (n : Nat) (o : Int), 0 ≤ o → o ≤ 6 → (3 * (6 - o) + 1 < (n : Int) → rP5 g e ask x1 (qM g e ask n) o) ∧ (3 * (6 - o) + 2 < (n : Int) → rP4 g e ask x1 (qM g e ask n) o) ∧ (3 * (6 - o) + 3 < (n : Int) → rP3 g e ask x1 (qM g e ask n) o) := by
  intro n
  induction n with
  | zero => intro o a b; exact ⟨fun h => by omega, fun h => by omega, fun h => by omega⟩
  | succ n ih =>
    intro o a b
    have hl : ∀ lv o F E q, qM g e ask n lv o F E = .inr q → lxW g e F E → qLen g e F E q := fun lv o F E q h hW => qM_len n lv o F E q h hW
    refine ⟨fun h => ?_, fun h => ?_, fun h => ?_⟩
    · exact rP5_of ht (fun oo => (ih (o + 1) (by omega) (by omega)).2.2 (by omega)) (fun oo => (ih (o + 1) (by omega) (by omega)).1 (by omega)) hl
    · exact rP4_of ht ((ih o a b).1 (by omega)) hl
    · exact rP3_of ht ((ih o a b).2.1 (by omega)) hl
/-- qSums -/
def rSumQ (g : Int → Int) (e : Int) (ask : Bool) (B : Int) (W C : List Int) (o : Int) (s : zS) (y : qR) (t : zS) : Prop := match y with
  | .inl q => t.1 209 5 = q.1 ∧ t.1 209 6 = q.2 ∧ fF s t
  | .inr q => rG g e ask B q.1 q.2.1 W (C ++ q.2.2) o t ∧ Fr rqF s t
theorem p261 {n : Nat} (ht : tOk g e) (h : rG g e ask B F E W C o s) (hn : 3 * (6 - o) + 3 < (n : Int)) (hW1 : W.headD 0 ≠ 1) (hW2 : W.headD 0 ≠ 2) (hW3 : W.headD 0 ≠ 3) (hW4 : W.headD 0 ≠ 4) (hW60 : W.headD 0 < 60) : Ok (m261 s) (fun _ t => rSumQ g e ask B W C o s (qM g e ask n 3 o F E) t) := by
  have hle := ht.2.1
  have hF0 := h.1.1
  have hFe := h.1.2.1
  have hoo := h.2.2.2.2.2.2
  have hB := h.2.2.2.2.2.1
  unfold m261
  refine k_v (k_v (k_v ?_))
  rw [h.2.2.1.2.1, h.2.2.1.2.2.2.2.2]
  have f0 : Fr rqF s (sI s 209 104 (W.length : Int)) := fr_I (by omega)
  have g0 : rG g e ask (W.length : Int) F E W C o (sI s 209 104 (W.length : Int)) := by
    obtain ⟨h1, h2, h3, h4, h5, h6, h7⟩ := h
    refine ⟨h1, rLx_fr (A := fun a k => a = 209 ∧ k = 104) (fun a k z => by omega) (frj_of (fr_I ⟨rfl, rfl⟩)) h2, ?_, h4, rX_fr (s := s) (fr_I (by omega)) h5, ⟨by omega, Int.le_refl _⟩, h7⟩
    obtain ⟨a1, a2, a3, a4, a5, a6⟩ := h3
    refine ⟨stk_ext a1 (fun j _ _ => ?_), ?_, ?_, fun i hi => ?_, ?_, sI_e⟩
    · rw [sI_a (by omega)]
    · rw [sI_k (by omega)]; exact a2
    · rw [sI_k (by omega)]; exact a3
    · rw [sI_a (by omega)]; exact a4 i hi
    · rw [sI_k (by omega)]; exact a5
  generalize sI s 209 104 (W.length : Int) = u at *
  have hz : zFu = 999999 + 1 := rfl
  rw [hz, u15 g0.2.1.2.1]
  refine (rP_all (x1 := B) ht n o hoo.1 hoo.2).2.2 hn (W.length : Int) F E W C 999999 zFu u _ g0 (by omega) (by unfold zFu; omega) hW1 hW2 hW3 hW4 hW60 ?_
  generalize qM g e ask n 3 o F E = y
  rcases y with q | q
  · exact fun r t a b c => ⟨a, b, fF_tr f0 c⟩
  · intro n1' n3' t pd C' t1 t2 hC hp j3 j4 f1' f3'
    have hq0 := t1.1.1
    have hqe := t1.1.2.1
    obtain ⟨n1', rfl⟩ : ∃ m, n1' = m + 1 := ⟨n1' - 1, by omega⟩
    obtain ⟨n3', rfl⟩ : ∃ m, n3' = m + 1 := ⟨n3' - 1, by omega⟩
    refine uStop ht t1 rfl hp j3 j4 hB (fun r v v1 v2 => ⟨?_, fr_trans f0 (fr_trans t2 v2)⟩)
    rw [hC] at v1
    exact v1
end
