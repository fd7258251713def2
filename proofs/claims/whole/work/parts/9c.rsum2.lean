/-! ===== the reference reads a SUM: brackets ===== -/
theorem ok_un {x : Option (Int × zS)} {k : Int → zS → Option (Int × zS)} {Q : Int → zS → Prop} (h : Ok (oC x k) Q) : Ok x (fun r u => Ok (k r u) Q) := by
  obtain ⟨r, s, e, q⟩ := h
  rcases x with _ | ⟨a, b⟩
  · exact absurd e (by unfold oC; simp)
  · exact ⟨a, b, rfl, r, s, e, q⟩
def ccB (x : Int) : List Int := if x = 20 then [] else if x = 23 then [5] else [6]
section
variable {g : Int → Int} {e F E B o x1 : Int} {ask : Bool} {W W0 C : List Int} {s t : zS} {Q : Int → zS → Prop} {n1 n2 n3 : Nat}
theorem pd_nb {pd : List Int} (hp : ∀ y ∈ pd, 1 ≤ y ∧ y ≤ 4) : ∀ y ∈ pd, ¬ (20 ≤ y ∧ y ≤ 24) := fun y hy => by have := hp y hy; omega
/-- a bracket closes -/
theorem uClose {pd : List Int} {x : Int} (ht : tOk g e) (h : rG g e ask B F E (pd ++ x :: W0) C o s) (hB : B ≤ (W0.length : Int)) (hF : F < e ∧ g F = 41) (hx : x = 20 ∨ x = 23 ∨ x = 24) (hp : ∀ y ∈ pd, 1 ≤ y ∧ y ≤ 4) (o1 : 1 ≤ o) (hQ : ∀ t, rG g e ask B (nxF g e F) (nxE g e F E) W0 (C ++ (pd ++ ccB x)) (o - 1) t → Fr rqF s t → Ok (uEnd x1 n1 n3 zFu t) Q) : Ok (uPost x1 n1 (n3 + 1) s) Q := by
  have hle := ht.2.1
  have hF0 := h.1.1
  have gx := nx_any h.1 hF.1
  have h16 := rG_len ht h
  have hlen := h.2.2.2.1
  have ho := h.2.2.2.2.2.2
  have hx' : 20 ≤ x ∧ x ≤ 24 := by omega
  have lw0 : C.length + pd.length + W0.length + 1 ≤ 1600 := by
    simp only [List.length_append, List.length_cons] at h16; omega
  unfold uPost
  rw [m260_0, oV_eq, h.2.1.2.1, if_pos rfl, oC_as]
  refine k_c (rG_look ht h) ?_
  rintro r t ⟨t1, t2, t3, t4⟩
  have e253 : m253 t = some (x, t) := e253b t3.2.2.1 hx' hB (pd_nb hp) (by omega)
  have core : Ok (m260_43 (m260_0 n3) t) (fun r u => Ok (uR x1 n1 r u) Q) := by
    unfold m260_43
    refine k_v ?_
    rw [t2]
    refine k_z (by omega) (by omega) (k_v ?_)
    have hl := rLx_sign h.1 hF.1 (by rw [hF.2]; decide) t3.2.1
    have u0 : rG g e ask B (nxF g e F) (nxE g e F E) (pd ++ x :: W0) C o (sI t 209 2 (F + 1)) := rG_lex t3 hl gx.1 (by omega) (fr_I (by omega))
    have fu : Fr rqF s (sI t 209 2 (F + 1)) := fr_trans t4 (fr_I (by omega))
    generalize sI t 209 2 (F + 1) = u at *
    refine k_c (p254 u0.2.2.1 hx' hB (pd_nb hp) (by omega)) ?_
    rintro _ v ⟨v1, v2⟩
    refine k_v ?_
    have hv2 := v1.2.1
    rw [List.length_cons] at hv2
    rw [hv2]
    refine k_z (by omega) (by omega) (k_v (k_v ?_))
    rw [sI_k (by omega), v1.2.2.2.2.1]
    refine k_z (by omega) (by omega) (k_v (k_v ?_))
    rw [show ((W0.length + 1 : Nat) : Int) - 1 = (W0.length : Int) by omega]
    have fw : Fr rkF v (sI (sI v 209 102 (W0.length : Int)) 209 103 (o - 1)) := fr_trans (fr_I (by omega)) (fr_I (by omega))
    have w1 : rSt B W0 (C ++ pd) (o - 1) (sI (sI v 209 102 (W0.length : Int)) 209 103 (o - 1)) := by
      obtain ⟨a1, a2, a3, a4, a5, a6⟩ := v1
      refine ⟨stk_ext a1.2 (fun j _ _ => ?_), ?_, ?_, fun i hi => ?_, sI_e, ?_⟩
      · rw [sI_a (by omega), sI_a (by omega)]
      · rw [sI_k (by omega), sI_e]
      · rw [sI_k (by omega), sI_k (by omega)]; exact a3
      · rw [sI_a (by omega), sI_a (by omega)]; exact a4 i hi
      · rw [sI_k (by omega), sI_k (by omega)]; exact a6
    have w286 : (sI (sI v 209 102 (W0.length : Int)) 209 103 (o - 1)).1 286 (W0.length : Int) = x := by
      rw [sI_a (by omega), sI_a (by omega)]; exact v1.1.1
    generalize sI (sI v 209 102 (W0.length : Int)) 209 103 (o - 1) = w at *
    have lw : (C ++ pd).length + W0.length + 1 ≤ 1600 := by
      simp only [List.length_append, List.length_cons] at h16 ⊢; omega
    rw [w1.2.1]
    refine k_x (by omega) (by omega) (k_v ?_)
    rw [w286]
    have rw0 : rG g e ask B (nxF g e F) (nxE g e F E) W0 (C ++ pd) (o - 1) w := by
      refine rG_st (rG_st u0 v1 v2 ?_ ?_ ho) w1 fw ?_ hB (by omega)
      · simp only [List.length_append, List.length_cons] at hlen ⊢; omega
      · rw [List.length_cons]; omega
      · simp only [List.length_append, List.length_cons] at hlen ⊢; omega
    have fw0 : Fr rqF s w := fr_trans fu (fr_trans (rk_rq v2) (rk_rq fw))
    -- a code more
    have more : ∀ c, ccB x = [c] → Ok (oC (m248 c w) fun _ s28 => oC (m258 s28) fun _ s31 => m260_0 n3 s31) (fun r u => Ok (uR x1 n1 r u) Q) := by
      intro c hc
      refine k_c (p248 w1 (by omega)) ?_
      rintro _ y ⟨y1, y2⟩
      have := ok_un (hQ y (by
        rw [hc, ← List.append_assoc]
        refine rG_st rw0 y1 y2 ?_ hB (by omega)
        simp only [List.length_append, List.length_cons, List.length_nil] at hlen ⊢; omega) (fr_trans fw0 (rk_rq y2)))
      exact k_c this (fun _ z q => ok_un q)
    by_cases c0 : x = 20
    · refine k_p c0 ?_
      have := ok_un (hQ w (by unfold ccB; rw [if_pos c0, List.append_nil]; exact rw0) fw0)
      exact k_c this (fun _ z q => ok_un q)
    · refine k_q c0 (k_v (k_x (by omega) (by omega) (k_v ?_)))
      rw [w286]
      by_cases c3 : x = 23
      · exact k_p c3 (more 5 (by unfold ccB; rw [if_neg c0, if_pos c3]))
      · exact k_q c3 (more 6 (by unfold ccB; rw [if_neg c0, if_neg c3]))
  have core' : Ok (oC (m260_43 (m260_0 n3) t) fun z9 s10 => uR x1 n1 z9 s10) Q := k_c core (fun r u q => q)
  have elk : r = 41 := by rw [t1]; unfold lkV; rw [if_pos hF.1]; exact hF.2
  rw [elk, if_pos rfl, oC_as, e253, oC_some]
  by_cases c0 : x = 20
  · rw [if_pos c0]; exact core'
  · rw [if_neg c0, oC_as, e253, oC_some]
    by_cases c3 : x = 23
    · rw [if_pos c3]; exact core'
    · rw [if_neg c3, oC_as, e253, oC_some, if_pos (by omega)]
      exact core'
def uB (x F : Int) (t : zS) : Option (Int × zS) := if x = 21 ∨ x = 22 then m260_326 t else if x = -1 then some (0, t) else oC (m153 1 F t) fun _ u => some (0, u)
/-- nothing goes on, and no bracket closes -/
theorem uNone {x : Int} (ht : tOk g e) (h : rG g e ask B F E W C o s) (hb : ∀ t, rG g e ask B F E W C o t → m253 t = some (x, t)) (hx : (F < e ∧ g F = 41) → x ≠ 20 ∧ x ≠ 23 ∧ x ≠ 24) (h3 : qJ g e 3 F E = -1) (h4 : qJ g e 4 F E = -1) (hQ : ∀ t, rG g e ask B F E W C o t → Fr rqF s t → Ok (oC (uB x F t) fun z9 s10 => uR x1 n1 z9 s10) Q) : Ok (uPost x1 n1 (n3 + 1) s) Q := by
  have n3' := no3 h3
  have n4' := no4 h4
  have tail : ∀ t, rG g e ask B F E W C o t → Fr rqF s t → Ok (oC (m260_122 t) fun z9 s10 => uR x1 n1 z9 s10) Q := by
    intro t t3 t4
    unfold m260_122
    rw [oC_as]
    refine k_c (rG_nosign ht t3 (by decide) n4'.1) ?_
    rintro r u ⟨rfl, u1, u2, u3⟩
    rw [if_pos rfl, oC_as]
    refine k_c (rG_nosign ht u2 (by decide) n4'.2) ?_
    rintro r v ⟨rfl, v1, v2, v3⟩
    rw [if_pos rfl, oC_as]
    refine k_c (rG_nosign ht v2 (by decide) n3'.1) ?_
    rintro r w ⟨rfl, w1, w2, w3⟩
    rw [if_pos rfl, oC_as]
    refine k_c (rG_nosign ht w2 (by decide) n3'.2) ?_
    rintro r y ⟨rfl, y1, y2, y3⟩
    have fy : Fr rqF s y := fr_trans t4 (fr_trans u3 (fr_trans v3 (fr_trans w3 y3)))
    have := hQ y y2 fy
    unfold uB at this
    rw [if_pos rfl, oC_as, hb y y2, oC_some]
    by_cases c1 : x = 21
    · rw [if_pos (Or.inl c1)] at this
      rw [if_pos c1]
      exact this
    · rw [if_neg c1, oC_as, hb y y2, oC_some]
      by_cases c2 : x = 22
      · rw [if_pos (Or.inr c2)] at this
        rw [if_pos c2]
        exact this
      · rw [if_neg (by omega)] at this
        rw [if_neg c2, oC_as, hb y y2, oC_some]
        by_cases c3 : x = -1
        · rw [if_pos c3] at this ⊢
          exact this
        · rw [if_neg c3] at this ⊢
          rw [oV_eq, y2.2.1.2.1, if_pos rfl, oV_eq, y1]
          exact this
  by_cases c : F < e ∧ g F = 41
  · have hx := hx c
    unfold uPost
    rw [m260_0, oV_eq, h.2.1.2.1, if_pos rfl, oC_as]
    refine k_c (rG_look ht h) ?_
    rintro r t ⟨t1, t2, t3, t4⟩
    have elk : r = 41 := by rw [t1]; unfold lkV; rw [if_pos c.1]; exact c.2
    rw [elk, if_pos rfl, oC_as, hb t t3, oC_some, if_neg hx.1, oC_as, hb t t3, oC_some, if_neg hx.2.1, oC_as, hb t t3, oC_some, if_neg hx.2.2]
    exact tail t t3 t4
  · exact u122 ht h c tail
/-- what is owed where it ends with a fault -/
theorem uR_bad {u : zS} {w p : Int} (hw : w ≠ 0) (h5 : u.1 209 5 = w) (h6 : u.1 209 6 = p) (hf : Fr rqF s u) (h100 : 0 ≤ u.1 209 100 ∧ u.1 209 100 ≤ 1610) (hQ : ∀ r t, t.1 209 5 = w → t.1 209 6 = p → fF s t → Q r t) : Ok (uR x1 (n1 + 1) 0 u) Q := by
  unfold uR
  rw [if_pos rfl, m261_15, if_pos rfl, u53 (by rw [h5]; exact hw)]
  exact uFail h5 h6 h100 (fun r t a b c => hQ r t a b (fF_tr hf c))
theorem f56_rq (h : Fr (fun a k => a = 209 ∧ (k = 5 ∨ k = 6)) s t) : Fr rqF s t := fr_mono (fun a k z => by omega) h
theorem yf_rq (h : Fr yfF s t) : Fr rqF s t := fr_mono (fun a k z => by omega) h
/-- a bracket that doesn't close -/
theorem uOpen {pd : List Int} {x : Int} (ht : tOk g e) (h : rG g e ask B F E (pd ++ x :: W0) C o s) (hB : B ≤ (W0.length : Int)) (hF : ¬ (F < e ∧ g F = 41)) (hx : x = 20 ∨ x = 23 ∨ x = 24) (hp : ∀ y ∈ pd, 1 ≤ y ∧ y ≤ 4) (h3 : qJ g e 3 F E = -1) (h4 : qJ g e 4 F E = -1) (hQ : ∀ r t, t.1 209 5 = 1 → t.1 209 6 = F → fF s t → Q r t) : Ok (uPost x1 (n1 + 1) (n3 + 1) s) Q := by
  have h16 := rG_len ht h
  refine uNone (x := x) ht h (fun t t1 => e253b t1.2.2.1 (by omega) hB (pd_nb hp) (by omega)) (fun z => absurd z hF) h3 h4 (fun t t1 t2 => ?_)
  unfold uB
  rw [if_neg (by omega), if_neg (by omega), oC_as]
  refine k_c (p153 t1.2.1.2.1) ?_
  rintro _ u ⟨u1, u2, u3⟩
  rw [oC_some]
  exact uR_bad (by decide) u1 u2 (fr_trans t2 (f56_rq u3)) (rG_100 ht t1 (u3.1 209 100 (by omega))) hQ
/-- the second of min, max is asked -/
theorem uComma {pd : List Int} {x : Int} (ht : tOk g e) (h : rG g e ask B F E (pd ++ x :: W0) C o s) (hB : B ≤ (W0.length : Int)) (hF : F < e ∧ g F = 44) (hx : x = 21 ∨ x = 22) (hp : ∀ y ∈ pd, 1 ≤ y ∧ y ≤ 4) (h3 : qJ g e 3 F E = -1) (h4 : qJ g e 4 F E = -1) (hQ : ∀ t, rG g e ask B (nxF g e F) (nxE g e F E) ((x + 2) :: W0) (C ++ pd) o t → Fr rqF s t → Ok (uPre x1 n1 zFu t) Q) : Ok (uPost x1 (n1 + 1) (n3 + 1) s) Q := by
  have hle := ht.2.1
  have h16 := rG_len ht h
  have hlen := h.2.2.2.1
  have gx := nx_any h.1 hF.1
  refine uNone (x := x) ht h (fun t t1 => e253b t1.2.2.1 (by omega) hB (pd_nb hp) (by omega)) (fun z => by omega) h3 h4 (fun t t1 t2 => ?_)
  unfold uB
  rw [if_pos hx]
  refine k_c (Q := fun r u => Ok (uR x1 (n1 + 1) r u) Q) ?_ (fun r u q => q)
  unfold m260_326
  refine k_c (p161t ht t1.1 t1.2.1 (by decide) hF.1 hF.2) ?_
  rintro _ u ⟨u1, u2⟩
  have u0 := rG_lex t1 u1 gx.1 (by omega) u2
  refine k_v ?_
  rw [u1.2.1]
  refine k_p rfl (k_c (p254 u0.2.2.1 (by omega) hB (pd_nb hp) (by omega)) ?_)
  rintro _ v ⟨v1, v2⟩
  refine k_v ?_
  have hv2 := v1.2.1
  rw [List.length_cons] at hv2
  rw [hv2]
  have lw : (C ++ pd).length + W0.length + 1 ≤ 1600 := by
    simp only [List.length_append, List.length_cons] at h16 ⊢; omega
  rw [show ((W0.length + 1 : Nat) : Int) - 1 = (W0.length : Int) by omega]
  refine k_z (by omega) (by omega) (k_x (by omega) (by omega) (k_v ?_))
  rw [show v.1 286 (W0.length : Int) = x from v1.1.1]
  refine k_z (by omega) (by omega) (k_x (by omega) (by omega) (k_v (k_r ?_)))
  have w1 : rSt B ((x + 2) :: W0) (C ++ pd) o (sI v 286 (W0.length : Int) (x + 2)) := by
    obtain ⟨a1, a2, a3, a4, a5, a6⟩ := v1
    refine ⟨⟨?_, stk_ext a1.2 (fun j j0 j1 => ?_)⟩, ?_, ?_, fun i hi => ?_, ?_, ?_⟩
    · show (sI v 286 (W0.length : Int) (x + 2)).1 286 (W0.length : Int) = x + 2
      rw [sI_e]
    · rw [sI_k (by omega)]
    · rw [sI_a (by omega), a2, List.length_cons, List.length_cons]
    · rw [sI_a (by omega)]; exact a3
    · rw [sI_a (by omega)]; exact a4 i hi
    · rw [sI_a (by omega)]; exact a5
    · rw [sI_a (by omega)]; exact a6
  have fw : Fr rkF v (sI v 286 (W0.length : Int) (x + 2)) := fr_I (by omega)
  have w0 : rG g e ask B (nxF g e F) (nxE g e F E) ((x + 2) :: W0) (C ++ pd) o (sI v 286 (W0.length : Int) (x + 2)) := by
    refine rG_st u0 w1 (fr_trans v2 fw) ?_ ?_ h.2.2.2.2.2.2
    · simp only [List.length_append, List.length_cons] at hlen ⊢; omega
    · rw [List.length_cons]; omega
  unfold uR
  rw [if_neg (by decide), u15 w0.2.1.2.1]
  exact hQ _ w0 (fr_trans t2 (fr_trans (yF_rq u2) (rk_rq (fr_trans v2 fw))))
theorem uNoComma {pd : List Int} {x : Int} (ht : tOk g e) (h : rG g e ask B F E (pd ++ x :: W0) C o s) (hB : B ≤ (W0.length : Int)) (hF : ¬ (F < e ∧ g F = 44)) (hx : x = 21 ∨ x = 22) (hp : ∀ y ∈ pd, 1 ≤ y ∧ y ≤ 4) (h3 : qJ g e 3 F E = -1) (h4 : qJ g e 4 F E = -1) (hQ : ∀ r t, t.1 209 5 = 1 → t.1 209 6 = F → fF s t → Q r t) : Ok (uPost x1 (n1 + 1) (n3 + 1) s) Q := by
  have h16 := rG_len ht h
  refine uNone (x := x) ht h (fun t t1 => e253b t1.2.2.1 (by omega) hB (pd_nb hp) (by omega)) (fun z => by omega) h3 h4 (fun t t1 t2 => ?_)
  unfold uB
  rw [if_pos hx]
  refine k_c (Q := fun r u => Ok (uR x1 (n1 + 1) r u) Q) ?_ (fun r u q => q)
  unfold m260_326
  refine k_c (p161f ht t1.2.1 (by decide) hF) ?_
  rintro _ u ⟨u1, u2, u3⟩
  refine k_v ?_
  rw [u1]
  exact k_q (by decide) (k_r (uR_bad (by decide) u1 u2 (fr_trans t2 (yf_rq u3)) (rG_100 ht t1 (u3.1 209 100 (by omega))) hQ))
/-- what waits above the base is told -/
theorem p261_53 (hl : B = (W0.length : Int)) : ∀ (pd : List Int) (n : Nat) (C : List Int) (s : zS), rSt B (pd ++ W0) C o s → s.1 209 5 = 0 → C.length + (pd ++ W0).length ≤ 1600 → pd.length < n → Ok (m261_53 n x1 s) (fun _ t => rSt x1 W0 (C ++ pd) o t ∧ Fr (fun a k => rkF a k ∨ (a = 209 ∧ k = 104)) s t) := by
  intro pd
  induction pd with
  | nil =>
    intro n C s h h5 h16 hn
    obtain ⟨n, rfl⟩ : ∃ m, n = m + 1 := ⟨n - 1, by simp only [List.length_nil] at hn; omega⟩
    rw [List.nil_append] at *
    rw [m261_53]
    refine k_v ?_
    rw [h5]
    refine k_p rfl (k_v (k_v ?_))
    rw [h.2.1, h.2.2.2.2.2]
    refine k_q (by omega) (k_v (k_r ⟨?_, fr_I (Or.inr ⟨rfl, rfl⟩)⟩))
    obtain ⟨a1, a2, a3, a4, a5, a6⟩ := h
    rw [List.append_nil]
    refine ⟨stk_ext a1 (fun j _ _ => ?_), ?_, ?_, fun i hi => ?_, ?_, sI_e⟩
    · rw [sI_a (by omega)]
    · rw [sI_k (by omega)]; exact a2
    · rw [sI_k (by omega)]; exact a3
    · rw [sI_a (by omega)]; exact a4 i hi
    · rw [sI_k (by omega)]; exact a5
  | cons y pd ih =>
    intro n C s h h5 h16 hn
    rw [List.length_cons] at hn
    obtain ⟨n, rfl⟩ : ∃ m, n = m + 1 := ⟨n - 1, by omega⟩
    have hw := h.2.1
    have hlw : ((y :: pd ++ W0).length : Int) = ((pd ++ W0).length : Int) + 1 := by
      simp only [List.cons_append, List.length_cons]; omega
    have hge : (W0.length : Int) ≤ ((pd ++ W0).length : Int) := by rw [List.length_append]; omega
    have hl16 : C.length + (pd ++ W0).length + 1 ≤ 1600 := by
      simp only [List.cons_append, List.length_cons] at h16; omega
    rw [m261_53]
    refine k_v ?_
    rw [h5]
    refine k_p rfl (k_v (k_v ?_))
    rw [hw, hlw, h.2.2.2.2.2]
    refine k_p (by omega) (k_c (p251 (W := pd ++ W0) h (by omega) (by omega)) ?_)
    rintro _ t ⟨t1, t2⟩
    refine k_m (ih n (C ++ [y]) t t1 (by rw [t2.1 209 5 (by omega)]; exact h5) (by rw [List.length_append, List.length_singleton]; omega) (by omega)) ?_
    rintro _ u ⟨u1, u2⟩
    rw [List.append_assoc] at u1
    exact ⟨u1, fr_trans (fr_mono (fun a k z => Or.inl z) t2) u2⟩
/-- a SUM has ended -/
theorem uStop {pd : List Int} (ht : tOk g e) (h : rG g e ask B F E (pd ++ W0) C o s) (hl : B = (W0.length : Int)) (hp : ∀ y ∈ pd, 1 ≤ y ∧ y ≤ 4) (h3 : qJ g e 3 F E = -1) (h4 : qJ g e 4 F E = -1) (hx1 : 0 ≤ x1 ∧ x1 ≤ (W0.length : Int)) (hQ : ∀ r t, rG g e ask x1 F E W0 (C ++ pd) o t → Fr rqF s t → Q r t) : Ok (uPost x1 (n1 + 1) (n3 + 1) s) Q := by
  have h16 := rG_len ht h
  have hlen := h.2.2.2.1
  refine uNone (x := -1) ht h (fun t t1 => e253n t1.2.2.1 hl (pd_nb hp) (by omega)) (fun _ => by decide) h3 h4 (fun t t1 t2 => ?_)
  unfold uB
  rw [if_neg (by decide), if_pos rfl, oC_some]
  unfold uR
  rw [if_pos rfl, m261_15, if_pos rfl]
  refine k_m (p261_53 hl pd zFu C t t1.2.2.1 t1.2.1.2.1 h16 (by rw [List.length_append] at h16; unfold zFu; omega)) ?_
  rintro r u ⟨u1, u2⟩
  refine hQ r u ⟨t1.1, rLx_fr (A := fun a k => rkF a k ∨ (a = 209 ∧ k = 104)) (fun a k z => by omega) (frj_of u2) t1.2.1, u1, ?_, rX_fr (fr_mono (fun a k z => by omega) u2) t1.2.2.2.2.1, hx1, h.2.2.2.2.2.2⟩ (fr_trans t2 (fr_mono (fun a k z => by omega) u2))
  simp only [List.length_append] at hlen ⊢
  omega
end
