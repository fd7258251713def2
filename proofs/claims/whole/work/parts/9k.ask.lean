/-! ===== ask: both read the question ===== -/
def qQ (g : Int → Int) (e F E : Int) : Int := if isW g e F E (sL 34) = true then 0 else if isW g e F E (sL 35) = true then 1 else if isW g e F E (sL 36) = true then 2 else if isW g e F E (sL 37) = true then 3 else if isW g e F E (sL 38) = true then 4 else if isW g e F E (sL 39) = true then 5 else -1
def qA (g : Int → Int) (e : Int) : (Int × Int) ⊕ (Int × List Int) :=
  if qQ g e (lxS g e 4 0) (-1) = -1 then .inl (1, lxS g e 4 0)
  else match qM g e true 40 (if 2 < qQ g e (lxS g e 4 0) (-1) then 3 else 0) 0 (nxF g e (lxS g e 4 0)) (nxE g e (lxS g e 4 0) (-1)) with
    | .inl q => .inl q
    | .inr q => if q.1 < e then .inl (1, q.1) else .inr (qQ g e (lxS g e 4 0) (-1), q.2.2)
section
variable {g : Int → Int} {e F E : Int} {s : zS}
theorem qQ_in : qQ g e F E = -1 ∨ (0 ≤ qQ g e F E ∧ qQ g e F E ≤ 5 ∧ tkK g e F E = 1) := by
  have w : ∀ k, isW g e F E (sL k) = true → tkK g e F E = 1 := fun k z => (isW_t z).1
  unfold qQ
  by_cases c1 : isW g e F E (sL 34) = true
  · rw [if_pos c1]; exact Or.inr ⟨by omega, by omega, w _ c1⟩
  rw [if_neg c1]
  by_cases c2 : isW g e F E (sL 35) = true
  · rw [if_pos c2]; exact Or.inr ⟨by omega, by omega, w _ c2⟩
  rw [if_neg c2]
  by_cases c3 : isW g e F E (sL 36) = true
  · rw [if_pos c3]; exact Or.inr ⟨by omega, by omega, w _ c3⟩
  rw [if_neg c3]
  by_cases c4 : isW g e F E (sL 37) = true
  · rw [if_pos c4]; exact Or.inr ⟨by omega, by omega, w _ c4⟩
  rw [if_neg c4]
  by_cases c5 : isW g e F E (sL 38) = true
  · rw [if_pos c5]; exact Or.inr ⟨by omega, by omega, w _ c5⟩
  rw [if_neg c5]
  by_cases c6 : isW g e F E (sL 39) = true
  · rw [if_pos c6]; exact Or.inr ⟨by omega, by omega, w _ c6⟩
  rw [if_neg c6]
  exact Or.inl rfl
theorem e27 (ht : tOk g e) (hW : lxW g e F E) (h : cLx g e F E s) : m27 s = some (qQ g e F E, s) := by
  unfold m27 qQ
  have e8 := fun k => e80 (s := s) ht hW h k
  by_cases c1 : isW g e F E (sL 34) = true
  · rw [e8, oC_some, if_pos c1, if_neg (by decide), if_pos c1]
  rw [e8, oC_some, if_neg c1, if_pos rfl, if_neg c1]
  by_cases c2 : isW g e F E (sL 35) = true
  · rw [e8, oC_some, if_pos c2, if_neg (by decide), if_pos c2]
  rw [e8, oC_some, if_neg c2, if_pos rfl, if_neg c2]
  by_cases c3 : isW g e F E (sL 36) = true
  · rw [e8, oC_some, if_pos c3, if_neg (by decide), if_pos c3]
  rw [e8, oC_some, if_neg c3, if_pos rfl, if_neg c3]
  by_cases c4 : isW g e F E (sL 37) = true
  · rw [e8, oC_some, if_pos c4, if_neg (by decide), if_pos c4]
  rw [e8, oC_some, if_neg c4, if_pos rfl, if_neg c4]
  by_cases c5 : isW g e F E (sL 38) = true
  · rw [e8, oC_some, if_pos c5, if_neg (by decide), if_pos c5]
  rw [e8, oC_some, if_neg c5, if_pos rfl, if_neg c5]
  by_cases c6 : isW g e F E (sL 39) = true
  · rw [e8, oC_some, if_pos c6, if_neg (by decide), if_pos c6]
  rw [e8, oC_some, if_neg c6, if_pos rfl, if_neg c6]
end
/-- what is left but for the formula that is written -/
def FrK (A : Nat → Int → Prop) (s t : zS) : Prop := (∀ a k, ¬ A a k → t.1 a k = s.1 a k) ∧ t.2.1 = s.2.1 ∧ ∀ q, q ≠ 4 → t.2.2 q = s.2.2 q
theorem frk_of {A : Nat → Int → Prop} {s t : zS} (h : Fr A s t) : FrK A s t := ⟨h.1, h.2.1, fun q _ => by rw [h.2.2]⟩
theorem frk_trans {A : Nat → Int → Prop} {s t u : zS} (h : FrK A s t) (h' : FrK A t u) : FrK A s u := ⟨fun a k n => (h'.1 a k n).trans (h.1 a k n), h'.2.1.trans h.2.1, fun q n => (h'.2.2 q n).trans (h.2.2 q n)⟩
theorem frk_mono {A B : Nat → Int → Prop} {s t : zS} (hab : ∀ a k, A a k → B a k) (h : FrK A s t) : FrK B s t := ⟨fun a k n => h.1 a k (fun q => n (hab a k q)), h.2⟩
abbrev askF (a : Nat) (k : Int) : Prop := cpF a k ∨ (a = 5 ∧ k = 2) ∨ a = 6 ∨ (a = 8 ∧ k = 2)
section
variable {g : Int → Int} {e F E : Int} {s : zS}
/-- the tape from its first byte on -/
theorem p75 (ht : tOk g e) (hs : cTp g e s) : Ok (m75 s) (fun _ t => cLx g e (lxS g e 4 0) (-1) t ∧ lxW g e (lxS g e 4 0) (-1) ∧ t.1 1 5 = 0 ∧ t.1 1 6 = -1 ∧ Fr cpF s t) := by
  unfold m75
  refine k_v (k_v (k_v (k_v ?_)))
  have f0 : Fr cpF s (sI (sI (sI (sI s 1 5 0) 1 6 (-1)) 1 3 0) 1 8 0) := fr_trans (fr_I (by omega)) (fr_trans (fr_I (by omega)) (fr_trans (fr_I (by omega)) (fr_I (by omega))))
  have e5 : (sI (sI (sI (sI s 1 5 0) 1 6 (-1)) 1 3 0) 1 8 0).1 1 5 = 0 := by rw [sI_k (by omega), sI_k (by omega), sI_k (by omega), sI_e]
  have e6 : (sI (sI (sI (sI s 1 5 0) 1 6 (-1)) 1 3 0) 1 8 0).1 1 6 = -1 := by rw [sI_k (by omega), sI_k (by omega), sI_e]
  have e3 : (sI (sI (sI (sI s 1 5 0) 1 6 (-1)) 1 3 0) 1 8 0).1 1 3 = 0 := by rw [sI_k (by omega), sI_e]
  have e8 : (sI (sI (sI (sI s 1 5 0) 1 6 (-1)) 1 3 0) 1 8 0).1 1 8 = 0 := by rw [sI_e]
  generalize sI (sI (sI (sI s 1 5 0) 1 6 (-1)) 1 3 0) 1 8 0 = u at *
  have tu : cTp g e u := cTp_fr (fun a k z => by omega) f0 hs
  refine k_c (p76 (E := -1) ht tu e8 (by omega) ht.1 (fun z => by omega) (fun z => Or.inr rfl)) ?_
  rintro _ t ⟨t1, t2, t3⟩
  exact k_r ⟨t1, t2, by rw [t3.1 1 5 (by omega)]; exact e5, by rw [t3.1 1 6 (by omega)]; exact e6, fr_trans f0 (fr_mono (fun a k z => by omega) t3)⟩
theorem tkK_0 (hW : lxW g e F E) : tkK g e F E = 0 ↔ ¬ F < e := by
  unfold tkK
  by_cases c : F < e
  · rw [if_pos c]
    have := kB_in (g F)
    constructor
    · intro h; split at h <;> omega
    · intro h; exact absurd c h
  · rw [if_neg c]; exact ⟨fun _ => c, fun _ => rfl⟩
def cAsk (s : zS) (x : (Int × Int) ⊕ (Int × List Int)) (r : Int) (t : zS) : Prop := match x with
  | .inl q => r = -1 ∧ t.1 1 5 = q.1 ∧ t.1 1 6 = q.2 ∧ FrK askF s t
  | .inr q => r = q.1 ∧ t.1 1 5 = 0 ∧ t.1 1 6 = -1 ∧ cFm 5 q.2 t ∧ FrK askF s t
theorem p25 (ht : tOk g e) (hs : cTp g e s) : Ok (m25 5 s) (cAsk s (qA g e)) := by
  unfold m25
  refine k_c (p75 ht hs) ?_
  rintro _ t ⟨t1, t2, t5, t6, t3⟩
  have ft : FrK askF s t := frk_of (fr_mono (fun a k z => Or.inl z) t3)
  refine k_e (e27 ht t2 t1) ?_
  unfold qA
  generalize lxS g e 4 0 = F0 at *
  by_cases z : qQ g e F0 (-1) = -1
  · rw [if_pos z, if_pos z]
    refine k_c (p78 t1.2.2.1) ?_
    rintro r u ⟨_, u1, u2, u3⟩
    exact k_r ⟨rfl, u1, u2, frk_trans ft (frk_of (fr_mono (fun a k z => by omega) u3))⟩
  · rw [if_neg z, if_neg z]
    obtain ⟨q0, q5, qk⟩ := (qQ_in (g := g) (e := e) (F := F0) (E := -1)).resolve_left z
    have hF0 := t2.1
    have gx := nx_any t2 (tkK_1 qk).1
    refine k_c (p76a ht t2 t1 (tkK_1 qk).1 (by omega)) ?_
    rintro _ u ⟨u1, u2, u3⟩
    have fu : FrK askF s u := frk_trans ft (frk_of (fr_mono (fun a k z => by omega) u3))
    refine k_c (Q := fun _ v => cG g e 5 true (nxF g e F0) (nxE g e F0 (-1)) [] v ∧ v.1 1 5 = 0 ∧ v.1 1 6 = -1 ∧ FrK askF s v) ?_ ?_
    · unfold m26
      refine k_v (k_v (k_d (Or.inr rfl) (k_v (k_r ?_))))
      have fv : FrK askF u (sI (sM (sI u 5 2 0) 4 5) 8 2 1) := by
        refine ⟨fun a k n => ?_, rfl, fun q n => ?_⟩
        · show (sI _ 8 2 1).1 a k = _
          rw [sI_if, if_neg (by omega)]
          show (sI u 5 2 0).1 a k = _
          rw [sI_if, if_neg (by omega)]
        · show (if q = 4 then 5 else u.2.2 q) = u.2.2 q
          rw [if_neg n]
      have g1 : ∀ a k, ¬ (a = 8 ∧ k = 2) → ¬ (a = 5 ∧ k = 2) → (sI (sM (sI u 5 2 0) 4 5) 8 2 1).1 a k = u.1 a k := fun a k n1 n2 => by
        show (sI _ 8 2 1).1 a k = _
        rw [sI_if, if_neg n1]
        show (sI u 5 2 0).1 a k = _
        rw [sI_if, if_neg n2]
      refine ⟨⟨u2, ⟨⟨?_, fun k k0 k1 => ?_, fun b b0 b1 => ?_⟩, ?_, ?_, ?_⟩, ⟨rfl, ?_, fun i hi => by simp at hi⟩, ?_, ?_⟩, ?_, ?_, frk_trans fu fv⟩
      · rw [g1 1 2 (by omega) (by omega)]; exact u1.1.1
      · rw [g1 2 k (by omega) (by omega)]; exact u1.1.2.1 k k0 k1
      · rw [g1 4 b (by omega) (by omega)]; exact u1.1.2.2 b b0 b1
      · rw [g1 1 3 (by omega) (by omega)]; exact u1.2.1
      · rw [g1 1 4 (by omega) (by omega)]; exact u1.2.2.1
      · rw [g1 1 8 (by omega) (by omega)]; exact u1.2.2.2
      · show (sI _ 8 2 1).1 5 2 = 0
        rw [sI_a (by decide)]
        show (sI u 5 2 0).1 5 2 = 0
        rw [sI_e]
      · show ((0 : Nat) : Int) ≤ _
        have := u2.1
        omega
      · show (sI _ 8 2 1).1 8 2 = 1
        rw [sI_e]
      · rw [g1 1 5 (by omega) (by omega), u3.1 1 5 (by omega)]; exact t5
      · rw [g1 1 6 (by omega) (by omega), u3.1 1 6 (by omega)]; exact t6
    rintro _ v ⟨v1, v5, v6, v2⟩
    have go : ∀ lv, lv = (if 2 < qQ g e F0 (-1) then 3 else 0) → Ok (m25_51 (qQ g e F0 (-1)) lv v) (cAsk s (match qM g e true 40 (if 2 < qQ g e F0 (-1) then 3 else 0) 0 (nxF g e F0) (nxE g e F0 (-1)) with
        | .inl q => .inl q
        | .inr q => if q.1 < e then .inl (1, q.1) else .inr (qQ g e F0 (-1), q.2.2))) := by
      intro lv elv
      rw [← elv]
      have lv0 : lv = 3 ∨ lv = 0 := by rw [elv]; split <;> omega
      have hr := (pM29 (b := 5) (ask := true) (Or.inl rfl) ht 40).1 lv 0 _ _ [] v (by omega) (by omega) (by omega) (by omega) (by omega) v1
      unfold m25_51
      rcases hy : qM g e true 40 lv 0 (nxF g e F0) (nxE g e F0 (-1)) with q | q
      · rw [hy] at hr
        refine k_c hr ?_
        rintro r w ⟨rfl, w1, w2, w3⟩
        exact k_p rfl (k_r ⟨rfl, w1, w2, frk_trans v2 (frk_of (fr_mono (fun a k z => by omega) w3))⟩)
      · rw [hy] at hr
        refine k_c hr ?_
        rintro r w ⟨rfl, w1, w3⟩
        have fw : FrK askF s w := frk_trans v2 (frk_of (fr_mono (fun a k z => by omega) w3))
        refine k_q (by decide) (k_v ?_)
        rw [w1.2.1.2.1]
        have t0 := tkK_0 w1.1
        show Ok _ (cAsk s (if q.1 < e then .inl (1, q.1) else .inr (qQ g e F0 (-1), q.2.2)))
        by_cases c : q.1 < e
        · rw [if_pos c]
          refine k_q (fun y => (t0.mp y) c) (k_c (p78g w1) ?_)
          rintro r y ⟨_, y1, y2, y3⟩
          exact k_r ⟨rfl, y1, y2, frk_trans fw (frk_of (fr_mono (fun a k z => by omega) y3))⟩
        · rw [if_neg c]
          refine k_p (t0.mpr c) (k_r ⟨rfl, by rw [w3.1 1 5 (by omega)]; exact v5, by rw [w3.1 1 6 (by omega)]; exact v6, ⟨w1.2.2.1.2.1, w1.2.2.1.2.2⟩, fw⟩)
    refine k_i (fun y => go 3 (by rw [if_pos y])) (fun y => go 0 (by rw [if_neg y]))
/-- the reference's word of a question -/
theorem p274 {ask : Bool} {B o : Int} {W C : List Int} (ht : tOk g e) (h : rG g e ask B F E W C o s) : Ok (m274 s) (fun r t => (qQ g e F E = -1 ∧ r = 5 ∧ t.1 209 5 = 1 ∧ t.1 209 6 = F ∧ Fr rqF s t) ∨ (qQ g e F E ≠ -1 ∧ r = qQ g e F E ∧ rG g e ask B (nxF g e F) (nxE g e F E) W C o t ∧ Fr rqF s t)) := by
  have fls : ∀ {b : Bool}, ¬ b = true → b = false := fun {b} h => by cases b; rfl; exact absurd rfl h
  have fin : ∀ (v : Int) (u : zS), v ≠ 5 → v ≠ -1 → qQ g e F E = v → rG g e ask B (nxF g e F) (nxE g e F E) W C o u → Fr rqF s u → Ok (m274_76 v u) (fun r t => (qQ g e F E = -1 ∧ r = 5 ∧ t.1 209 5 = 1 ∧ t.1 209 6 = F ∧ Fr rqF s t) ∨ (qQ g e F E ≠ -1 ∧ r = qQ g e F E ∧ rG g e ask B (nxF g e F) (nxE g e F E) W C o t ∧ Fr rqF s t)) := by
    intro v u n5 n1 hv hu fu
    unfold m274_76
    exact k_q n5 (k_r (Or.inr ⟨by rw [hv]; exact n1, hv.symm, hu, fu⟩))
  unfold m274
  by_cases c1 : isW g e F E (sL 34) = true
  · refine k_c (rG_take ht h (k := 34) (by decide) (by decide) (by decide) c1) ?_
    rintro r u ⟨rfl, u1, u2⟩
    exact k_q (by decide) (fin 0 u (by decide) (by decide) (by unfold qQ; rw [if_pos c1]) u1 u2)
  refine k_c (rG_notake ht h (k := 34) (by decide) (by decide) (by decide) (fls c1)) ?_
  rintro r u ⟨rfl, _, u1, u2⟩
  refine k_p rfl ?_
  by_cases c2 : isW g e F E (sL 35) = true
  · refine k_c (rG_take ht u1 (k := 35) (by decide) (by decide) (by decide) c2) ?_
    rintro r v ⟨rfl, v1, v2⟩
    exact k_q (by decide) (fin 1 v (by decide) (by decide) (by unfold qQ; rw [if_neg c1, if_pos c2]) v1 (fr_trans u2 v2))
  refine k_c (rG_notake ht u1 (k := 35) (by decide) (by decide) (by decide) (fls c2)) ?_
  rintro r v ⟨rfl, _, v1, v2'⟩
  have v2 := fr_trans u2 v2'
  refine k_p rfl ?_
  by_cases c3 : isW g e F E (sL 36) = true
  · refine k_c (rG_take ht v1 (k := 36) (by decide) (by decide) (by decide) c3) ?_
    rintro r w ⟨rfl, w1, w2⟩
    exact k_q (by decide) (fin 2 w (by decide) (by decide) (by unfold qQ; rw [if_neg c1, if_neg c2, if_pos c3]) w1 (fr_trans v2 w2))
  refine k_c (rG_notake ht v1 (k := 36) (by decide) (by decide) (by decide) (fls c3)) ?_
  rintro r w ⟨rfl, _, w1, w2'⟩
  have w2 := fr_trans v2 w2'
  refine k_p rfl ?_
  by_cases c4 : isW g e F E (sL 37) = true
  · refine k_c (rG_take ht w1 (k := 37) (by decide) (by decide) (by decide) c4) ?_
    rintro r y ⟨rfl, y1, y2⟩
    exact k_q (by decide) (fin 3 y (by decide) (by decide) (by unfold qQ; rw [if_neg c1, if_neg c2, if_neg c3, if_pos c4]) y1 (fr_trans w2 y2))
  refine k_c (rG_notake ht w1 (k := 37) (by decide) (by decide) (by decide) (fls c4)) ?_
  rintro r y ⟨rfl, _, y1, y2'⟩
  have y2 := fr_trans w2 y2'
  refine k_p rfl ?_
  by_cases c5 : isW g e F E (sL 38) = true
  · refine k_c (rG_take ht y1 (k := 38) (by decide) (by decide) (by decide) c5) ?_
    rintro r a ⟨rfl, a1, a2⟩
    exact k_q (by decide) (fin 4 a (by decide) (by decide) (by unfold qQ; rw [if_neg c1, if_neg c2, if_neg c3, if_neg c4, if_pos c5]) a1 (fr_trans y2 a2))
  refine k_c (rG_notake ht y1 (k := 38) (by decide) (by decide) (by decide) (fls c5)) ?_
  rintro r a ⟨rfl, a0, a1, a2'⟩
  have a2 := fr_trans y2 a2'
  refine k_p rfl ?_
  unfold m274_76
  refine k_p rfl ?_
  by_cases c6 : isW g e F E (sL 39) = true
  · refine k_c (rG_asks ht a1 (k := 39) (by decide) (by decide) (by decide) c6) ?_
    rintro _ b ⟨b1, b2⟩
    have eQ : qQ g e F E = 5 := by unfold qQ; rw [if_neg c1, if_neg c2, if_neg c3, if_neg c4, if_neg c5, if_pos c6]
    exact k_r (Or.inr ⟨by rw [eQ]; decide, eQ.symm, b1, fr_trans a2 b2⟩)
  · refine k_c (p159f (l := sL 39) ht a1.1 a1.2.1 (by decide) (by decide) (a1.2.2.2.2.1.2 (268, sL 39) (by decide)) (by decide) (fls c6)) ?_
    rintro _ b ⟨b1, b2, b3⟩
    have eQ : qQ g e F E = -1 := by unfold qQ; rw [if_neg c1, if_neg c2, if_neg c3, if_neg c4, if_neg c5, if_neg c6]
    exact k_r (Or.inl ⟨eQ, rfl, b1, b2, fr_trans a2 (yf_rq b3)⟩)
end
