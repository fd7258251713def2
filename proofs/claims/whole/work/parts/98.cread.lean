/-! ===== the class reads a SUM, a TEST ===== -/
abbrev qcF (b : Nat) (a : Nat) (k : Int) : Prop := cpF a k ∨ (a = b ∧ k = 2) ∨ a = b + 1
abbrev qxF (b : Nat) (a : Nat) (k : Int) : Prop := xF a k ∨ (a = b ∧ k = 2) ∨ a = b + 1
theorem frx {b : Nat} {s t u : zS} (h : Fr (qxF b) s t) (h' : Fr (qcF b) t u) : Fr (qcF b) s u := fr_trans (fr_mono (fun a k z => by omega) h) h'
def cS (b : Nat) (K : List Int) (s : zS) : Prop := s.2.2 4 = b ∧ s.1 b 2 = (K.length : Int) ∧ ∀ i : Nat, i < K.length → s.1 (b + 1) (i : Int) = cDec (K.getD i 0)
def akI (ask : Bool) : Int := if ask = true then 1 else 0
def cG (g : Int → Int) (e : Int) (b : Nat) (ask : Bool) (F E : Int) (K : List Int) (s : zS) : Prop := lxW g e F E ∧ cLx g e F E s ∧ cS b K s ∧ (K.length : Int) ≤ F ∧ s.1 8 2 = akI ask
def cQ (g : Int → Int) (e : Int) (b : Nat) (ask : Bool) (s : zS) (K : List Int) (x : qR) (r : Int) (t : zS) : Prop := match x with
  | .inl q => r = 0 ∧ t.1 1 5 = q.1 ∧ t.1 1 6 = q.2 ∧ Fr (qcF b) s t
  | .inr q => r = 1 ∧ cG g e b ask q.1 q.2.1 (K ++ q.2.2) t ∧ Fr (qxF b) s t
section
variable {x : Option (Int × zS)} {body : Int → zS → Option (Int × zS)} {A : zS → Prop} {Q : Int → zS → Prop}
theorem kB0 (hx : Ok x (fun r t => r = 0 ∧ A t)) (hQ : ∀ t, A t → Q 0 t) : Ok (oC x fun z t => if z = (0 : Int) then some ((0 : Int), t) else body z t) Q := by
  refine k_c hx ?_
  rintro r t ⟨rfl, h⟩
  exact k_p rfl (k_r (hQ t h))
theorem kB1 (hx : Ok x (fun r t => r = 1 ∧ A t)) (hQ : ∀ t, A t → Ok (body 1 t) Q) : Ok (oC x fun z t => if z = (0 : Int) then some ((0 : Int), t) else body z t) Q := by
  refine k_c hx ?_
  rintro r t ⟨rfl, h⟩
  exact k_q (by decide) (hQ t h)
theorem kD (hx : Ok x Q) (h : ∀ r t, Q r t → r = 0 ∨ r = 1) : Ok (oC x fun z t => oD z (some (z, t))) Q := by
  refine k_c hx ?_
  intro r t q
  exact k_d (h r t q) (k_r q)
end
section
variable {g : Int → Int} {e F E : Int} {b : Nat} {ask : Bool} {K : List Int} {s : zS}
theorem cQ_01 {s0 : zS} {x : qR} {r : Int} {t : zS} (h : cQ g e b ask s0 K x r t) : r = 0 ∨ r = 1 := by
  rcases x with q | q
  · exact Or.inl h.1
  · exact Or.inr h.1
theorem cS_fr {t : zS} {A : Nat → Int → Prop} (hA : ∀ a k, A a k → ¬ (a = b ∧ k = 2) ∧ a ≠ b + 1) (hf : Fr A s t) (h : cS b K s) : cS b K t :=
  ⟨by rw [hf.2.2]; exact h.1, by rw [hf.1 b 2 (fun z => (hA b 2 z).1 ⟨rfl, rfl⟩)]; exact h.2.1, fun i hi => by rw [hf.1 (b + 1) _ (fun z => (hA _ _ z).2 rfl)]; exact h.2.2 i hi⟩
theorem cG_adv (hb : b = 5 ∨ 60 ≤ b) (ht : tOk g e) (h : cG g e b ask F E K s) (hF : F < e) (h5 : tkK g e F E ≠ 5) : Ok (m76 s) (fun _ t => cG g e b ask (nxF g e F) (nxE g e F E) K t ∧ Fr (qxF b) s t) := by
  obtain ⟨h1, h2, h3, h4, h6⟩ := h
  refine k_m (p76a ht h1 h2 hF h5) ?_
  rintro _ t ⟨t1, t2, t3⟩
  have := (nx_any h1 hF).2
  exact ⟨⟨t2, t1, cS_fr (fun a k z => by omega) t3 h3, by omega, by rw [t3.1 8 2 (by omega)]; exact h6⟩, fr_mono (fun a k z => Or.inl (by omega)) t3⟩
theorem p28 {c v : Int} (hb : b = 5 ∨ 60 ≤ b) (h : cS b K s) (hK : K.length < 1600) (hv : v = cDec c) : Ok (m28 v s) (fun r t => r = 1 ∧ cS b (K ++ [c]) t ∧ Fr (fun a k => (a = b ∧ k = 2) ∨ a = b + 1) s t) := by
  obtain ⟨h1, h2, h3⟩ := h
  unfold m28
  refine k_v ?_
  rw [h1]
  refine k_q (by omega) (k_v ?_)
  refine k_q (by omega) (k_c (Q := fun _ t => cS b (K ++ [c]) t ∧ Fr (fun a k => (a = b ∧ k = 2) ∨ a = b + 1) s t) ?_ (fun r t q => k_r ⟨rfl, q⟩))
  unfold m19
  refine k_v ?_
  rw [h2]
  refine k_p (by omega) (k_v ?_)
  refine k_x (by omega) (by omega) (k_v (k_v ?_))
  rw [sI_a (by omega), h2]
  refine k_z (by omega) (by omega) (k_v (k_r ⟨⟨h1, ?_, fun i hi => ?_⟩, fr_trans (fr_I (Or.inr rfl)) (fr_I (Or.inl ⟨rfl, rfl⟩))⟩))
  · rw [sI_e, List.length_append, List.length_singleton]; omega
  · rw [List.length_append, List.length_singleton] at hi
    rw [sI_a (by omega)]
    by_cases d : i = K.length
    · subst d
      rw [sI_e, hv]
      simp [List.getD_eq_getElem?_getD]
    · rw [sI_k (by omega), h3 i (by omega)]
      simp only [List.getD_eq_getElem?_getD]
      rw [List.getElem?_append_left (by omega)]
theorem cG_w {c v : Int} (hb : b = 5 ∨ 60 ≤ b) (ht : tOk g e) (h : cG g e b ask F E K s) (hK : (K.length : Int) < F) (hv : v = cDec c) : Ok (m28 v s) (fun r t => r = 1 ∧ cG g e b ask F E (K ++ [c]) t ∧ Fr (qxF b) s t) := by
  obtain ⟨h1, h2, h3, h4, h6⟩ := h
  have := ht.2.1
  have := h1.2.1
  refine k_m (p28 hb h3 (by omega) hv) ?_
  rintro r t ⟨t1, t2, t3⟩
  refine ⟨t1, ⟨h1, cLx_fr (fun a k z => by omega) t3 h2, t2, ?_, by rw [t3.1 8 2 (by omega)]; exact h6⟩, fr_mono (fun a k z => Or.inr z) t3⟩
  rw [List.length_append, List.length_singleton]
  omega
theorem p35t {o : Int} (hb : b = 5 ∨ 60 ≤ b) (ht : tOk g e) (h : cG g e b ask F E K s) (hF : F < e) (h5 : tkK g e F E ≠ 5) (ho : o < 6) : Ok (m35 o s) (fun r t => r = 1 ∧ cG g e b ask (nxF g e F) (nxE g e F E) K t ∧ Fr (qxF b) s t) := by
  unfold m35
  exact k_p ho (k_c (cG_adv hb ht h hF h5) (fun r t q => k_r ⟨rfl, q⟩))
theorem p35f {o : Int} (h : cG g e b ask F E K s) (ho : ¬ o < 6) : Ok (m35 o s) (fun r t => r = 0 ∧ t.1 1 5 = 4 ∧ t.1 1 6 = F ∧ Fr (qcF b) s t) := by
  unfold m35
  refine k_q ho (k_v ?_)
  rw [h.2.1.2.2.1]
  refine k_c p77 ?_
  rintro r t ⟨rfl, t1, t2, t3⟩
  exact k_d (Or.inl rfl) (k_r ⟨rfl, t1, t2, fr_mono (fun a k z => Or.inl (by omega)) t3⟩)
theorem p78g (h : cG g e b ask F E K s) : Ok (m78 s) (fun r t => r = 0 ∧ t.1 1 5 = 1 ∧ t.1 1 6 = F ∧ Fr (qcF b) s t) := by
  refine k_m (p78 h.2.1.2.2.1) ?_
  rintro r t ⟨t0, t1, t2, t3⟩
  exact ⟨t0, t1, t2, fr_mono (fun a k z => Or.inl (by omega)) t3⟩
theorem p81t {c : Int} (hb : b = 5 ∨ 60 ≤ b) (ht : tOk g e) (h : cG g e b ask F E K s) (hc : kindB c = 3) (hF : F < e ∧ g F = c) : Ok (m81 c s) (fun r t => r = 1 ∧ cG g e b ask (nxF g e F) (nxE g e F E) K t ∧ Fr (qxF b) s t) := by
  unfold m81
  refine k_e (e79 ht h.1 h.2.1 hc) ?_
  rw [if_pos hF]
  exact k_q (by decide) (k_c (cG_adv hb ht h hF.1 (by rw [tkK_3 hF.1 (by rw [hF.2]; exact hc)]; decide)) (fun r t q => k_r ⟨rfl, q⟩))
theorem p81f {c : Int} (ht : tOk g e) (h : cG g e b ask F E K s) (hc : kindB c = 3) (hF : ¬ (F < e ∧ g F = c)) : Ok (m81 c s) (fun r t => r = 0 ∧ t.1 1 5 = 1 ∧ t.1 1 6 = F ∧ Fr (qcF b) s t) := by
  unfold m81
  refine k_e (e79 ht h.1 h.2.1 hc) ?_
  rw [if_neg hF]
  refine k_p rfl (k_c (p78g h) ?_)
  rintro r t ⟨rfl, t1⟩
  exact k_d (Or.inl rfl) (k_r ⟨rfl, t1⟩)
theorem e36 (ht : tOk g e) (hW : lxW g e F E) (h : cLx g e F E s) : m36 s = some (if isW g e F E (sL 19) = true then 3 else if isW g e F E (sL 20) = true then 4 else if isW g e F E (sL 21) = true then 5 else if isW g e F E (sL 22) = true then 2 else if isW g e F E (sL 23) = true then 6 else -1, s) := by
  unfold m36
  have e8 := fun k => e80 (s := s) ht hW h k
  by_cases c1 : isW g e F E (sL 19) = true
  · rw [e8, oC_some, if_pos c1, if_neg (by decide), if_pos c1]
  · rw [e8, oC_some, if_neg c1, if_pos rfl, if_neg c1]
    by_cases c2 : isW g e F E (sL 20) = true
    · rw [e8, oC_some, if_pos c2, if_neg (by decide), if_pos c2]
    · rw [e8, oC_some, if_neg c2, if_pos rfl, if_neg c2]
      by_cases c3 : isW g e F E (sL 21) = true
      · rw [e8, oC_some, if_pos c3, if_neg (by decide), if_pos c3]
      · rw [e8, oC_some, if_neg c3, if_pos rfl, if_neg c3]
        by_cases c4 : isW g e F E (sL 22) = true
        · rw [e8, oC_some, if_pos c4, if_neg (by decide), if_pos c4]
        · rw [e8, oC_some, if_neg c4, if_pos rfl, if_neg c4]
          by_cases c5 : isW g e F E (sL 23) = true
          · rw [e8, oC_some, if_pos c5, if_neg (by decide), if_pos c5]
          · rw [e8, oC_some, if_neg c5, if_pos rfl, if_neg c5]
theorem e37 (ht : tOk g e) (hW : lxW g e F E) (h : cLx g e F E s) : m37 s = some (if isW g e F E (sL 24) = true then 0 else if isW g e F E (sL 25) = true then 1 else if isW g e F E (sL 26) = true then 7 else if isW g e F E (sL 27) = true then 8 else -1, s) := by
  unfold m37
  have e8 := fun k => e80 (s := s) ht hW h k
  by_cases c1 : isW g e F E (sL 24) = true
  · rw [e8, oC_some, if_pos c1, if_neg (by decide), if_pos c1]
  · rw [e8, oC_some, if_neg c1, if_pos rfl, if_neg c1]
    by_cases c2 : isW g e F E (sL 25) = true
    · rw [e8, oC_some, if_pos c2, if_neg (by decide), if_pos c2]
    · rw [e8, oC_some, if_neg c2, if_pos rfl, if_neg c2]
      by_cases c3 : isW g e F E (sL 26) = true
      · rw [e8, oC_some, if_pos c3, if_neg (by decide), if_pos c3]
      · rw [e8, oC_some, if_neg c3, if_pos rfl, if_neg c3]
        by_cases c4 : isW g e F E (sL 27) = true
        · rw [e8, oC_some, if_pos c4, if_neg (by decide), if_pos c4]
        · rw [e8, oC_some, if_neg c4, if_pos rfl, if_neg c4]
theorem e30 (ht : tOk g e) (hW : lxW g e F E) (h : cLx g e F E s) {lv : Int} : m30 lv s = some (if qJ g e lv F E = -1 then -1 else 19999 + qJ g e lv F E, s) := by
  unfold m30 qJ
  have e8 := fun k => e80 (s := s) ht hW h k
  have e7 := fun c (hc : kindB c = 3) => e79 (s := s) ht hW h hc
  by_cases l0 : lv = 0
  · rw [if_pos l0, if_pos l0, e8, oC_some]
    by_cases c : isW g e F E (sL 28) = true
    · rw [if_pos c, if_neg (by decide), if_pos c]; rfl
    · rw [if_neg c, if_pos rfl, if_neg c]; rfl
  · rw [if_neg l0, if_neg l0]
    by_cases l1 : lv = 1
    · rw [if_pos l1, if_pos l1, e8, oC_some]
      by_cases c : isW g e F E (sL 29) = true
      · rw [if_pos c, if_neg (by decide), if_pos c]; rfl
      · rw [if_neg c, if_pos rfl, if_neg c]; rfl
    · rw [if_neg l1, if_neg l1]
      by_cases l3 : lv = 3
      · rw [if_pos l3, if_pos l3, e7 43 (by decide), oC_some]
        by_cases c : F < e ∧ g F = 43
        · rw [if_pos c, if_neg (by decide), if_pos c]; rfl
        · rw [if_neg c, if_pos rfl, if_neg c, e7 45 (by decide), oC_some]
          by_cases d : F < e ∧ g F = 45
          · rw [if_pos d, if_neg (by decide), if_pos d]; rfl
          · rw [if_neg d, if_pos rfl, if_neg d]; rfl
      · rw [if_neg l3, if_neg l3, e7 42 (by decide), oC_some]
        by_cases c : F < e ∧ g F = 42
        · rw [if_pos c, if_neg (by decide), if_pos c]; rfl
        · rw [if_neg c, if_pos rfl, if_neg c, e7 47 (by decide), oC_some]
          by_cases d : F < e ∧ g F = 47
          · rw [if_pos d, if_neg (by decide), if_pos d]; rfl
          · rw [if_neg d, if_pos rfl, if_neg d]; rfl
theorem qJ_in {lv : Int} : qJ g e lv F E = -1 ∨ (1 ≤ qJ g e lv F E ∧ qJ g e lv F E ≤ 11 ∧ tkK g e F E ≠ 5 ∧ F < e) := by
  unfold qJ
  have w : ∀ l, isW g e F E l = true → tkK g e F E ≠ 5 ∧ F < e := fun l z => ⟨by rw [(isW_t z).1]; decide, isW_F z⟩
  have f : ∀ c, kindB c = 3 → (F < e ∧ g F = c) → tkK g e F E ≠ 5 ∧ F < e := fun c hc z => ⟨by rw [tkK_3 z.1 (by rw [z.2]; exact hc)]; decide, z.1⟩
  by_cases l0 : lv = 0
  · rw [if_pos l0]
    by_cases c : isW g e F E (sL 28) = true
    · rw [if_pos c]; exact Or.inr ⟨by omega, by omega, w _ c⟩
    · rw [if_neg c]; exact Or.inl rfl
  · rw [if_neg l0]
    by_cases l1 : lv = 1
    · rw [if_pos l1]
      by_cases c : isW g e F E (sL 29) = true
      · rw [if_pos c]; exact Or.inr ⟨by omega, by omega, w _ c⟩
      · rw [if_neg c]; exact Or.inl rfl
    · rw [if_neg l1]
      by_cases l3 : lv = 3
      · rw [if_pos l3]
        by_cases c : F < e ∧ g F = 43
        · rw [if_pos c]; exact Or.inr ⟨by omega, by omega, f 43 (by decide) c⟩
        · rw [if_neg c]
          by_cases d : F < e ∧ g F = 45
          · rw [if_pos d]; exact Or.inr ⟨by omega, by omega, f 45 (by decide) d⟩
          · rw [if_neg d]; exact Or.inl rfl
      · rw [if_neg l3]
        by_cases c : F < e ∧ g F = 42
        · rw [if_pos c]; exact Or.inr ⟨by omega, by omega, f 42 (by decide) c⟩
        · rw [if_neg c]
          by_cases d : F < e ∧ g F = 47
          · rw [if_pos d]; exact Or.inr ⟨by omega, by omega, f 47 (by decide) d⟩
          · rw [if_neg d]; exact Or.inl rfl
end
section
variable {g : Int → Int} {e : Int} {b : Nat} {ask : Bool} {f : Int → Int → zS → Option (Int × zS)} {rd : Int → Int → Int → Int → qR} {n : Int}
/-- what is known of a shallower read -/
def cRd (g : Int → Int) (e : Int) (b : Nat) (ask : Bool) (f : Int → Int → zS → Option (Int × zS)) (rd : Int → Int → Int → Int → qR) (n : Int) : Prop := (∀ lv o F E K s, 0 ≤ lv → lv ≤ 5 → 0 ≤ o → o ≤ 6 → 3 * (6 - o) + (6 - lv) < n → cG g e b ask F E K s → Ok (f lv o s) (cQ g e b ask s K (rd lv o F E))) ∧ ∀ lv o F E q, rd lv o F E = .inr q → lxW g e F E → qLen g e F E q
theorem p29_37 (hb : b = 5 ∨ 60 ≤ b) (ht : tOk g e) (hf : cRd g e b ask f rd n) {lv o : Int} {s0 : zS} {K : List Int} (v0 : 0 ≤ lv) (v4 : lv ≤ 4) (o0 : 0 ≤ o) (o6 : o ≤ 6) (hn : 3 * (6 - o) + (6 - lv) ≤ n) : ∀ (m j : Nat) (x3 F E : Int) (l : List Int) (s : zS), x3 = 1600 - (j : Int) → 0 ≤ x3 → j < m → cG g e b ask F E (K ++ l) s → Fr (qxF b) s0 s → Ok (m29_37 f m lv o x3 s) (cQ g e b ask s0 K (qL g e (rd (lv + 1) o) lv j F E l)) := by
  intro m
  induction m with
  | zero => intro j x3 F E l s _ _ h; omega
  | succ m ih =>
    intro j x3 F E l s hx x0 hj h hs
    rw [m29_37]
    cases j with
    | zero => exact k_q (by omega) (k_r ⟨rfl, h, hs⟩)
    | succ j =>
      refine k_p (by omega) (k_e (e30 ht h.1 h.2.1) ?_)
      unfold qL
      by_cases z : qJ g e lv F E = -1
      · rw [if_pos z, if_pos z]
        exact k_p rfl (k_r ⟨rfl, h, hs⟩)
      · rw [if_neg z, if_neg z]
        obtain ⟨j1, j2, j3, j4⟩ := (qJ_in (g := g) (e := e) (F := F) (E := E) (lv := lv)).resolve_left z
        refine k_q (by omega) (k_c (cG_adv hb ht h j4 j3) ?_)
        rintro _ t ⟨t1, t2⟩
        refine k_z (by omega) (by omega) ?_
        have hr := hf.1 (lv + 1) o _ _ (K ++ l) t (by omega) (by omega) o0 o6 (by omega) t1
        rcases hy : rd (lv + 1) o (nxF g e F) (nxE g e F E) with q | q
        · rw [hy] at hr
          exact kB0 hr (fun u hu => ⟨rfl, hu.1, hu.2.1, frx hs (frx t2 hu.2.2)⟩)
        · rw [hy] at hr
          have hl := hf.2 _ _ _ _ _ hy t1.1
          have hl2 := hl.2.1
          have hK := t1.2.2.2.1
          have hKl := h.2.2.2.1
          have hgt := (nx_any h.1 j4).2
          refine kB1 hr (fun u hu => k_c (cG_w (c := qJ g e lv F E) hb ht hu.1 ?_ (by rw [cDec_op j1 (by omega)])) ?_)
          · simp only [List.length_append] at hKl ⊢
            omega
          · rintro _ v ⟨_, v1, v2⟩
            refine k_z (by omega) (by omega) ?_
            have := ih j (x3 + 1) q.1 q.2.1 (l ++ (q.2.2 ++ [qJ g e lv F E])) v (by omega) (by omega) (by omega) (by rw [List.append_assoc, List.append_assoc] at v1; exact v1) (fr_trans hs (fr_trans t2 (fr_trans hu.2 v2)))
            exact this
theorem p34 (hb : b = 5 ∨ 60 ≤ b) (ht : tOk g e) (hf : cRd g e b ask f rd n) {o F E act : Int} {s : zS} {K : List Int} (o0 : 0 ≤ o) (o6 : o ≤ 6) (hn : 3 * (6 - o) + 1 ≤ n) (h : cG g e b ask F E K s) (hk : tkK g e F E = 1) (ha : 1 ≤ act) (ha' : act ≤ 12) : Ok (m34 f (19999 + act) o s) (cQ g e b ask s K (qC g e rd act o F E)) := by
  unfold m34 qC
  refine k_c (cG_adv hb ht h (tkK_1 hk).1 (by omega)) ?_
  rintro _ t ⟨t1, t2⟩
  have g1 := (nx_any h.1 (tkK_1 hk).1).2
  refine k_e (e79 ht t1.1 t1.2.1 (by decide)) ?_
  by_cases z : nxF g e F < e ∧ g (nxF g e F) = 40
  · rw [if_pos z, if_pos z]
    refine k_q (by decide) ?_
    unfold qO
    by_cases oo : o < 6
    · rw [if_pos oo]
      dsimp only
      refine kB1 (p35t hb ht t1 z.1 (by rw [tkK_3 z.1 (by rw [z.2]; decide)]; decide) oo) (fun u hu => k_z (by omega) (by omega) ?_)
      have g2 := (nx_any t1.1 z.1).2
      have hr := hf.1 3 (o + 1) _ _ K u (by omega) (by omega) (by omega) (by omega) (by omega) hu.1
      rcases hy : rd 3 (o + 1) (nxF g e (nxF g e F)) (nxE g e (nxF g e F) (nxE g e F E)) with q | q
      · rw [hy] at hr
        exact kB0 hr (fun v hv => ⟨rfl, hv.1, hv.2.1, frx t2 (frx hu.2 hv.2.2)⟩)
      · rw [hy] at hr
        have hl := hf.2 _ _ _ _ _ hy hu.1.1
        refine kB1 hr (fun v hv => ?_)
        show Ok _ (cQ g e b ask s K (qS g e 44 q.1 q.2.1 fun F4 E4 => qB (rd 3 (o + 1) F4 E4) fun F5 E5 l' => qS g e 41 F5 E5 fun F6 E6 => .inr (F6, E6, q.2.2 ++ (l' ++ [act]))))
        unfold qS
        by_cases y : q.1 < e ∧ g q.1 = 44
        · rw [if_pos y]
          dsimp only
          refine kB1 (p81t hb ht hv.1 (by decide) y) (fun w hw => k_z (by omega) (by omega) ?_)
          have g3 := (nx_any hv.1.1 y.1).2
          have hr' := hf.1 3 (o + 1) _ _ (K ++ q.2.2) w (by omega) (by omega) (by omega) (by omega) (by omega) hw.1
          rcases hy' : rd 3 (o + 1) (nxF g e q.1) (nxE g e q.1 q.2.1) with q' | q'
          · rw [hy'] at hr'
            exact kB0 hr' (fun v' hv' => ⟨rfl, hv'.1, hv'.2.1, frx t2 (frx hu.2 (frx hv.2 (frx hw.2 hv'.2.2)))⟩)
          · rw [hy'] at hr'
            have hl' := hf.2 _ _ _ _ _ hy' hw.1.1
            refine kB1 hr' (fun v' hv' => ?_)
            show Ok _ (cQ g e b ask s K (if q'.1 < e ∧ g q'.1 = 41 then .inr (nxF g e q'.1, nxE g e q'.1 q'.2.1, q.2.2 ++ (q'.2.2 ++ [act])) else .inl (1, q'.1)))
            by_cases x : q'.1 < e ∧ g q'.1 = 41
            · rw [if_pos x]
              refine kB1 (p81t hb ht hv'.1 (by decide) x) (fun w' hw' => ?_)
              have g4 := (nx_any hv'.1.1 x.1).2
              have a1 := hl.2.1
              have a2 := hl'.2.1
              have a3 := h.2.2.2.1
              refine kB1 (cG_w (c := act) hb ht hw'.1 ?_ (by rw [cDec_op ha ha'])) (fun w2 hw2 => k_r ⟨rfl, ?_, fr_trans t2 (fr_trans hu.2 (fr_trans hv.2 (fr_trans hw.2 (fr_trans hv'.2 (fr_trans hw'.2 hw2.2)))))⟩)
              · simp only [List.length_append]
                omega
              · have := hw2.1
                rw [List.append_assoc, List.append_assoc] at this
                exact this
            · rw [if_neg x]
              exact kB0 (p81f ht hv'.1 (by decide) x) (fun w' hw' => ⟨rfl, hw'.1, hw'.2.1, frx t2 (frx hu.2 (frx hv.2 (frx hw.2 (frx hv'.2 hw'.2.2))))⟩)
        · rw [if_neg y]
          exact kB0 (p81f ht hv.1 (by decide) y) (fun w hw => ⟨rfl, hw.1, hw.2.1, frx t2 (frx hu.2 (frx hv.2 hw.2.2))⟩)
    · rw [if_neg oo]
      exact kB0 (p35f t1 oo) (fun u hu => ⟨rfl, hu.1, hu.2.1, frx t2 hu.2.2⟩)
  · rw [if_neg z, if_neg z]
    refine k_p rfl (k_c (p78g t1) ?_)
    rintro r u ⟨rfl, hu⟩
    exact k_d (Or.inl rfl) (k_r ⟨rfl, hu.1, hu.2.1, frx t2 hu.2.2⟩)
end
