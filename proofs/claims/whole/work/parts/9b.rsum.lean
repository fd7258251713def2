/-! ===== the reference reads a SUM: its steps ===== -/
def inLw (ask : Bool) : Int := if ask = true then 0 else 1
def rX (ask : Bool) (s : zS) : Prop := (s.1 209 53 = inLw ask ∧ s.1 209 6 = -1) ∧ ∀ q, q ∈ wTab → rWd s q.1 q.2
abbrev rsF (a : Nat) (k : Int) : Prop := (a = 209 ∧ (k = 2 ∨ k = 4 ∨ k = 100 ∨ k = 102 ∨ k = 103 ∨ k = 104)) ∨ a = 285 ∨ a = 286
theorem rX_fr {ask : Bool} {s t : zS} (hf : Fr rsF s t) (h : rX ask s) : rX ask t := ⟨⟨by rw [hf.1 209 53 (by omega)]; exact h.1.1, by rw [hf.1 209 6 (by omega)]; exact h.1.2⟩, fun q hq i hi => by rw [hf.1 q.1 _ (by have := wTab_at q hq; omega)]; exact h.2 q hq i hi⟩
/-- with a fault: what has changed, and how many codes there are -/
def fF (s t : zS) : Prop := Fr rqF s t ∧ 0 ≤ t.1 209 100 ∧ t.1 209 100 ≤ 1610
theorem fF_tr {s t u : zS} (h : Fr rqF s t) (h' : fF t u) : fF s u := ⟨fr_trans h h'.1, h'.2⟩
def rG (g : Int → Int) (e : Int) (ask : Bool) (B F E : Int) (W C : List Int) (o : Int) (s : zS) : Prop := lxW g e F E ∧ rLx g e F E s ∧ rSt B W C o s ∧ ((C.length : Int) + (W.length : Int) ≤ F) ∧ rX ask s ∧ (0 ≤ B ∧ B ≤ (W.length : Int)) ∧ 0 ≤ o ∧ o ≤ 6
def uR (x1 : Int) (n1 : Nat) (z9 : Int) (s : zS) : Option (Int × zS) := if z9 = (0 : Int) then m261_15 n1 x1 (0 : Int) s else m261_15 n1 x1 (1 : Int) s
def uPost (x1 : Int) (n1 n3 : Nat) (s : zS) : Option (Int × zS) := oC (m260_0 n3 s) fun z9 s10 => uR x1 n1 z9 s10
def uEnd (x1 : Int) (n1 n3 n4 : Nat) (s : zS) : Option (Int × zS) := oC (m258_0 n4 s) fun _ u => uPost x1 n1 n3 u
def uRest (x1 : Int) (n1 : Nat) (s : zS) : Option (Int × zS) := oV (s.1 209 5) fun z7 => if z7 = (0 : Int) then uPost x1 n1 zFu s else m261_15 n1 x1 (0 : Int) s
def uPre (x1 : Int) (n1 n2 : Nat) (s : zS) : Option (Int × zS) := oC (m259_2 n2 (1 : Int) s) fun _ s5 => uRest x1 n1 s5
theorem oC_as {x : Option (Int × zS)} {k k' : Int → zS → Option (Int × zS)} : oC (oC x k) k' = oC x fun r s => oC (k r s) k' := by
  cases x <;> rfl
section
variable {g : Int → Int} {e F E B o x1 : Int} {ask : Bool} {W C : List Int} {s t : zS} {Q : Int → zS → Prop} {n1 n2 n3 : Nat}
theorem u15 (h : s.1 209 5 = 0) : m261_15 (n1 + 1) x1 1 s = uPre x1 n1 zFu s := by
  rw [m261_15, if_neg (by decide), oV_eq, h, if_pos rfl]
  rfl
theorem u53 (h : s.1 209 5 ≠ 0) : m261_53 zFu x1 s = some (0, sI s 209 104 x1) := by
  have hz : zFu = 999999 + 1 := rfl
  rw [hz, m261_53, oV_eq, if_neg h]
  rfl
/-- with a fault it ends -/
theorem uBad (h : s.1 209 5 ≠ 0) : uRest x1 (n1 + 1) s = some (0, sI s 209 104 x1) := by
  unfold uRest
  rw [oV_eq, if_neg h, m261_15, if_pos rfl, u53 h]
theorem uPre_bad (h : s.1 209 5 ≠ 0) : uPre x1 (n1 + 1) (n2 + 1) s = some (0, sI s 209 104 x1) := by
  unfold uPre
  rw [m259_2, if_neg (by decide), oV_eq, if_neg h]
  unfold m259_186
  rw [oV_eq, if_neg h, oC_some, uBad h]
theorem uFail {w p : Int} (h5 : s.1 209 5 = w) (h6 : s.1 209 6 = p) (h100 : 0 ≤ s.1 209 100 ∧ s.1 209 100 ≤ 1610) (hQ : ∀ r t, t.1 209 5 = w → t.1 209 6 = p → fF s t → Q r t) : Ok (some (0, sI s 209 104 x1)) Q :=
  k_r (hQ _ _ (by rw [sI_k (by omega)]; exact h5) (by rw [sI_k (by omega)]; exact h6) ⟨fr_I (by omega), by rw [sI_k (by omega)]; exact h100⟩)
theorem rG_100 (ht : tOk g e) (h : rG g e ask B F E W C o s) (hf : t.1 209 100 = s.1 209 100) : 0 ≤ t.1 209 100 ∧ t.1 209 100 ≤ 1610 := by
  have h1 := ht.2.1
  have h2 := h.1.2.1
  have h3 := h.2.2.2.1
  have h4 := h.2.2.1.2.2.1
  omega
theorem rG_lex {F' E' : Int} (h : rG g e ask B F E W C o s) (hl : rLx g e F' E' t) (hW : lxW g e F' E') (hF : F ≤ F') (hf : Fr yF s t) : rG g e ask B F' E' W C o t := by
  obtain ⟨h1, h2, h3, h4, h5, h6⟩ := h
  exact ⟨hW, hl, rSt_fr (fun a k z => by omega) hf h3, by omega, rX_fr (fr_mono (fun a k z => by omega) hf) h5, h6⟩
theorem yF_rq (h : Fr yF s t) : Fr rqF s t := fr_mono (fun a k z => by omega) h
theorem rk_rq (h : Fr rkF s t) : Fr rqF s t := fr_mono (fun a k z => by omega) h
/-- the stacks have changed alone -/
theorem rG_st {W' C' : List Int} {o' : Int} (h : rG g e ask B F E W C o s) (hs : rSt B W' C' o' t) (hf : Fr rkF s t) (hl : (C'.length : Int) + (W'.length : Int) ≤ F) (hB : B ≤ (W'.length : Int)) (ho : 0 ≤ o' ∧ o' ≤ 6) : rG g e ask B F E W' C' o' t := by
  obtain ⟨h1, h2, h3, h4, h5, h6, h7⟩ := h
  exact ⟨h1, rLx_fr (A := rkF) (fun a k z => by omega) (frj_of hf) h2, hs, hl, rX_fr (fr_mono (fun a k z => by omega) hf) h5, ⟨h6.1, hB⟩, ho⟩
theorem rG_len (ht : tOk g e) (h : rG g e ask B F E W C o s) : C.length + W.length ≤ 1600 := by
  have := ht.2.1
  have := h.1.2.1
  have := h.2.2.2.1
  omega
theorem rG_look (ht : tOk g e) (h : rG g e ask B F E W C o s) : Ok (m156 s) (fun r t => r = lkV g e F ∧ t.1 209 2 = F ∧ rG g e ask B F E W C o t ∧ Fr rqF s t) := by
  refine k_m (p156 ht h.2.1) ?_
  rintro r t ⟨t1, t2, t3, t4⟩
  exact ⟨t1, t2, rG_lex h t3 h.1 (Int.le_refl _) t4, yF_rq t4⟩
theorem rG_sign {c : Int} (ht : tOk g e) (h : rG g e ask B F E W C o s) (hc : kindB c = 3) (hF : F < e ∧ g F = c) : Ok (m160 c s) (fun r t => r = 1 ∧ t.1 209 2 = F + 1 ∧ rG g e ask B (nxF g e F) (nxE g e F E) W C o t ∧ Fr rqF s t) := by
  refine k_m (p160t ht h.1 h.2.1 hc hF.1 hF.2) ?_
  rintro r t ⟨t1, t2, t3, t4⟩
  have := nx_any h.1 hF.1
  exact ⟨t1, t2, rG_lex h t3 this.1 (by omega) t4, yF_rq t4⟩
theorem rG_nosign {c : Int} (ht : tOk g e) (h : rG g e ask B F E W C o s) (hc0 : 0 ≤ c) (hF : ¬ (F < e ∧ g F = c)) : Ok (m160 c s) (fun r t => r = 0 ∧ t.1 209 2 = F ∧ rG g e ask B F E W C o t ∧ Fr rqF s t) := by
  refine k_m (p160f ht h.2.1 hc0 hF) ?_
  rintro r t ⟨t1, t2, t3, t4⟩
  exact ⟨t1, t2, rG_lex h t3 h.1 (Int.le_refl _) t4, yF_rq t4⟩
theorem p260_162 {x : Int} (hW3 : W.headD 0 ≠ 3) (hW4 : W.headD 0 ≠ 4) : ∀ (pd : List Int) (n : Nat) (C : List Int) (s : zS), rSt B (pd ++ W) C o s → (∀ y ∈ pd, y = 3 ∨ y = 4) → C.length + (pd ++ W).length ≤ 1600 → pd.length < n → Ok (m260_162 n x s) (fun r t => r = 1 ∧ rSt B (x :: W) (C ++ pd) o t ∧ Fr rkF s t) := by
  intro pd
  induction pd with
  | nil =>
    intro n C s h _ h16 hn
    obtain ⟨n, rfl⟩ : ∃ m, n = m + 1 := ⟨n - 1, by simp only [List.length_nil] at hn; omega⟩
    rw [List.nil_append] at *
    rw [m260_162]
    refine k_e (e250 h (by omega) (by decide)) ?_
    rw [if_neg hW3]
    refine k_p rfl (k_e (e250 h (by omega) (by decide)) ?_)
    rw [if_neg hW4]
    refine k_p rfl (k_v ?_)
    rw [h.2.1]
    refine k_x (by omega) (by omega) (k_v (k_v ?_))
    rw [sI_a (by omega), h.2.1]
    refine k_z (by omega) (by omega) (k_v (k_r ⟨rfl, ?_, fr_trans (fr_I (by omega)) (fr_I (by omega))⟩))
    rw [List.append_nil]
    exact rSt_push h
  | cons y pd ih =>
    intro n C s h hp h16 hn
    rw [List.length_cons] at hn
    obtain ⟨n, rfl⟩ : ∃ m, n = m + 1 := ⟨n - 1, by omega⟩
    have hy := hp y (List.mem_cons_self ..)
    have hl : C.length + (pd ++ W).length + 1 ≤ 1600 := by
      simp only [List.cons_append, List.length_cons] at h16; omega
    have drop : Ok (m251 s) (fun _ t => Ok (m260_162 n x t) (fun r u => r = 1 ∧ rSt B (x :: W) (C ++ y :: pd) o u ∧ Fr rkF s u)) := by
      refine k_m (p251 (W := pd ++ W) h (by omega) (by omega)) ?_
      rintro _ t ⟨t1, t2⟩
      refine k_m (ih n (C ++ [y]) t t1 (fun z hz => hp z (List.mem_cons_of_mem _ hz)) (by rw [List.length_append, List.length_singleton]; omega) (by omega)) ?_
      rintro r u ⟨u1, u2, u3⟩
      rw [List.append_assoc] at u2
      exact ⟨u1, u2, fr_trans t2 u3⟩
    rw [m260_162]
    refine k_e (e250 h (by omega) (by decide)) ?_
    show Ok (if (if y = 3 then (1 : Int) else 0) = 0 then _ else _) _
    by_cases c : y = 3
    · rw [if_pos c]
      exact k_q (by decide) (k_c drop (fun _ t q => q))
    · rw [if_neg c]
      refine k_p rfl (k_e (e250 h (by omega) (by decide)) ?_)
      show Ok (if (if y = 4 then (1 : Int) else 0) = 0 then _ else _) _
      rw [if_pos (by omega : y = 4)]
      exact k_q (by decide) (k_c drop (fun _ t q => q))
theorem p260_247 {x : Int} (hW1 : W.headD 0 ≠ 1) (hW2 : W.headD 0 ≠ 2) (hW3 : W.headD 0 ≠ 3) (hW4 : W.headD 0 ≠ 4) : ∀ (pd : List Int) (n : Nat) (C : List Int) (s : zS), rSt B (pd ++ W) C o s → (∀ y ∈ pd, 1 ≤ y ∧ y ≤ 4) → C.length + (pd ++ W).length ≤ 1600 → pd.length < n → Ok (m260_247 n x s) (fun r t => r = 1 ∧ rSt B (x :: W) (C ++ pd) o t ∧ Fr rkF s t) := by
  intro pd
  induction pd with
  | nil =>
    intro n C s h _ h16 hn
    obtain ⟨n, rfl⟩ : ∃ m, n = m + 1 := ⟨n - 1, by simp only [List.length_nil] at hn; omega⟩
    rw [List.nil_append] at *
    rw [m260_247]
    refine k_e (e250 h (by omega) (by decide)) ?_
    rw [if_neg hW3]
    refine k_p rfl (k_e (e250 h (by omega) (by decide)) ?_)
    rw [if_neg hW4]
    refine k_p rfl (k_e (e250 h (by omega) (by decide)) ?_)
    rw [if_neg hW1]
    refine k_p rfl (k_e (e250 h (by omega) (by decide)) ?_)
    rw [if_neg hW2]
    refine k_p rfl (k_v ?_)
    rw [h.2.1]
    refine k_x (by omega) (by omega) (k_v (k_v ?_))
    rw [sI_a (by omega), h.2.1]
    refine k_z (by omega) (by omega) (k_v (k_r ⟨rfl, ?_, fr_trans (fr_I (by omega)) (fr_I (by omega))⟩))
    rw [List.append_nil]
    exact rSt_push h
  | cons y pd ih =>
    intro n C s h hp h16 hn
    rw [List.length_cons] at hn
    obtain ⟨n, rfl⟩ : ∃ m, n = m + 1 := ⟨n - 1, by omega⟩
    have hy := hp y (List.mem_cons_self ..)
    have hl : C.length + (pd ++ W).length + 1 ≤ 1600 := by
      simp only [List.cons_append, List.length_cons] at h16; omega
    have drop : Ok (m251 s) (fun _ t => Ok (m260_247 n x t) (fun r u => r = 1 ∧ rSt B (x :: W) (C ++ y :: pd) o u ∧ Fr rkF s u)) := by
      refine k_m (p251 (W := pd ++ W) h (by omega) (by omega)) ?_
      rintro _ t ⟨t1, t2⟩
      refine k_m (ih n (C ++ [y]) t t1 (fun z hz => hp z (List.mem_cons_of_mem _ hz)) (by rw [List.length_append, List.length_singleton]; omega) (by omega)) ?_
      rintro r u ⟨u1, u2, u3⟩
      rw [List.append_assoc] at u2
      exact ⟨u1, u2, fr_trans t2 u3⟩
    rw [m260_247]
    refine k_e (e250 h (by omega) (by decide)) ?_
    show Ok (if (if y = 3 then (1 : Int) else 0) = 0 then _ else _) _
    by_cases c : y = 3
    · rw [if_pos c]
      exact k_q (by decide) (k_c drop (fun _ t q => q))
    rw [if_neg c]
    refine k_p rfl (k_e (e250 h (by omega) (by decide)) ?_)
    show Ok (if (if y = 4 then (1 : Int) else 0) = 0 then _ else _) _
    by_cases c4 : y = 4
    · rw [if_pos c4]
      exact k_q (by decide) (k_c drop (fun _ t q => q))
    rw [if_neg c4]
    refine k_p rfl (k_e (e250 h (by omega) (by decide)) ?_)
    show Ok (if (if y = 1 then (1 : Int) else 0) = 0 then _ else _) _
    by_cases c1 : y = 1
    · rw [if_pos c1]
      exact k_q (by decide) (k_c drop (fun _ t q => q))
    rw [if_neg c1]
    refine k_p rfl (k_e (e250 h (by omega) (by decide)) ?_)
    show Ok (if (if y = 2 then (1 : Int) else 0) = 0 then _ else _) _
    rw [if_pos (by omega : y = 2)]
    exact k_q (by decide) (k_c drop (fun _ t q => q))
/-- behind a part, no bracket closes -/
theorem u122 (ht : tOk g e) (h : rG g e ask B F E W C o s) (hF : ¬ (F < e ∧ g F = 41)) (hQ : ∀ t, rG g e ask B F E W C o t → Fr rqF s t → Ok (oC (m260_122 t) fun z9 s10 => uR x1 n1 z9 s10) Q) : Ok (uPost x1 n1 (n3 + 1) s) Q := by
  unfold uPost
  rw [m260_0, oV_eq, h.2.1.2.1, if_pos rfl, oC_as]
  refine k_c (rG_look ht h) ?_
  rintro r t ⟨t1, t2, t3, t4⟩
  rw [t1, if_neg (fun z => hF ?_)]
  · exact hQ t t3 t4
  · unfold lkV at z
    by_cases f : F < e
    · rw [if_pos f] at z; exact ⟨f, z⟩
    · rw [if_neg f] at z; omega
theorem k_mul (hF : F < e ∧ (g F = 42 ∨ g F = 47)) : qJ g e 4 F E = (if g F = 42 then 3 else 4) := by
  unfold qJ
  rw [if_neg (by decide), if_neg (by decide), if_neg (by decide)]
  by_cases c : g F = 42
  · rw [if_pos ⟨hF.1, c⟩, if_pos c]
  · rw [if_neg (fun z => c z.2), if_neg c, if_pos ⟨hF.1, by omega⟩]
theorem k_add (hF : F < e ∧ (g F = 43 ∨ g F = 45)) : qJ g e 3 F E = (if g F = 43 then 1 else 2) := by
  unfold qJ
  rw [if_neg (by decide), if_neg (by decide), if_pos rfl]
  by_cases c : g F = 43
  · rw [if_pos ⟨hF.1, c⟩, if_pos c]
  · rw [if_neg (fun z => c z.2), if_neg c, if_pos ⟨hF.1, by omega⟩]
theorem qJ4 (h : qJ g e 4 F E ≠ -1) : F < e ∧ (g F = 42 ∨ g F = 47) := by
  unfold qJ at h
  rw [if_neg (by decide), if_neg (by decide), if_neg (by decide)] at h
  by_cases c : F < e ∧ g F = 42
  · exact ⟨c.1, Or.inl c.2⟩
  · rw [if_neg c] at h
    by_cases d : F < e ∧ g F = 47
    · exact ⟨d.1, Or.inr d.2⟩
    · rw [if_neg d] at h; exact absurd rfl h
theorem qJ3 (h : qJ g e 3 F E ≠ -1) : F < e ∧ (g F = 43 ∨ g F = 45) := by
  unfold qJ at h
  rw [if_neg (by decide), if_neg (by decide), if_pos rfl] at h
  by_cases c : F < e ∧ g F = 43
  · exact ⟨c.1, Or.inl c.2⟩
  · rw [if_neg c] at h
    by_cases d : F < e ∧ g F = 45
    · exact ⟨d.1, Or.inr d.2⟩
    · rw [if_neg d] at h; exact absurd rfl h
theorem no4 (h : qJ g e 4 F E = -1) : ¬ (F < e ∧ g F = 42) ∧ ¬ (F < e ∧ g F = 47) := by
  constructor
  · intro z; rw [k_mul ⟨z.1, Or.inl z.2⟩] at h; split at h <;> omega
  · intro z; rw [k_mul ⟨z.1, Or.inr z.2⟩] at h; split at h <;> omega
theorem no3 (h : qJ g e 3 F E = -1) : ¬ (F < e ∧ g F = 43) ∧ ¬ (F < e ∧ g F = 45) := by
  constructor
  · intro z; rw [k_add ⟨z.1, Or.inl z.2⟩] at h; split at h <;> omega
  · intro z; rw [k_add ⟨z.1, Or.inr z.2⟩] at h; split at h <;> omega
/-- times, by -/
theorem uMul {pd : List Int} (ht : tOk g e) (h : rG g e ask B F E (pd ++ W) C o s) (hB : B ≤ (W.length : Int)) (hF : F < e ∧ (g F = 42 ∨ g F = 47)) (hp : ∀ y ∈ pd, y = 3 ∨ y = 4) (hW3 : W.headD 0 ≠ 3) (hW4 : W.headD 0 ≠ 4) (hQ : ∀ t, rG g e ask B (nxF g e F) (nxE g e F E) (qJ g e 4 F E :: W) (C ++ pd) o t → Fr rqF s t → Ok (uPre x1 n1 zFu t) Q) : Ok (uPost x1 (n1 + 1) (n3 + 1) s) Q := by
  have hle := ht.2.1
  have hF0 := h.1.1
  have gx := nx_any h.1 hF.1
  refine u122 ht h (fun z => by omega) (fun t t1 t2 => ?_)
  have go : ∀ u, rG g e ask B (nxF g e F) (nxE g e F E) (pd ++ W) C o u → u.1 209 2 = F + 1 → Fr rqF s u → Ok (oC (m260_140 u) fun z9 s10 => uR x1 (n1 + 1) z9 s10) Q := by
    intro u u1 u2 u3
    have h16 := rG_len ht h
    have hlen := h.2.2.2.1
    have push : Ok (m260_162 zFu (qJ g e 4 F E) u) (fun r v => r = 1 ∧ rSt B (qJ g e 4 F E :: W) (C ++ pd) o v ∧ Fr rkF u v) := p260_162 hW3 hW4 pd zFu C u u1.2.2.1 hp h16 (by rw [List.length_append] at h16; unfold zFu; omega)
    unfold m260_140
    rw [oV_eq, u2, oZ_pos (by omega) (by omega), oX_pos (by omega) (by omega), oV_eq, show F + 1 - 1 = F by omega, u1.2.1.1.2 F (by omega) (by omega)]
    have e2 : (if g F = 42 then m260_162 zFu 3 u else m260_162 zFu 4 u) = m260_162 zFu (qJ g e 4 F E) u := by
      rw [k_mul hF]
      split <;> rfl
    rw [e2]
    refine k_c push ?_
    rintro r v ⟨rfl, v1, v2⟩
    unfold uR
    rw [if_neg (by decide)]
    have hv : rG g e ask B (nxF g e F) (nxE g e F E) (qJ g e 4 F E :: W) (C ++ pd) o v := by
      refine rG_st u1 v1 v2 ?_ ?_ u1.2.2.2.2.2.2
      · simp only [List.length_append, List.length_cons] at hlen ⊢
        omega
      · rw [List.length_cons]; omega
    rw [u15 hv.2.1.2.1]
    exact hQ v hv (fr_trans u3 (rk_rq v2))
  unfold m260_122
  rw [oC_as]
  by_cases c : g F = 42
  · refine k_c (rG_sign ht t1 (by decide) ⟨hF.1, c⟩) ?_
    rintro r u ⟨rfl, u1, u2, u3⟩
    rw [if_neg (by decide)]
    exact go u u2 u1 (fr_trans t2 u3)
  · refine k_c (rG_nosign ht t1 (by decide) (fun z => c z.2)) ?_
    rintro r u ⟨rfl, u1, u2, u3⟩
    rw [if_pos rfl, oC_as]
    refine k_c (rG_sign ht u2 (by decide) ⟨hF.1, by omega⟩) ?_
    rintro r v ⟨rfl, v1, v2, v3⟩
    rw [if_neg (by decide)]
    exact go v v2 v1 (fr_trans t2 (fr_trans u3 v3))
/-- and, less -/
theorem uAdd {pd : List Int} (ht : tOk g e) (h : rG g e ask B F E (pd ++ W) C o s) (hB : B ≤ (W.length : Int)) (hF : F < e ∧ (g F = 43 ∨ g F = 45)) (hp : ∀ y ∈ pd, 1 ≤ y ∧ y ≤ 4) (hW1 : W.headD 0 ≠ 1) (hW2 : W.headD 0 ≠ 2) (hW3 : W.headD 0 ≠ 3) (hW4 : W.headD 0 ≠ 4) (hQ : ∀ t, rG g e ask B (nxF g e F) (nxE g e F E) (qJ g e 3 F E :: W) (C ++ pd) o t → Fr rqF s t → Ok (uPre x1 n1 zFu t) Q) : Ok (uPost x1 (n1 + 1) (n3 + 1) s) Q := by
  have hle := ht.2.1
  have hF0 := h.1.1
  have gx := nx_any h.1 hF.1
  refine u122 ht h (fun z => by omega) (fun t t1 t2 => ?_)
  have go : ∀ u, rG g e ask B (nxF g e F) (nxE g e F E) (pd ++ W) C o u → u.1 209 2 = F + 1 → Fr rqF s u → Ok (oC (m260_225 u) fun z9 s10 => uR x1 (n1 + 1) z9 s10) Q := by
    intro u u1 u2 u3
    have h16 := rG_len ht h
    have hlen := h.2.2.2.1
    have push : Ok (m260_247 zFu (qJ g e 3 F E) u) (fun r v => r = 1 ∧ rSt B (qJ g e 3 F E :: W) (C ++ pd) o v ∧ Fr rkF u v) := p260_247 hW1 hW2 hW3 hW4 pd zFu C u u1.2.2.1 hp h16 (by rw [List.length_append] at h16; unfold zFu; omega)
    unfold m260_225
    rw [oV_eq, u2, oZ_pos (by omega) (by omega), oX_pos (by omega) (by omega), oV_eq, show F + 1 - 1 = F by omega, u1.2.1.1.2 F (by omega) (by omega)]
    have e2 : (if g F = 43 then m260_247 zFu 1 u else m260_247 zFu 2 u) = m260_247 zFu (qJ g e 3 F E) u := by
      rw [k_add hF]
      split <;> rfl
    rw [e2]
    refine k_c push ?_
    rintro r v ⟨rfl, v1, v2⟩
    unfold uR
    rw [if_neg (by decide)]
    have hv : rG g e ask B (nxF g e F) (nxE g e F E) (qJ g e 3 F E :: W) (C ++ pd) o v := by
      refine rG_st u1 v1 v2 ?_ ?_ u1.2.2.2.2.2.2
      · simp only [List.length_append, List.length_cons] at hlen ⊢
        omega
      · rw [List.length_cons]; omega
    rw [u15 hv.2.1.2.1]
    exact hQ v hv (fr_trans u3 (rk_rq v2))
  unfold m260_122
  rw [oC_as]
  refine k_c (rG_nosign ht t1 (by decide) (fun z => by omega)) ?_
  rintro r u ⟨rfl, u1, u2, u3⟩
  rw [if_pos rfl, oC_as]
  refine k_c (rG_nosign ht u2 (by decide) (fun z => by omega)) ?_
  rintro r v ⟨rfl, v1, v2, v3⟩
  rw [if_pos rfl, oC_as]
  by_cases c : g F = 43
  · refine k_c (rG_sign ht v2 (by decide) ⟨hF.1, c⟩) ?_
    rintro r w ⟨rfl, w1, w2, w3⟩
    rw [if_neg (by decide)]
    exact go w w2 w1 (fr_trans t2 (fr_trans u3 (fr_trans v3 w3)))
  · refine k_c (rG_nosign ht v2 (by decide) (fun z => c z.2)) ?_
    rintro r w ⟨rfl, w1, w2, w3⟩
    rw [if_pos rfl, oC_as]
    refine k_c (rG_sign ht w2 (by decide) ⟨hF.1, by omega⟩) ?_
    rintro r w' ⟨rfl, y1, y2, y3⟩
    rw [if_neg (by decide)]
    exact go w' y2 y1 (fr_trans t2 (fr_trans u3 (fr_trans v3 (fr_trans w3 y3))))
end
