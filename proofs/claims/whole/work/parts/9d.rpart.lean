/-! ===== the reference reads a PART ===== -/
theorem ok_and {x : Option (Int × zS)} {P Q : Int → zS → Prop} (h : Ok x P) (h' : Ok x Q) : Ok x (fun r s => P r s ∧ Q r s) := by
  obtain ⟨r, s, e, p⟩ := h
  obtain ⟨r', s', e', q⟩ := h'
  rw [e] at e'
  cases e'
  exact ⟨r, s, e, p, q⟩
theorem lxE_inj {g : Int → Int} : ∀ (l l' : List Int) (p : Int), lxE g p l = true → lxE g p l' = true → l.length = l'.length → l = l' := by
  intro l
  induction l with
  | nil =>
    intro l' p _ _ hl
    cases l' with
    | nil => rfl
    | cons _ _ => simp at hl
  | cons c l ih =>
    intro l' p h h' hl
    cases l' with
    | nil => simp at hl
    | cons c' l' =>
      unfold lxE at h h'
      rw [Bool.and_eq_true, decide_eq_true_eq] at h h'
      rw [List.length_cons, List.length_cons] at hl
      rw [← h.1, ← h'.1, ih l' (p + 1) h.2 h'.2 (by omega)]
theorem isW_inj {g : Int → Int} {e F E : Int} {l l' : List Int} (h : isW g e F E l = true) (h' : isW g e F E l' = true) : l = l' := by
  have a := (isW_t h).2
  have a' := (isW_t h').2
  unfold isW at h h'
  rw [Bool.and_eq_true, Bool.and_eq_true] at h h'
  exact lxE_inj l l' F h.2.2 h'.2.2 (by omega)
section
variable {g : Int → Int} {e F E B o x1 : Int} {ask : Bool} {W C : List Int} {s t : zS} {Q : Int → zS → Prop} {n1 n2 n3 : Nat}
theorem rG_here {m a k : Nat} (ht : tOk g e) (h : rG g e ask B F E W C o s) (hk : (a, sL k) ∈ wTab) (hm : m = (sL k).length) (hl : m ≤ 10) : Ok (m157 m a s) (fun r t => r = (if isW g e F E (sL k) = true then 1 else 0) ∧ t.1 209 2 = F ∧ rG g e ask B F E W C o t ∧ Fr rqF s t) := by
  refine k_m (p157 ht h.1 h.2.1 hm (by omega) (h.2.2.2.2.1.2 _ hk) (by have := wTab_at _ hk; omega)) ?_
  rintro r t ⟨t1, t2, t3, t4⟩
  exact ⟨t1, t2, rG_lex h t3 h.1 (Int.le_refl _) t4, yF_rq t4⟩
theorem rG_take {m a k : Nat} (ht : tOk g e) (h : rG g e ask B F E W C o s) (hk : (a, sL k) ∈ wTab) (hm : m = (sL k).length) (hl : m ≤ 10) (hi : isW g e F E (sL k) = true) : Ok (m158 m a s) (fun r t => r = 1 ∧ rG g e ask B (nxF g e F) (nxE g e F E) W C o t ∧ Fr rqF s t) := by
  refine k_m (p158t ht h.1 h.2.1 hm (by omega) (h.2.2.2.2.1.2 _ hk) (by have := wTab_at _ hk; omega) hi) ?_
  rintro r t ⟨t1, t2, t3⟩
  have := nx_any h.1 (isW_F hi)
  exact ⟨t1, rG_lex h t2 this.1 (by omega) t3, yF_rq t3⟩
theorem rG_notake {m a k : Nat} (ht : tOk g e) (h : rG g e ask B F E W C o s) (hk : (a, sL k) ∈ wTab) (hm : m = (sL k).length) (hl : m ≤ 10) (hi : isW g e F E (sL k) = false) : Ok (m158 m a s) (fun r t => r = 0 ∧ t.1 209 2 = F ∧ rG g e ask B F E W C o t ∧ Fr rqF s t) := by
  refine k_m (p158f ht h.1 h.2.1 hm (by omega) (h.2.2.2.2.1.2 _ hk) (by have := wTab_at _ hk; omega) hi) ?_
  rintro r t ⟨t1, t2, t3, t4⟩
  exact ⟨t1, t2, rG_lex h t3 h.1 (Int.le_refl _) t4, yF_rq t4⟩
theorem rG_asks {m a k : Nat} (ht : tOk g e) (h : rG g e ask B F E W C o s) (hk : (a, sL k) ∈ wTab) (hm : m = (sL k).length) (hl : m ≤ 10) (hi : isW g e F E (sL k) = true) : Ok (m159 m a s) (fun _ t => rG g e ask B (nxF g e F) (nxE g e F E) W C o t ∧ Fr rqF s t) := by
  refine k_m (p159t ht h.1 h.2.1 hm (by omega) (h.2.2.2.2.1.2 _ hk) (by have := wTab_at _ hk; omega) hi) ?_
  rintro r t ⟨t2, t3⟩
  have := nx_any h.1 (isW_F hi)
  exact ⟨rG_lex h t2 this.1 (by omega) t3, yF_rq t3⟩
/-- which of the words it is -/
def qW (g : Int → Int) (e F E : Int) : Int := if isW g e F E (sL 19) = true then 0 else if isW g e F E (sL 20) = true then 1 else if isW g e F E (sL 21) = true then 2 else if isW g e F E (sL 22) = true then 3 else if isW g e F E (sL 23) = true then 4 else if isW g e F E (sL 24) = true then 5 else if isW g e F E (sL 25) = true then 6 else if isW g e F E (sL 26) = true then 7 else if isW g e F E (sL 27) = true then 8 else if isW g e F E (sL 18) = true then 9 else -1
theorem w_st {x : Option (Int × zS)} {k : zS → Option (Int × zS)} {v : Int} {b : Bool} {A : zS → Prop} (hx : Ok x (fun r t => r = (if b = true then 1 else 0) ∧ A t)) (h1 : b = true → ∀ t, A t → Q v t) (h0 : ¬ b = true → ∀ t, A t → Ok (k t) Q) : Ok (oC x fun z t => if z = (0 : Int) then k t else some (v, t)) Q := by
  refine k_c hx ?_
  rintro r t ⟨rfl, h⟩
  by_cases c : b = true
  · rw [if_pos c]
    exact k_q (by decide) (k_r (h1 c t h))
  · rw [if_neg c]
    exact k_p rfl (h0 c t h)
theorem p255 (ht : tOk g e) (h : rG g e ask B F E W C o s) : Ok (m255 s) (fun r t => r = qW g e F E ∧ t.1 209 2 = F ∧ rG g e ask B F E W C o t ∧ Fr rqF s t) := by
  have hr := fun (m a k : Nat) (t : zS) (ht' : rG g e ask B F E W C o t) hk hm hl => rG_here (m := m) (a := a) (k := k) ht ht' hk hm hl
  unfold m255 qW
  refine w_st (hr 5 275 19 s h (by decide) (by decide) (by decide)) (fun c t q => ⟨by rw [if_pos c], q.1, q.2.1, q.2.2⟩) (fun c t q => ?_)
  rw [if_neg c]
  refine w_st (hr 5 276 20 t q.2.1 (by decide) (by decide) (by decide)) (fun c u p => ⟨by rw [if_pos c], p.1, p.2.1, fr_trans q.2.2 p.2.2⟩) (fun c u p => ?_)
  rw [if_neg c]
  have f2 := fr_trans q.2.2 p.2.2
  refine w_st (hr 6 277 21 u p.2.1 (by decide) (by decide) (by decide)) (fun c v p => ⟨by rw [if_pos c], p.1, p.2.1, fr_trans f2 p.2.2⟩) (fun c v p => ?_)
  rw [if_neg c]
  have f3 := fr_trans f2 p.2.2
  refine w_st (hr 4 278 22 v p.2.1 (by decide) (by decide) (by decide)) (fun c v p => ⟨by rw [if_pos c], p.1, p.2.1, fr_trans f3 p.2.2⟩) (fun c v p => ?_)
  rw [if_neg c]
  have f4 := fr_trans f3 p.2.2
  refine w_st (hr 3 279 23 v p.2.1 (by decide) (by decide) (by decide)) (fun c v p => ⟨by rw [if_pos c], p.1, p.2.1, fr_trans f4 p.2.2⟩) (fun c v p => ?_)
  rw [if_neg c]
  have f5 := fr_trans f4 p.2.2
  refine w_st (hr 6 280 24 v p.2.1 (by decide) (by decide) (by decide)) (fun c v p => ⟨by rw [if_pos c], p.1, p.2.1, fr_trans f5 p.2.2⟩) (fun c v p => ?_)
  rw [if_neg c]
  have f6 := fr_trans f5 p.2.2
  refine w_st (hr 4 281 25 v p.2.1 (by decide) (by decide) (by decide)) (fun c v p => ⟨by rw [if_pos c], p.1, p.2.1, fr_trans f6 p.2.2⟩) (fun c v p => ?_)
  rw [if_neg c]
  have f7 := fr_trans f6 p.2.2
  refine w_st (hr 4 282 26 v p.2.1 (by decide) (by decide) (by decide)) (fun c v p => ⟨by rw [if_pos c], p.1, p.2.1, fr_trans f7 p.2.2⟩) (fun c v p => ?_)
  rw [if_neg c]
  have f8 := fr_trans f7 p.2.2
  refine w_st (hr 5 283 27 v p.2.1 (by decide) (by decide) (by decide)) (fun c v p => ⟨by rw [if_pos c], p.1, p.2.1, fr_trans f8 p.2.2⟩) (fun c v p => ?_)
  rw [if_neg c]
  have f9 := fr_trans f8 p.2.2
  refine w_st (hr 3 284 18 v p.2.1 (by decide) (by decide) (by decide)) (fun c v p => ⟨by rw [if_pos c], p.1, p.2.1, fr_trans f9 p.2.2⟩) (fun c v p => ?_)
  rw [if_neg c]
  exact k_r ⟨rfl, p.1, p.2.1, fr_trans f9 p.2.2⟩
theorem qW_in : -1 ≤ qW g e F E ∧ qW g e F E ≤ 9 := by
  unfold qW
  repeat' split
  all_goals omega
theorem qW_9 : (if qW g e F E < 9 then (-1 : Int) else if ask = true then qW g e F E else -1) = (if ask = true ∧ isW g e F E (sL 18) = true then 9 else -1) := by
  by_cases c : isW g e F E (sL 18) = true
  · have n : ∀ k, sL 18 ≠ sL k → ¬ isW g e F E (sL k) = true := fun k hk z => hk (isW_inj c z)
    have : qW g e F E = 9 := by
      unfold qW
      rw [if_neg (n 19 (by decide)), if_neg (n 20 (by decide)), if_neg (n 21 (by decide)), if_neg (n 22 (by decide)), if_neg (n 23 (by decide)), if_neg (n 24 (by decide)), if_neg (n 25 (by decide)), if_neg (n 26 (by decide)), if_neg (n 27 (by decide)), if_pos c]
    rw [this, if_neg (by omega)]
    by_cases d : ask = true
    · rw [if_pos d, if_pos ⟨d, c⟩]
    · rw [if_neg d, if_neg (fun z => d z.1)]
  · have : qW g e F E < 9 := by
      unfold qW
      rw [if_neg c]
      repeat' split
      all_goals omega
    rw [if_pos this, if_neg (fun z => c z.2)]
theorem qW_8 : (if qW g e F E < 0 then (-1 : Int) else if qW g e F E < 9 then (if ask = true ∨ qW g e F E < 5 then qW g e F E else -1) else -1) = qF g e ask F E := by
  unfold qW qF
  by_cases c1 : isW g e F E (sL 19) = true
  · simp only [if_pos c1]; rw [if_neg (by omega), if_pos (by omega), if_pos (Or.inr (by omega))]
  simp only [if_neg c1]
  by_cases c2 : isW g e F E (sL 20) = true
  · simp only [if_pos c2]; rw [if_neg (by omega), if_pos (by omega), if_pos (Or.inr (by omega))]
  simp only [if_neg c2]
  by_cases c3 : isW g e F E (sL 21) = true
  · simp only [if_pos c3]; rw [if_neg (by omega), if_pos (by omega), if_pos (Or.inr (by omega))]
  simp only [if_neg c3]
  by_cases c4 : isW g e F E (sL 22) = true
  · simp only [if_pos c4]; rw [if_neg (by omega), if_pos (by omega), if_pos (Or.inr (by omega))]
  simp only [if_neg c4]
  by_cases c5 : isW g e F E (sL 23) = true
  · simp only [if_pos c5]; rw [if_neg (by omega), if_pos (by omega), if_pos (Or.inr (by omega))]
  simp only [if_neg c5]
  have ak : ∀ v : Int, 5 ≤ v → v < 9 → (if v < 0 then (-1 : Int) else if v < 9 then (if ask = true ∨ v < 5 then v else -1) else -1) = (if ask = true then v else -1) := by
    intro v v0 v1
    rw [if_neg (by omega), if_pos (by omega)]
    by_cases d : ask = true
    · rw [if_pos (Or.inl d), if_pos d]
    · rw [if_neg (fun z => z.elim d (fun z => by omega)), if_neg d]
  by_cases c6 : isW g e F E (sL 24) = true
  · simp only [if_pos c6]; exact ak 5 (by omega) (by omega)
  simp only [if_neg c6]
  by_cases c7 : isW g e F E (sL 25) = true
  · simp only [if_pos c7]; exact ak 6 (by omega) (by omega)
  simp only [if_neg c7]
  by_cases c8 : isW g e F E (sL 26) = true
  · simp only [if_pos c8]; exact ak 7 (by omega) (by omega)
  simp only [if_neg c8]
  by_cases c9 : isW g e F E (sL 27) = true
  · simp only [if_pos c9]; exact ak 8 (by omega) (by omega)
  simp only [if_neg c9]
  have z1 : (if ask = true then (-1 : Int) else -1) = -1 := by split <;> rfl
  rw [z1]
  by_cases c0 : isW g e F E (sL 18) = true
  · simp only [if_pos c0]; rfl
  · simp only [if_neg c0]; rfl
theorem e165 {x : Int} (h : s.1 209 53 = inLw ask) : m165 x s = some (if ask = true ∨ x < 5 then 1 else 0, s) := by
  unfold m165
  rw [oV_eq, h]
  unfold inLw
  by_cases d : ask = true
  · rw [if_pos d, if_pos rfl, if_pos (Or.inl d)]
  · rw [if_neg d, if_neg (by decide)]
    by_cases c : x < 5
    · rw [if_pos c, if_pos (Or.inr c)]
    · rw [if_neg c, if_neg (fun z => z.elim d c)]
theorem p256_9 (ht : tOk g e) (h : rG g e ask B F E W C o s) : Ok (m256 9 10 s) (fun r t => r = (if ask = true ∧ isW g e F E (sL 18) = true then 9 else -1) ∧ t.1 209 2 = F ∧ rG g e ask B F E W C o t ∧ Fr rqF s t) := by
  unfold m256
  refine k_c (p255 ht h) ?_
  rintro r t ⟨rfl, t2⟩
  rw [← qW_9]
  have := qW_in (g := g) (e := e) (F := F) (E := E)
  refine k_i (fun z => k_r ⟨by rw [if_pos z], t2⟩) (fun z => k_p (by omega) (k_e (e165 t2.2.1.2.2.2.2.1.1.1) ?_))
  rw [if_neg z]
  by_cases d : ask = true
  · rw [if_pos (Or.inl d), if_pos d]
    exact k_q (by decide) (k_r ⟨rfl, t2⟩)
  · rw [if_neg (show ¬ (ask = true ∨ qW g e F E < 5) from fun y => y.elim d (fun y => by omega)), if_neg d]
    exact k_p rfl (k_r ⟨rfl, t2⟩)
theorem p256_8 (ht : tOk g e) (h : rG g e ask B F E W C o s) : Ok (m256 0 9 s) (fun r t => r = qF g e ask F E ∧ t.1 209 2 = F ∧ rG g e ask B F E W C o t ∧ Fr rqF s t) := by
  unfold m256
  refine k_c (p255 ht h) ?_
  rintro r t ⟨rfl, t2⟩
  rw [← qW_8]
  refine k_i (fun z => k_r ⟨by rw [if_pos z], t2⟩) (fun z => k_i (fun y => k_e (e165 t2.2.1.2.2.2.2.1.1.1) ?_) (fun y => k_r ⟨by rw [if_neg z, if_neg y], t2⟩))
  rw [if_neg z, if_pos y]
  by_cases d : ask = true ∨ qW g e F E < 5
  · rw [if_pos d, if_pos d]
    exact k_q (by decide) (k_r ⟨rfl, t2⟩)
  · rw [if_neg d, if_neg d]
    exact k_p rfl (k_r ⟨rfl, t2⟩)
theorem p258_5 (hB : 0 ≤ B) : ∀ (W : List Int) (n : Nat) (C : List Int) (o : Int) (s : zS), rSt B W C o s → s.1 209 5 = 0 → C.length + W.length ≤ 1600 → W.length < n → -2000 + (W.length : Int) ≤ o → o ≤ 10000 → Ok (m258_0 n s) (fun _ u => u.1 209 5 = 0) := by
  intro W
  induction W with
  | nil =>
    intro n C o s h h5 h16 hn _ _
    obtain ⟨n, rfl⟩ : ∃ m, n = m + 1 := ⟨n - 1, by simp only [List.length_nil] at hn; omega⟩
    exact k_eq (e258n h hB (by simp only [List.length_nil]; omega) h5 (Or.inl (by show (0 : Int) < 60; omega))) h5
  | cons x W ih =>
    intro n C o s h h5 h16 hn o0 o1
    rw [List.length_cons] at h16 hn o0
    obtain ⟨n, rfl⟩ : ∃ m, n = m + 1 := ⟨n - 1, by omega⟩
    by_cases c : x < 60 ∨ ((x :: W).length : Int) ≤ B
    · exact k_eq (e258n h hB (by rw [List.length_cons]; omega) h5 c) h5
    · have c2 : ¬ ((x :: W).length : Int) ≤ B := fun z => c (Or.inr z)
      rw [List.length_cons] at c2
      refine p258s h (by omega) (by omega) h5 (by omega) (by omega) (by omega) (fun t t1 t2 => ih n (C ++ [x]) (o - 1) t t1 (by rw [t2.1 209 5 (by omega)]; exact h5) (by rw [List.length_append, List.length_singleton]; omega) (by omega) (by omega) (by omega))
/-- a part has ended, and it goes on -/
theorem uEnd_mk (ht : tOk g e) (h : rG g e ask B F E W C o t) (hQ : Ok (uEnd x1 n1 zFu zFu t) Q) : Ok (oC (m258 t) fun _ u => some ((0 : Int), u)) (fun _ u => Ok (uRest x1 n1 u) Q) := by
  have h16 := rG_len ht h
  have a := ok_un hQ
  have b := p258_5 h.2.2.2.2.2.1.1 W zFu C o t h.2.2.1 h.2.1.2.1 h16 (by unfold zFu; omega) (by have := h.2.2.2.2.2.2; omega) (by have := h.2.2.2.2.2.2; omega)
  refine k_c (ok_and a b) ?_
  rintro r u ⟨u1, u2⟩
  refine k_r ?_
  unfold uRest
  rw [oV_eq, u2, if_pos rfl]
  exact u1
/-- what is owed behind a PART -/
def rK5 (g : Int → Int) (e : Int) (ask : Bool) (B x1 : Int) (W C : List Int) (o : Int) (s : zS) (Q : Int → zS → Prop) (y : qR) : Prop := match y with
  | .inl q => ∀ r t, t.1 209 5 = q.1 → t.1 209 6 = q.2 → fF s t → Q r t
  | .inr q => ∀ (n1 n3 n4 : Nat) (t : zS), rG g e ask B q.1 q.2.1 W (C ++ q.2.2) o t → Fr rqF s t → 1700 ≤ (n1 : Int) + q.1 → 1700 ≤ (n3 : Int) + q.1 → W.length < n4 → Ok (uEnd x1 n1 n3 n4 t) Q
/-- behind a PRODUCT -/
def rK4 (g : Int → Int) (e : Int) (ask : Bool) (B x1 : Int) (W C : List Int) (o : Int) (s : zS) (Q : Int → zS → Prop) (y : qR) : Prop := match y with
  | .inl q => ∀ r t, t.1 209 5 = q.1 → t.1 209 6 = q.2 → fF s t → Q r t
  | .inr q => ∀ (n1 n3 : Nat) (t : zS) (pd C' : List Int), rG g e ask B q.1 q.2.1 (pd ++ W) C' o t → Fr rqF s t → C' ++ pd = C ++ q.2.2 → (∀ y ∈ pd, y = 3 ∨ y = 4) → qJ g e 4 q.1 q.2.1 = -1 → 1700 ≤ (n1 : Int) + q.1 → 1700 ≤ (n3 : Int) + q.1 → Ok (uPost x1 n1 n3 t) Q
/-- behind a SUM -/
def rK3 (g : Int → Int) (e : Int) (ask : Bool) (B x1 : Int) (W C : List Int) (o : Int) (s : zS) (Q : Int → zS → Prop) (y : qR) : Prop := match y with
  | .inl q => ∀ r t, t.1 209 5 = q.1 → t.1 209 6 = q.2 → fF s t → Q r t
  | .inr q => ∀ (n1 n3 : Nat) (t : zS) (pd C' : List Int), rG g e ask B q.1 q.2.1 (pd ++ W) C' o t → Fr rqF s t → C' ++ pd = C ++ q.2.2 → (∀ y ∈ pd, 1 ≤ y ∧ y ≤ 4) → qJ g e 3 q.1 q.2.1 = -1 → qJ g e 4 q.1 q.2.1 = -1 → 1700 ≤ (n1 : Int) + q.1 → 1700 ≤ (n3 : Int) + q.1 → Ok (uPost x1 n1 n3 t) Q
def rP5 (g : Int → Int) (e : Int) (ask : Bool) (x1 : Int) (rd : Int → Int → Int → Int → qR) (o : Int) : Prop := ∀ (B F E : Int) (W C : List Int) (n1 n2 : Nat) (s : zS) (Q : Int → zS → Prop), rG g e ask B F E W C o s → 1700 ≤ (n1 : Int) + F → 1700 ≤ (n2 : Int) + F → rK5 g e ask B x1 W C o s Q (rd 5 o F E) → Ok (uPre x1 n1 n2 s) Q
def rP4 (g : Int → Int) (e : Int) (ask : Bool) (x1 : Int) (rd : Int → Int → Int → Int → qR) (o : Int) : Prop := ∀ (B F E : Int) (W C : List Int) (n1 n2 : Nat) (s : zS) (Q : Int → zS → Prop), rG g e ask B F E W C o s → 1700 ≤ (n1 : Int) + F → 1700 ≤ (n2 : Int) + F → W.headD 0 ≠ 3 → W.headD 0 ≠ 4 → W.headD 0 < 60 → rK4 g e ask B x1 W C o s Q (rd 4 o F E) → Ok (uPre x1 n1 n2 s) Q
def rP3 (g : Int → Int) (e : Int) (ask : Bool) (x1 : Int) (rd : Int → Int → Int → Int → qR) (o : Int) : Prop := ∀ (B F E : Int) (W C : List Int) (n1 n2 : Nat) (s : zS) (Q : Int → zS → Prop), rG g e ask B F E W C o s → 1700 ≤ (n1 : Int) + F → 1700 ≤ (n2 : Int) + F → W.headD 0 ≠ 1 → W.headD 0 ≠ 2 → W.headD 0 ≠ 3 → W.headD 0 ≠ 4 → W.headD 0 < 60 → rK3 g e ask B x1 W C o s Q (rd 3 o F E) → Ok (uPre x1 n1 n2 s) Q
end
