/-! ===== the reference reads a TEST: its steps ===== -/
def tR (n : Nat) (z : Int) (s : zS) : Option (Int × zS) := if z = (0 : Int) then m265_2 n (0 : Int) s else m265_2 n (1 : Int) s
def tPost (n n3 : Nat) (s : zS) : Option (Int × zS) := oC (m266_0 n3 s) fun z s10 => tR n z s10
def tEnd (n n3 n4 : Nat) (s : zS) : Option (Int × zS) := oC (m264_0 n4 s) fun _ u => tPost n n3 u
theorem stk_mem {f : Int → Int} {x : Int} : ∀ {W : List Int}, stk f W → (x ∈ W ↔ ∃ i : Int, 0 ≤ i ∧ i < (W.length : Int) ∧ f i = x) := by
  intro W
  induction W with
  | nil =>
    intro _
    refine ⟨fun h => absurd h (List.not_mem_nil), ?_⟩
    rintro ⟨i, i0, i1, _⟩
    have i1 : i < 0 := i1
    omega
  | cons y W ih =>
    intro h
    rw [List.mem_cons, ih h.2]
    constructor
    · rintro (h' | ⟨i, i0, i1, i2⟩)
      · exact ⟨(W.length : Int), by omega, by rw [List.length_cons]; omega, by rw [h.1, h']⟩
      · exact ⟨i, i0, by rw [List.length_cons]; omega, i2⟩
    · rintro ⟨i, i0, i1, i2⟩
      rw [List.length_cons] at i1
      by_cases d : i = (W.length : Int)
      · left
        rw [← i2, d]
        exact h.1
      · exact Or.inr ⟨i, i0, by omega, i2⟩
section
variable {g : Int → Int} {e F E B o : Int} {ask : Bool} {W W0 C : List Int} {s t : zS} {Q : Int → zS → Prop} {n n3 : Nat}
theorem p263_2 (h2 : s.1 209 102 = (W.length : Int)) (hW : W.length ≤ 1700) : ∀ (n j : Nat) (k : Int), k = (W.length : Int) - (j : Int) → 0 ≤ k → j < n → (∀ i, 0 ≤ i → i < k → s.1 286 i ≠ 25) → Ok (m263_2 n k s) (fun r t => t = s ∧ ((r = 1 ∧ ∃ i, 0 ≤ i ∧ i < (W.length : Int) ∧ s.1 286 i = 25) ∨ (r = 0 ∧ ¬ ∃ i, 0 ≤ i ∧ i < (W.length : Int) ∧ s.1 286 i = 25))) := by
  intro n
  induction n with
  | zero => intro j k _ _ h; omega
  | succ n ih =>
    intro j k hk k0 hj hh
    rw [m263_2]
    refine k_v ?_
    rw [h2]
    cases j with
    | zero =>
      refine k_q (by omega) (k_r ⟨rfl, Or.inr ⟨rfl, ?_⟩⟩)
      rintro ⟨i, i0, i1, i2⟩
      exact hh i i0 (by omega) i2
    | succ j =>
      refine k_p (by omega) (k_x k0 (by omega) (k_v (k_i (fun z => k_r ⟨rfl, Or.inl ⟨rfl, k, k0, by omega, z⟩⟩) (fun z => k_z (by omega) (by omega) ?_))))
      refine ih j (k + 1) (by omega) (by omega) (by omega) (fun i i0 i1 => ?_)
      by_cases d : i = k
      · rw [d]; exact z
      · exact hh i i0 (by omega)
theorem e263 (h : rSt B W C o s) (hW : W.length ≤ 1600) : m263 s = some (if 25 ∈ W then 1 else 0, s) := by
  have := p263_2 h.2.1 (by omega) zFu W.length 0 (by omega) (by omega) (by unfold zFu; omega) (fun i i0 i1 => by omega)
  obtain ⟨r, t, e1, e2, e3⟩ := this
  unfold m263
  rw [e1, e2]
  rcases e3 with ⟨e3, e4⟩ | ⟨e3, e4⟩
  · rw [e3, if_pos ((stk_mem h.1).mpr e4)]
  · rw [e3, if_neg (fun z => e4 ((stk_mem h.1).mp z))]
theorem e264n (h : rSt B W C o s) (hW : W.length ≤ 1600) (h5 : s.1 209 5 = 0) (hh : W.headD 0 ≠ 12) : m264_0 (n + 1) s = some (0, s) := by
  rw [m264_0, oV_eq, h5, if_pos rfl, e250 h (by omega) (by decide), oC_some, if_neg hh, if_pos rfl]
theorem p264s (h : rSt B (12 :: W) C o s) (h5 : s.1 209 5 = 0) (h17 : C.length + W.length + 1 ≤ 1600) (o0 : -10000 ≤ o) (o6 : o ≤ 10000) (hQ : ∀ t, rSt B W (C ++ [12]) (o - 1) t → Fr rkF s t → Ok (m264_0 n t) Q) : Ok (m264_0 (n + 1) s) Q := by
  rw [m264_0]
  refine k_v ?_
  rw [h5]
  refine k_p rfl (k_e (e250 h (by rw [List.length_cons]; omega) (by decide)) ?_)
  rw [if_pos (show (12 :: W).headD 0 = 12 from rfl)]
  refine k_q (by decide) (k_v ?_)
  rw [h.2.2.2.2.1]
  refine k_z (by omega) (by omega) (k_v ?_)
  have hs : rSt B (12 :: W) C (o - 1) (sI s 209 103 (o - 1)) := by
    obtain ⟨h1, h2, h3, h4, h5, h6⟩ := h
    refine ⟨stk_ext h1 (fun j _ _ => ?_), ?_, ?_, fun i hi => ?_, sI_e, ?_⟩
    · rw [sI_a (by omega)]
    · rw [sI_k (by omega)]; exact h2
    · rw [sI_k (by omega)]; exact h3
    · rw [sI_a (by omega)]; exact h4 i hi
    · rw [sI_k (by omega)]; exact h6
  refine k_c (p251 hs (by omega) (by omega)) ?_
  rintro _ t ⟨t1, t2⟩
  exact hQ t t1 (fr_trans (fr_I (by omega)) t2)
theorem p264_5 : ∀ (W : List Int) (n : Nat) (C : List Int) (o : Int) (s : zS), rSt B W C o s → s.1 209 5 = 0 → C.length + W.length ≤ 1600 → W.length < n → -2000 + (W.length : Int) ≤ o → o ≤ 10000 → Ok (m264_0 n s) (fun _ u => u.1 209 5 = 0) := by
  intro W
  induction W with
  | nil =>
    intro n C o s h h5 h16 hn _ _
    obtain ⟨n, rfl⟩ : ∃ m, n = m + 1 := ⟨n - 1, by simp only [List.length_nil] at hn; omega⟩
    exact k_eq (e264n h (by simp only [List.length_nil]; omega) h5 (by show (0 : Int) ≠ 12; decide)) h5
  | cons x W ih =>
    intro n C o s h h5 h16 hn o0 o1
    rw [List.length_cons] at h16 hn o0
    obtain ⟨n, rfl⟩ : ∃ m, n = m + 1 := ⟨n - 1, by omega⟩
    by_cases c : x = 12
    · subst c
      refine p264s h h5 (by omega) (by omega) (by omega) (fun t t1 t2 => ih n (C ++ [12]) (o - 1) t t1 (by rw [t2.1 209 5 (by omega)]; exact h5) (by rw [List.length_append, List.length_singleton]; omega) (by omega) (by omega) (by omega))
    · exact k_eq (e264n h (by rw [List.length_cons]; omega) h5 c) h5
/-- with a fault it ends -/
theorem te110 (h : s.1 209 5 ≠ 0) : m265_110 zFu s = some (0, s) := by
  have hz : zFu = 999999 + 1 := rfl
  rw [hz, m265_110, oV_eq, if_neg h]
theorem t_bad0 (h : s.1 209 5 ≠ 0) : m265_2 (n + 1) 0 s = some (0, s) := by
  rw [m265_2, if_pos rfl, te110 h]
theorem t_bad1 (h : s.1 209 5 ≠ 0) : m265_2 (n + 1) 1 s = some (0, s) := by
  rw [m265_2, if_neg (by decide), oV_eq, if_neg h, te110 h]
/-- what is dropped until the square bracket -/
theorem p266_33 {K : zS → Option (Int × zS)} (o1 : -2000 ≤ o) (o2 : o ≤ 2000) : ∀ (pd : List Int) (n : Nat) (C : List Int) (s : zS), rSt B (pd ++ 25 :: W0) C o s → (∀ y ∈ pd, y ≠ 25) → C.length + (pd ++ 25 :: W0).length ≤ 1600 → pd.length < n → (∀ t, rSt B W0 (C ++ pd) (o - 1) t → Fr rkF s t → Ok (oC (m264 t) fun _ u => K u) Q) → Ok (m266_33 K n s) Q := by
  intro pd
  induction pd with
  | nil =>
    intro n C s h _ h16 hn hQ
    obtain ⟨n, rfl⟩ : ∃ m, n = m + 1 := ⟨n - 1, by simp only [List.length_nil] at hn; omega⟩
    rw [List.nil_append] at *
    rw [List.length_cons] at h16
    rw [m266_33]
    refine k_e (e250 h (by rw [List.length_cons]; omega) (by decide)) ?_
    rw [if_pos (show (25 :: W0).headD 0 = 25 from rfl)]
    have hw := h.2.1
    rw [List.length_cons] at hw
    refine k_q (by decide) (k_v ?_)
    rw [hw]
    refine k_z (by omega) (by omega) (k_v (k_v ?_))
    rw [sI_k (by omega), h.2.2.2.2.1]
    refine k_z (by omega) (by omega) (k_v ?_)
    rw [show ((W0.length + 1 : Nat) : Int) - 1 = (W0.length : Int) by omega]
    refine hQ _ ?_ (fr_trans (fr_I (by omega)) (fr_I (by omega)))
    obtain ⟨a1, a2, a3, a4, a5, a6⟩ := h
    rw [List.append_nil]
    refine ⟨stk_ext a1.2 (fun j _ _ => ?_), ?_, ?_, fun i hi => ?_, sI_e, ?_⟩
    · rw [sI_a (by omega), sI_a (by omega)]
    · rw [sI_k (by omega), sI_e]
    · rw [sI_k (by omega), sI_k (by omega)]; exact a3
    · rw [sI_a (by omega), sI_a (by omega)]; exact a4 i hi
    · rw [sI_k (by omega), sI_k (by omega)]; exact a6
  | cons y pd ih =>
    intro n C s h hp h16 hn hQ
    rw [List.length_cons] at hn
    obtain ⟨n, rfl⟩ : ∃ m, n = m + 1 := ⟨n - 1, by omega⟩
    have hl : C.length + (pd ++ 25 :: W0).length + 1 ≤ 1600 := by
      simp only [List.cons_append, List.length_cons] at h16; omega
    rw [m266_33]
    refine k_e (e250 h (by omega) (by decide)) ?_
    rw [if_neg (show ¬ (y :: pd ++ 25 :: W0).headD 0 = 25 from hp y (List.mem_cons_self ..))]
    refine k_p rfl (k_c (p251 (W := pd ++ 25 :: W0) h (by omega) (by omega)) ?_)
    rintro _ t ⟨t1, t2⟩
    refine ih n (C ++ [y]) t t1 (fun z hz => hp z (List.mem_cons_of_mem _ hz)) (by rw [List.length_append, List.length_singleton]; omega) (by omega) (fun u u1 u2 => hQ u ?_ (fr_trans t2 u2))
    rw [List.append_assoc] at u1
    exact u1
theorem p266_87 (hW : W.headD 0 ≠ 10) : ∀ (pd : List Int) (n : Nat) (C : List Int) (s : zS), rSt B (pd ++ W) C o s → (∀ y ∈ pd, y = 10) → C.length + (pd ++ W).length ≤ 1600 → pd.length < n → Ok (m266_87 n s) (fun r t => r = 1 ∧ rSt B (10 :: W) (C ++ pd) o t ∧ Fr rkF s t) := by
  intro pd
  induction pd with
  | nil =>
    intro n C s h _ h16 hn
    obtain ⟨n, rfl⟩ : ∃ m, n = m + 1 := ⟨n - 1, by simp only [List.length_nil] at hn; omega⟩
    rw [List.nil_append] at *
    rw [m266_87]
    refine k_e (e250 h (by omega) (by decide)) ?_
    rw [if_neg hW]
    refine k_p rfl (k_v ?_)
    rw [h.2.1]
    refine k_x (by omega) (by omega) (k_v (k_v ?_))
    rw [sI_a (by omega), h.2.1]
    refine k_z (by omega) (by omega) (k_v (k_r ⟨rfl, ?_, fr_trans (fr_I (by omega)) (fr_I (by omega))⟩))
    rw [List.append_nil]
    exact rSt_push h
  | cons y pd ih =>
    intro n C s h hp h16 hn
    rw [List.length_cons] at hn
    obtain ⟨n, rfl⟩ : ∃ m, n = m + 1 := ⟨n - 1, by omega⟩
    have hl : C.length + (pd ++ W).length + 1 ≤ 1600 := by
      simp only [List.cons_append, List.length_cons] at h16; omega
    rw [m266_87]
    refine k_e (e250 h (by omega) (by decide)) ?_
    rw [if_pos (show (y :: pd ++ W).headD 0 = 10 from hp y (List.mem_cons_self ..))]
    refine k_q (by decide) (k_c (p251 (W := pd ++ W) h (by omega) (by omega)) ?_)
    rintro _ t ⟨t1, t2⟩
    refine k_m (ih n (C ++ [y]) t t1 (fun z hz => hp z (List.mem_cons_of_mem _ hz)) (by rw [List.length_append, List.length_singleton]; omega) (by omega)) ?_
    rintro r u ⟨u1, u2, u3⟩
    rw [List.append_assoc] at u2
    exact ⟨u1, u2, fr_trans t2 u3⟩
theorem p266_137 (hW : W.headD 0 ≠ 10) (hW' : W.headD 0 ≠ 11) : ∀ (pd : List Int) (n : Nat) (C : List Int) (s : zS), rSt B (pd ++ W) C o s → (∀ y ∈ pd, y = 10 ∨ y = 11) → C.length + (pd ++ W).length ≤ 1600 → pd.length < n → Ok (m266_137 n s) (fun r t => r = 1 ∧ rSt B (11 :: W) (C ++ pd) o t ∧ Fr rkF s t) := by
  intro pd
  induction pd with
  | nil =>
    intro n C s h _ h16 hn
    obtain ⟨n, rfl⟩ : ∃ m, n = m + 1 := ⟨n - 1, by simp only [List.length_nil] at hn; omega⟩
    rw [List.nil_append] at *
    rw [m266_137]
    refine k_e (e250 h (by omega) (by decide)) ?_
    rw [if_neg hW]
    refine k_p rfl (k_e (e250 h (by omega) (by decide)) ?_)
    rw [if_neg hW']
    refine k_p rfl (k_v ?_)
    rw [h.2.1]
    refine k_x (by omega) (by omega) (k_v (k_v ?_))
    rw [sI_a (by omega), h.2.1]
    refine k_z (by omega) (by omega) (k_v (k_r ⟨rfl, ?_, fr_trans (fr_I (by omega)) (fr_I (by omega))⟩))
    rw [List.append_nil]
    exact rSt_push h
  | cons y pd ih =>
    intro n C s h hp h16 hn
    rw [List.length_cons] at hn
    obtain ⟨n, rfl⟩ : ∃ m, n = m + 1 := ⟨n - 1, by omega⟩
    have hy := hp y (List.mem_cons_self ..)
    have hl : C.length + (pd ++ W).length + 1 ≤ 1600 := by
      simp only [List.cons_append, List.length_cons] at h16; omega
    have drop : Ok (m251 s) (fun _ t => Ok (m266_137 n t) (fun r u => r = 1 ∧ rSt B (11 :: W) (C ++ y :: pd) o u ∧ Fr rkF s u)) := by
      refine k_m (p251 (W := pd ++ W) h (by omega) (by omega)) ?_
      rintro _ t ⟨t1, t2⟩
      refine k_m (ih n (C ++ [y]) t t1 (fun z hz => hp z (List.mem_cons_of_mem _ hz)) (by rw [List.length_append, List.length_singleton]; omega) (by omega)) ?_
      rintro r u ⟨u1, u2, u3⟩
      rw [List.append_assoc] at u2
      exact ⟨u1, u2, fr_trans t2 u3⟩
    rw [m266_137]
    refine k_e (e250 h (by omega) (by decide)) ?_
    show Ok (if (if y = 10 then (1 : Int) else 0) = 0 then _ else _) _
    by_cases c : y = 10
    · rw [if_pos c]
      exact k_q (by decide) (k_c drop (fun _ t q => q))
    · rw [if_neg c]
      refine k_p rfl (k_e (e250 h (by omega) (by decide)) ?_)
      show Ok (if (if y = 11 then (1 : Int) else 0) = 0 then _ else _) _
      rw [if_pos (by omega : y = 11)]
      exact k_q (by decide) (k_c drop (fun _ t q => q))
theorem qJ1 (h : qJ g e 1 F E ≠ -1) : isW g e F E (sL 29) = true ∧ qJ g e 1 F E = 10 := by
  unfold qJ at h ⊢
  rw [if_neg (by decide), if_pos rfl] at h ⊢
  by_cases c : isW g e F E (sL 29) = true
  · rw [if_pos c]; exact ⟨c, rfl⟩
  · rw [if_neg c] at h; exact absurd rfl h
theorem qJ0 (h : qJ g e 0 F E ≠ -1) : isW g e F E (sL 28) = true ∧ qJ g e 0 F E = 11 := by
  unfold qJ at h ⊢
  rw [if_pos rfl] at h ⊢
  by_cases c : isW g e F E (sL 28) = true
  · rw [if_pos c]; exact ⟨c, rfl⟩
  · rw [if_neg c] at h; exact absurd rfl h
theorem no1 (h : qJ g e 1 F E = -1) : isW g e F E (sL 29) = false := by
  unfold qJ at h
  rw [if_neg (by decide), if_pos rfl] at h
  by_cases c : isW g e F E (sL 29) = true
  · rw [if_pos c] at h; exact absurd h (by decide)
  · rw [Bool.not_eq_true] at c; exact c
theorem no0 (h : qJ g e 0 F E = -1) : isW g e F E (sL 28) = false := by
  unfold qJ at h
  rw [if_pos rfl] at h
  by_cases c : isW g e F E (sL 28) = true
  · rw [if_pos c] at h; exact absurd h (by decide)
  · rw [Bool.not_eq_true] at c; exact c
/-- behind a fact, no square bracket closes -/
theorem t76 (ht : tOk g e) (h : rG g e ask B F E W C o s) (hF : ¬ (F < e ∧ g F = 93) ∨ 25 ∉ W) (hQ : ∀ t, rG g e ask B F E W C o t → Fr rqF s t → Ok (oC (m266_76 t) fun z s10 => tR n z s10) Q) : Ok (tPost n (n3 + 1) s) Q := by
  have h16 := rG_len ht h
  unfold tPost
  rw [m266_0, oV_eq, h.2.1.2.1, if_pos rfl, oC_as]
  refine k_c (rG_look ht h) ?_
  rintro r t ⟨rfl, t2, t3, t4⟩
  by_cases c : F < e ∧ g F = 93
  · have hn := hF.resolve_left (fun z => z c)
    rw [if_pos (by unfold lkV; rw [if_pos c.1]; exact c.2), oC_as, e263 t3.2.2.1 (by omega), if_neg hn, oC_some, if_pos rfl]
    exact hQ t t3 t4
  · rw [if_neg (fun z => c ?_)]
    · exact hQ t t3 t4
    · unfold lkV at z
      by_cases f : F < e
      · rw [if_pos f] at z; exact ⟨f, z⟩
      · rw [if_neg f] at z; omega
theorem tAnd {pd : List Int} (ht : tOk g e) (h : rG g e ask B F E (pd ++ W) C o s) (hB : B ≤ (W.length : Int)) (hw : isW g e F E (sL 29) = true) (hp : ∀ y ∈ pd, y = 10) (hW : W.headD 0 ≠ 10) (hQ : ∀ t, rG g e ask B (nxF g e F) (nxE g e F E) (10 :: W) (C ++ pd) o t → Fr rqF s t → Ok (m265_2 n 1 t) Q) : Ok (tPost n (n3 + 1) s) Q := by
  have gx := nx_any h.1 (isW_F hw)
  have h16 := rG_len ht h
  have hlen := h.2.2.2.1
  refine t76 ht h (Or.inl (fun z => ?_)) (fun t t1 t2 => ?_)
  · have := kB_1.mp (tkK_1 (isW_t hw).1).2.1
    omega
  · unfold m266_76
    rw [oC_as]
    refine k_c (rG_take ht t1 (k := 29) (by decide) (by decide) (by decide) hw) ?_
    rintro r u ⟨rfl, u1, u2⟩
    rw [if_neg (by decide)]
    refine k_c (p266_87 hW pd zFu C u u1.2.2.1 hp h16 (by rw [List.length_append] at h16; unfold zFu; omega)) ?_
    rintro r v ⟨rfl, v1, v2⟩
    unfold tR
    rw [if_neg (by decide)]
    refine hQ v (rG_st u1 v1 v2 ?_ ?_ u1.2.2.2.2.2.2) (fr_trans t2 (fr_trans u2 (rk_rq v2)))
    · simp only [List.length_append, List.length_cons] at hlen ⊢; omega
    · rw [List.length_cons]; omega
theorem tOr {pd : List Int} (ht : tOk g e) (h : rG g e ask B F E (pd ++ W) C o s) (hB : B ≤ (W.length : Int)) (hw : isW g e F E (sL 28) = true) (hp : ∀ y ∈ pd, y = 10 ∨ y = 11) (hW : W.headD 0 ≠ 10) (hW' : W.headD 0 ≠ 11) (hQ : ∀ t, rG g e ask B (nxF g e F) (nxE g e F E) (11 :: W) (C ++ pd) o t → Fr rqF s t → Ok (m265_2 n 1 t) Q) : Ok (tPost n (n3 + 1) s) Q := by
  have gx := nx_any h.1 (isW_F hw)
  have h16 := rG_len ht h
  have hlen := h.2.2.2.1
  refine t76 ht h (Or.inl (fun z => ?_)) (fun t t1 t2 => ?_)
  · have := kB_1.mp (tkK_1 (isW_t hw).1).2.1
    omega
  · have na : isW g e F E (sL 29) = false := by
      cases hh : isW g e F E (sL 29)
      · rfl
      · exact absurd (isW_inj hw hh) (by decide)
    unfold m266_76
    rw [oC_as]
    refine k_c (rG_notake ht t1 (k := 29) (by decide) (by decide) (by decide) na) ?_
    rintro r u ⟨rfl, u1, u2, u3⟩
    rw [if_pos rfl, oC_as]
    refine k_c (rG_take ht u2 (k := 28) (by decide) (by decide) (by decide) hw) ?_
    rintro r v ⟨rfl, v1, v2⟩
    rw [if_neg (by decide)]
    refine k_c (p266_137 hW hW' pd zFu C v v1.2.2.1 hp h16 (by rw [List.length_append] at h16; unfold zFu; omega)) ?_
    rintro r w ⟨rfl, w1, w2⟩
    unfold tR
    rw [if_neg (by decide)]
    refine hQ w (rG_st v1 w1 w2 ?_ ?_ v1.2.2.2.2.2.2) (fr_trans t2 (fr_trans u3 (fr_trans v2 (rk_rq w2))))
    · simp only [List.length_append, List.length_cons] at hlen ⊢; omega
    · rw [List.length_cons]; omega
/-- neither and nor or -/
theorem tNone (ht : tOk g e) (h : rG g e ask B F E W C o s) (hF : ¬ (F < e ∧ g F = 93) ∨ 25 ∉ W) (h0 : qJ g e 0 F E = -1) (h1 : qJ g e 1 F E = -1) (hQ : ∀ t, rG g e ask B F E W C o t → Fr rqF s t → Ok (oC (if 25 ∈ W then oC (m153 1 F t) fun _ u => some ((0 : Int), u) else some (0, t)) fun z s10 => tR n z s10) Q) : Ok (tPost n (n3 + 1) s) Q := by
  have h16 := rG_len ht h
  refine t76 ht h hF (fun t t1 t2 => ?_)
  unfold m266_76
  rw [oC_as]
  refine k_c (rG_notake ht t1 (k := 29) (by decide) (by decide) (by decide) (no1 h1)) ?_
  rintro r u ⟨rfl, u1, u2, u3⟩
  rw [if_pos rfl, oC_as]
  refine k_c (rG_notake ht u2 (k := 28) (by decide) (by decide) (by decide) (no0 h0)) ?_
  rintro r v ⟨rfl, v1, v2, v3⟩
  have := hQ v v2 (fr_trans t2 (fr_trans u3 v3))
  rw [if_pos rfl, oV_eq, v2.2.1.2.1, if_pos rfl, oC_as, e263 v2.2.2.1 (by omega), oC_some]
  by_cases c : 25 ∈ W
  · rw [if_pos c] at this ⊢
    rw [if_neg (by decide), oV_eq, v1]
    exact this
  · rw [if_neg c] at this ⊢
    rw [if_pos rfl]
    exact this
theorem tFail (ht : tOk g e) (h : rG g e ask B F E W C o s) (hF : ¬ (F < e ∧ g F = 93)) (hm : 25 ∈ W) (h0 : qJ g e 0 F E = -1) (h1 : qJ g e 1 F E = -1) (hQ : ∀ r t, t.1 209 5 = 1 → t.1 209 6 = F → fF s t → Q r t) : Ok (tPost (n + 1) (n3 + 1) s) Q := by
  refine tNone ht h (Or.inl hF) h0 h1 (fun t t1 t2 => ?_)
  rw [if_pos hm, oC_as]
  refine k_c (p153 t1.2.1.2.1) ?_
  rintro _ u ⟨u1, u2, u3⟩
  rw [oC_some]
  unfold tR
  rw [if_pos rfl, t_bad0 (by rw [u1]; decide)]
  exact k_r (hQ _ _ u1 u2 (fF_tr t2 ⟨f56_rq u3, rG_100 ht t1 (u3.1 209 100 (by omega))⟩))
theorem p265_110 : ∀ (pd : List Int) (n : Nat) (C : List Int) (s : zS), rSt B pd C o s → s.1 209 5 = 0 → C.length + pd.length ≤ 1600 → pd.length < n → Ok (m265_110 n s) (fun _ t => rSt B [] (C ++ pd) o t ∧ Fr rkF s t) := by
  intro pd
  induction pd with
  | nil =>
    intro n C s h h5 h16 hn
    obtain ⟨n, rfl⟩ : ∃ m, n = m + 1 := ⟨n - 1, by simp only [List.length_nil] at hn; omega⟩
    have hw : s.1 209 102 = 0 := h.2.1
    rw [m265_110]
    refine k_v ?_
    rw [h5]
    refine k_p rfl (k_v ?_)
    rw [hw]
    refine k_q (by decide) (k_r ⟨?_, fr_refl⟩)
    rw [List.append_nil]
    exact h
  | cons y pd ih =>
    intro n C s h h5 h16 hn
    rw [List.length_cons] at hn h16
    obtain ⟨n, rfl⟩ : ∃ m, n = m + 1 := ⟨n - 1, by omega⟩
    have hw := h.2.1
    rw [List.length_cons] at hw
    rw [m265_110]
    refine k_v ?_
    rw [h5]
    refine k_p rfl (k_v ?_)
    rw [hw]
    refine k_p (by omega) (k_c (p251 h (by omega) (by omega)) ?_)
    rintro _ t ⟨t1, t2⟩
    refine k_m (ih n (C ++ [y]) t t1 (by rw [t2.1 209 5 (by omega)]; exact h5) (by rw [List.length_append, List.length_singleton]; omega) (by omega)) ?_
    rintro _ u ⟨u1, u2⟩
    rw [List.append_assoc] at u1
    exact ⟨u1, fr_trans t2 u2⟩
/-- a TEST has ended -/
theorem tStop {pd : List Int} (ht : tOk g e) (h : rG g e ask 0 F E pd C o s) (hm : 25 ∉ pd) (h0 : qJ g e 0 F E = -1) (h1 : qJ g e 1 F E = -1) (hQ : ∀ r t, rG g e ask 0 F E [] (C ++ pd) o t → Fr rqF s t → Q r t) : Ok (tPost (n + 1) (n3 + 1) s) Q := by
  have h16 := rG_len ht h
  have hlen := h.2.2.2.1
  refine tNone ht h (Or.inr hm) h0 h1 (fun t t1 t2 => ?_)
  rw [if_neg hm, oC_some]
  unfold tR
  rw [if_pos rfl, m265_2, if_pos rfl]
  refine k_m (p265_110 pd zFu C t t1.2.2.1 t1.2.1.2.1 h16 (by unfold zFu; omega)) ?_
  rintro r u ⟨u1, u2⟩
  refine hQ r u (rG_st t1 u1 u2 ?_ (by simp only [List.length_nil]; omega) t1.2.2.2.2.2.2) (fr_trans t2 (rk_rq u2))
  simp only [List.length_append, List.length_nil]
  omega
/-- a square bracket closes -/
theorem tClose {pd : List Int} (ht : tOk g e) (h : rG g e ask B F E (pd ++ 25 :: W0) C o s) (hB : B ≤ (W0.length : Int)) (hF : F < e ∧ g F = 93) (hp : ∀ y ∈ pd, y = 10 ∨ y = 11) (o1 : 1 ≤ o) (hQ : ∀ t, rG g e ask B (nxF g e F) (nxE g e F E) W0 (C ++ pd) (o - 1) t → Fr rqF s t → Ok (tEnd n n3 zFu t) Q) : Ok (tPost n (n3 + 1) s) Q := by
  have hle := ht.2.1
  have hF0 := h.1.1
  have gx := nx_any h.1 hF.1
  have h16 := rG_len ht h
  have hlen := h.2.2.2.1
  have ho := h.2.2.2.2.2.2
  unfold tPost
  rw [m266_0, oV_eq, h.2.1.2.1, if_pos rfl, oC_as]
  refine k_c (rG_look ht h) ?_
  rintro r t ⟨rfl, t2, t3, t4⟩
  rw [if_pos (by unfold lkV; rw [if_pos hF.1]; exact hF.2), oC_as, e263 t3.2.2.1 (by omega), if_pos (List.mem_append_right _ (List.mem_cons_self ..)), oC_some, if_neg (by decide), oV_eq, t2, oZ_pos (by omega) (by omega), oV_eq]
  have hl := rLx_sign h.1 hF.1 (by rw [hF.2]; decide) t3.2.1
  have u0 : rG g e ask B (nxF g e F) (nxE g e F E) (pd ++ 25 :: W0) C o (sI t 209 2 (F + 1)) := rG_lex t3 hl gx.1 (by omega) (fr_I (by omega))
  have fu : Fr rqF s (sI t 209 2 (F + 1)) := fr_trans t4 (fr_I (by omega))
  generalize sI t 209 2 (F + 1) = u at *
  refine k_c (Q := fun r v => Ok (tR n r v) Q) (p266_33 (by omega) (by omega) pd zFu C u u0.2.2.1 (fun y hy => by have := hp y hy; omega) h16 (by rw [List.length_append] at h16; unfold zFu; omega) (fun v v1 v2 => ?_)) (fun r v q => q)
  have gv : rG g e ask B (nxF g e F) (nxE g e F E) W0 (C ++ pd) (o - 1) v := by
    refine rG_st u0 v1 v2 ?_ hB (by omega)
    simp only [List.length_append, List.length_cons] at hlen ⊢; omega
  have := ok_un (hQ v gv (fr_trans fu (rk_rq v2)))
  exact k_c this (fun _ w q => ok_un q)
end
