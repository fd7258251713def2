/-! ===== the reference's stacks ===== -/
abbrev rqF (a : Nat) (k : Int) : Prop := (a = 209 ∧ (k = 2 ∨ k = 4 ∨ k = 5 ∨ k = 6 ∨ k = 100 ∨ k = 102 ∨ k = 103 ∨ k = 104)) ∨ a = 285 ∨ a = 286
abbrev rkF (a : Nat) (k : Int) : Prop := (a = 209 ∧ (k = 100 ∨ k = 102 ∨ k = 103)) ∨ a = 285 ∨ a = 286
def rSt (B : Int) (W C : List Int) (o : Int) (s : zS) : Prop := stk (fun j => s.1 286 j) W ∧ s.1 209 102 = (W.length : Int) ∧ s.1 209 100 = (C.length : Int) ∧ (∀ i : Nat, i < C.length → s.1 285 (i : Int) = C.getD i 0) ∧ s.1 209 103 = o ∧ s.1 209 104 = B
section
variable {B o : Int} {W C : List Int} {s t : zS}
theorem rSt_fr {A : Nat → Int → Prop} (hA : ∀ a k, A a k → ¬ (a = 209 ∧ (k = 100 ∨ k = 102 ∨ k = 103 ∨ k = 104)) ∧ a ≠ 285 ∧ a ≠ 286) (hf : Fr A s t) (h : rSt B W C o s) : rSt B W C o t := by
  obtain ⟨h1, h2, h3, h4, h5, h6⟩ := h
  refine ⟨stk_ext h1 (fun j _ _ => hf.1 286 j (fun z => (hA 286 j z).2.2 rfl)), ?_, ?_, fun i hi => ?_, ?_, ?_⟩
  · rw [hf.1 209 102 (fun z => (hA _ _ z).1 ⟨rfl, by omega⟩)]; exact h2
  · rw [hf.1 209 100 (fun z => (hA _ _ z).1 ⟨rfl, by omega⟩)]; exact h3
  · rw [hf.1 285 _ (fun z => (hA _ _ z).2.1 rfl)]; exact h4 i hi
  · rw [hf.1 209 103 (fun z => (hA _ _ z).1 ⟨rfl, by omega⟩)]; exact h5
  · rw [hf.1 209 104 (fun z => (hA _ _ z).1 ⟨rfl, by omega⟩)]; exact h6
theorem getD_snoc {l : List Int} {c : Int} {i : Nat} (hi : i < (l ++ [c]).length) : (l ++ [c]).getD i 0 = if i = l.length then c else l.getD i 0 := by
  rw [List.length_append, List.length_singleton] at hi
  by_cases d : i = l.length
  · subst d
    rw [if_pos rfl]
    simp [List.getD_eq_getElem?_getD]
  · rw [if_neg d]
    simp only [List.getD_eq_getElem?_getD]
    rw [List.getElem?_append_left (by omega)]
theorem p248 {c : Int} (h : rSt B W C o s) (hC : C.length < 1700) : Ok (m248 c s) (fun _ t => rSt B W (C ++ [c]) o t ∧ Fr rkF s t) := by
  obtain ⟨h1, h2, h3, h4, h5, h6⟩ := h
  unfold m248
  refine k_v ?_
  rw [h3]
  refine k_x (by omega) (by omega) (k_v (k_v ?_))
  rw [sI_a (by omega), h3]
  refine k_z (by omega) (by omega) (k_v (k_r ⟨⟨stk_ext h1 (fun j _ _ => ?_), ?_, ?_, fun i hi => ?_, ?_, ?_⟩, fr_trans (fr_I (by omega)) (fr_I (by omega))⟩))
  · rw [sI_a (by omega), sI_a (by omega)]
  · rw [sI_k (by omega), sI_a (by omega)]; exact h2
  · rw [sI_e, List.length_append, List.length_singleton]; omega
  · rw [getD_snoc hi, sI_a (by omega)]
    by_cases d : i = C.length
    · rw [if_pos d, d, sI_e]
    · rw [if_neg d, sI_k (by omega)]
      rw [List.length_append, List.length_singleton] at hi
      exact h4 i (by omega)
  · rw [sI_k (by omega), sI_a (by omega)]; exact h5
  · rw [sI_k (by omega), sI_a (by omega)]; exact h6
theorem p251 {x : Int} (h : rSt B (x :: W) C o s) (hC : C.length < 1700) (hW : W.length < 1700) : Ok (m251 s) (fun _ t => rSt B W (C ++ [x]) o t ∧ Fr rkF s t) := by
  obtain ⟨h1, h2, h3, h4, h5, h6⟩ := h
  rw [List.length_cons] at h2
  unfold m251
  refine k_v ?_
  rw [h2]
  refine k_z (by omega) (by omega) (k_v (k_v ?_))
  rw [sI_e, show ((W.length + 1 : Nat) : Int) - 1 = (W.length : Int) by omega]
  refine k_x (by omega) (by omega) (k_v ?_)
  rw [sI_a (by omega), show s.1 286 (W.length : Int) = x from h1.1]
  have hs : rSt B W C o (sI s 209 102 (W.length : Int)) := by
    refine ⟨stk_ext h1.2 (fun j _ _ => ?_), sI_e, ?_, fun i hi => ?_, ?_, ?_⟩
    · rw [sI_a (by omega)]
    · rw [sI_k (by omega)]; exact h3
    · rw [sI_a (by omega)]; exact h4 i hi
    · rw [sI_k (by omega)]; exact h5
    · rw [sI_k (by omega)]; exact h6
  refine k_c (p248 hs hC) ?_
  rintro _ t ⟨t1, t2⟩
  exact k_r ⟨t1, fr_trans (fr_I (by omega)) t2⟩
theorem rSt_push {x : Int} (h : rSt B W C o s) : rSt B (x :: W) C o (sI (sI s 286 (W.length : Int) x) 209 102 ((W.length : Int) + 1)) := by
  obtain ⟨h1, h2, h3, h4, h5, h6⟩ := h
  refine ⟨⟨?_, stk_ext h1 (fun j j0 j1 => ?_)⟩, ?_, ?_, fun i hi => ?_, ?_, ?_⟩
  · show (sI _ _ _ _).1 286 (W.length : Int) = x
    rw [sI_a (by omega), sI_e]
  · rw [sI_a (by omega), sI_k (by omega)]
  · rw [sI_e, List.length_cons]; omega
  · rw [sI_k (by omega), sI_a (by omega)]; exact h3
  · rw [sI_a (by omega), sI_a (by omega)]; exact h4 i hi
  · rw [sI_k (by omega), sI_a (by omega)]; exact h5
  · rw [sI_k (by omega), sI_a (by omega)]; exact h6
theorem p249t {x p : Int} (h : rSt B W C o s) (h5 : s.1 209 5 = 0) (ho : o < 6) (o0 : 0 ≤ o) (hW : W.length < 1700) : Ok (m249 x p s) (fun _ t => rSt B (x :: W) C (o + 1) t ∧ Fr rkF s t) := by
  unfold m249
  refine k_v ?_
  rw [h5]
  refine k_p rfl (k_v ?_)
  rw [h.2.2.2.2.1]
  refine k_q (by omega) (k_v ?_)
  refine k_z (by omega) (by omega) (k_v (k_v ?_))
  have hs : rSt B W C (o + 1) (sI s 209 103 (o + 1)) := by
    obtain ⟨h1, h2, h3, h4, h5, h6⟩ := h
    refine ⟨stk_ext h1 (fun j _ _ => ?_), ?_, ?_, fun i hi => ?_, sI_e, ?_⟩
    · rw [sI_a (by omega)]
    · rw [sI_k (by omega)]; exact h2
    · rw [sI_k (by omega)]; exact h3
    · rw [sI_a (by omega)]; exact h4 i hi
    · rw [sI_k (by omega)]; exact h6
  have f1 : Fr rkF s (sI s 209 103 (o + 1)) := fr_I (by omega)
  generalize sI s 209 103 (o + 1) = u at *
  rw [hs.2.1]
  refine k_x (by omega) (by omega) (k_v (k_v ?_))
  rw [sI_a (by omega), hs.2.1]
  exact k_z (by omega) (by omega) (k_v (k_r ⟨rSt_push hs, fr_trans f1 (fr_trans (fr_I (by omega)) (fr_I (by omega)))⟩))
theorem p249f {x p : Int} (h : rSt B W C o s) (h5 : s.1 209 5 = 0) (ho : o = 6) : Ok (m249 x p s) (fun _ t => t.1 209 5 = 4 ∧ t.1 209 6 = p ∧ Fr (fun a k => a = 209 ∧ (k = 5 ∨ k = 6)) s t) := by
  unfold m249
  refine k_v ?_
  rw [h5]
  refine k_p rfl (k_v ?_)
  rw [h.2.2.2.2.1]
  refine k_p ho (k_c (p153 h5) ?_)
  intro _ t q
  exact k_r q
theorem e250 {x : Int} (h : rSt B W C o s) (hW : W.length ≤ 1700) (hx : x ≠ 0) : m250 x s = some (if W.headD 0 = x then 1 else 0, s) := by
  obtain ⟨h1, h2, h3, h4, h5, h6⟩ := h
  unfold m250
  rw [oV_eq, h2]
  cases W with
  | nil =>
    rw [if_neg (by simp)]
    show _ = some (if (0 : Int) = x then 1 else 0, s)
    rw [if_neg (fun z => hx z.symm)]
  | cons y W =>
    rw [List.length_cons] at hW ⊢
    rw [if_pos (by omega), oV_eq, oZ_pos (by omega) (by omega), oX_pos (by omega) (by omega), oV_eq, show ((W.length + 1 : Nat) : Int) - 1 = (W.length : Int) by omega, show s.1 286 (W.length : Int) = y from h1.1]
    show _ = some (if y = x then 1 else 0, s)
    split <;> rfl
theorem stk_mid {f : Int → Int} {x : Int} {W0 : List Int} : ∀ {p : List Int}, stk f (p ++ x :: W0) → f (W0.length : Int) = x
  | [], h => h.1
  | _ :: p, h => stk_mid (p := p) h.2
theorem stk_app {f : Int → Int} {W0 : List Int} : ∀ {p : List Int}, stk f (p ++ W0) → stk f W0
  | [], h => h
  | _ :: p, h => stk_app (p := p) h.2
theorem e252 {x : Int} : m252 x s = some (if 20 ≤ x ∧ x ≤ 24 then 1 else 0, s) := by
  unfold m252
  by_cases c : x < 20
  · rw [if_pos c, if_neg (by omega)]
  · rw [if_neg c]
    by_cases d : 24 < x
    · rw [if_pos d, if_neg (by omega)]
    · rw [if_neg d, if_pos (by omega)]
theorem e253_7b {x : Int} {W0 : List Int} (hB : s.1 209 104 = B) (hx : 20 ≤ x ∧ x ≤ 24) (hl : B ≤ (W0.length : Int)) : ∀ (p : List Int) (n : Nat), stk (fun j => s.1 286 j) (p ++ x :: W0) → (∀ y ∈ p, ¬ (20 ≤ y ∧ y ≤ 24)) → (p ++ x :: W0).length ≤ 1700 → p.length < n → m253_7 n (((p ++ x :: W0).length : Int) - 1) s = some (x, s) := by
  intro p
  induction p with
  | nil =>
    intro n hs _ h17 hn
    obtain ⟨n, rfl⟩ : ∃ m, n = m + 1 := ⟨n - 1, by simp only [List.length_nil] at hn; omega⟩
    rw [List.nil_append] at *
    rw [List.length_cons] at h17 ⊢
    rw [m253_7, oV_eq, hB, if_neg (by omega), oX_pos (by omega) (by omega), oV_eq, show ((W0.length + 1 : Nat) : Int) - 1 = (W0.length : Int) by omega, show s.1 286 (W0.length : Int) = x from hs.1, e252, oC_some, if_pos hx, if_neg (by decide)]
    unfold m253_33
    rw [oV_eq, hB, if_neg (by omega), oX_pos (by omega) (by omega), oV_eq, show s.1 286 (W0.length : Int) = x from hs.1]
  | cons y p ih =>
    intro n hs hp h17 hn
    rw [List.length_cons] at hn
    obtain ⟨n, rfl⟩ : ∃ m, n = m + 1 := ⟨n - 1, by omega⟩
    have hlen : ((y :: p ++ x :: W0).length : Int) - 1 = ((p ++ x :: W0).length : Int) := by
      simp only [List.length_append, List.length_cons]; omega
    have hge : B ≤ ((p ++ x :: W0).length : Int) := by
      simp only [List.length_append, List.length_cons]; omega
    have h17' : (p ++ x :: W0).length < 1700 := by
      simp only [List.length_append, List.length_cons] at h17 ⊢; omega
    rw [hlen, m253_7, oV_eq, hB, if_neg (by omega), oX_pos (by omega) (by omega), oV_eq, show s.1 286 ((p ++ x :: W0).length : Int) = y from hs.1, e252, oC_some, if_neg (hp y (List.mem_cons_self ..)), if_pos rfl, oZ_pos (by omega) (by omega)]
    exact ih n hs.2 (fun z hz => hp z (List.mem_cons_of_mem _ hz)) (by omega) (by omega)
theorem e253b {x : Int} {W0 p : List Int} (h : rSt B (p ++ x :: W0) C o s) (hx : 20 ≤ x ∧ x ≤ 24) (hl : B ≤ (W0.length : Int)) (hp : ∀ y ∈ p, ¬ (20 ≤ y ∧ y ≤ 24)) (h17 : (p ++ x :: W0).length ≤ 1600) : m253 s = some (x, s) := by
  unfold m253
  rw [oV_eq, h.2.1, oZ_pos (by omega) (by omega)]
  refine e253_7b h.2.2.2.2.2 hx hl p zFu h.1 hp (by omega) ?_
  rw [List.length_append] at h17
  unfold zFu
  omega
theorem e253_7n {W0 : List Int} (hB : s.1 209 104 = B) (hl : B = (W0.length : Int)) : ∀ (p : List Int) (n : Nat), stk (fun j => s.1 286 j) (p ++ W0) → (∀ y ∈ p, ¬ (20 ≤ y ∧ y ≤ 24)) → (p ++ W0).length ≤ 1700 → p.length < n → m253_7 n (((p ++ W0).length : Int) - 1) s = some (-1, s) := by
  intro p
  induction p with
  | nil =>
    intro n hs _ h17 hn
    obtain ⟨n, rfl⟩ : ∃ m, n = m + 1 := ⟨n - 1, by simp only [List.length_nil] at hn; omega⟩
    rw [List.nil_append] at *
    rw [m253_7, oV_eq, hB, if_pos (by omega)]
    unfold m253_33
    rw [oV_eq, hB, if_pos (by omega)]
  | cons y p ih =>
    intro n hs hp h17 hn
    rw [List.length_cons] at hn
    obtain ⟨n, rfl⟩ : ∃ m, n = m + 1 := ⟨n - 1, by omega⟩
    have hlen : ((y :: p ++ W0).length : Int) - 1 = ((p ++ W0).length : Int) := by
      simp only [List.length_append, List.length_cons]; omega
    have hge : B ≤ ((p ++ W0).length : Int) := by
      simp only [List.length_append]; omega
    have h17' : (p ++ W0).length < 1700 := by
      simp only [List.length_append, List.length_cons] at h17 ⊢; omega
    rw [hlen, m253_7, oV_eq, hB, if_neg (by omega), oX_pos (by omega) (by omega), oV_eq, show s.1 286 ((p ++ W0).length : Int) = y from hs.1, e252, oC_some, if_neg (hp y (List.mem_cons_self ..)), if_pos rfl, oZ_pos (by omega) (by omega)]
    exact ih n hs.2 (fun z hz => hp z (List.mem_cons_of_mem _ hz)) (by omega) (by omega)
theorem e253n {W0 p : List Int} (h : rSt B (p ++ W0) C o s) (hl : B = (W0.length : Int)) (hp : ∀ y ∈ p, ¬ (20 ≤ y ∧ y ≤ 24)) (h17 : (p ++ W0).length ≤ 1600) : m253 s = some (-1, s) := by
  unfold m253
  rw [oV_eq, h.2.1, oZ_pos (by omega) (by omega)]
  refine e253_7n h.2.2.2.2.2 hl p zFu h.1 hp (by omega) ?_
  rw [List.length_append] at h17
  unfold zFu
  omega
/-- what waits above the bracket is told -/
theorem p254_0 {x : Int} {W0 : List Int} (hx : 20 ≤ x ∧ x ≤ 24) (hl : B ≤ (W0.length : Int)) : ∀ (p : List Int) (n : Nat) (C : List Int) (s : zS), rSt B (p ++ x :: W0) C o s → (∀ y ∈ p, ¬ (20 ≤ y ∧ y ≤ 24)) → C.length + (p ++ x :: W0).length ≤ 1600 → p.length < n → Ok (m254_0 n s) (fun _ t => rSt B (x :: W0) (C ++ p) o t ∧ Fr rkF s t) := by
  intro p
  induction p with
  | nil =>
    intro n C s h _ h17 hn
    obtain ⟨n, rfl⟩ : ∃ m, n = m + 1 := ⟨n - 1, by simp only [List.length_nil] at hn; omega⟩
    rw [List.nil_append] at *
    rw [List.length_cons] at h17
    have hw := h.2.1
    rw [List.length_cons] at hw
    rw [m254_0]
    refine k_v (k_v ?_)
    rw [hw, h.2.2.2.2.2]
    refine k_p (by omega) (k_v (k_z (by omega) (by omega) (k_x (by omega) (by omega) (k_v ?_))))
    rw [show ((W0.length + 1 : Nat) : Int) - 1 = (W0.length : Int) by omega, show s.1 286 (W0.length : Int) = x from h.1.1]
    refine k_e e252 ?_
    rw [if_pos hx]
    refine k_q (by decide) (k_r ⟨?_, fr_refl⟩)
    rw [List.append_nil]
    exact h
  | cons y p ih =>
    intro n C s h hp h17 hn
    rw [List.length_cons] at hn
    obtain ⟨n, rfl⟩ : ∃ m, n = m + 1 := ⟨n - 1, by omega⟩
    have hlen : ((y :: p ++ x :: W0).length : Int) = ((p ++ x :: W0).length : Int) + 1 := by
      simp only [List.length_append, List.length_cons]; omega
    have hge : B ≤ ((p ++ x :: W0).length : Int) := by
      simp only [List.length_append, List.length_cons]; omega
    have h17' : C.length + (p ++ x :: W0).length + 1 ≤ 1600 := by
      simp only [List.length_append, List.length_cons] at h17 ⊢; omega
    have hw := h.2.1
    rw [hlen] at hw
    rw [m254_0]
    refine k_v (k_v ?_)
    rw [hw, h.2.2.2.2.2]
    refine k_p (by omega) (k_v (k_z (by omega) (by omega) (k_x (by omega) (by omega) (k_v ?_))))
    rw [show ((p ++ x :: W0).length : Int) + 1 - 1 = ((p ++ x :: W0).length : Int) by omega, show s.1 286 ((p ++ x :: W0).length : Int) = y from h.1.1]
    refine k_e e252 ?_
    rw [if_neg (hp y (List.mem_cons_self ..))]
    refine k_p rfl (k_c (p251 (W := p ++ x :: W0) h (by omega) (by omega)) ?_)
    rintro _ t ⟨t1, t2⟩
    refine k_m (ih n (C ++ [y]) t t1 (fun z hz => hp z (List.mem_cons_of_mem _ hz)) ?_ (by omega)) ?_
    · rw [List.length_append, List.length_singleton]; omega
    · rintro _ u ⟨u1, u2⟩
      rw [List.append_assoc] at u1
      exact ⟨u1, fr_trans t2 u2⟩
theorem p254 {x : Int} {W0 p : List Int} (h : rSt B (p ++ x :: W0) C o s) (hx : 20 ≤ x ∧ x ≤ 24) (hl : B ≤ (W0.length : Int)) (hp : ∀ y ∈ p, ¬ (20 ≤ y ∧ y ≤ 24)) (h17 : C.length + (p ++ x :: W0).length ≤ 1600) : Ok (m254 s) (fun _ t => rSt B (x :: W0) (C ++ p) o t ∧ Fr rkF s t) := by
  unfold m254
  refine p254_0 hx hl p zFu C s h hp h17 ?_
  rw [List.length_append] at h17
  unfold zFu
  omega
/-- no part waits for this one -/
theorem e258n {n : Nat} (h : rSt B W C o s) (hB0 : 0 ≤ B) (hW : W.length ≤ 1600) (h5 : s.1 209 5 = 0) (hh : W.headD 0 < 60 ∨ (W.length : Int) ≤ B) : m258_0 (n + 1) s = some (0, s) := by
  rw [m258_0, oV_eq, h5, if_pos rfl, oV_eq, h.2.1, oV_eq, h.2.2.2.2.2]
  by_cases c : B < (W.length : Int)
  · rw [if_pos c]
    have hh := hh.resolve_right (by omega)
    cases W with
    | nil => exact absurd c (by have hB := hB0; simp only [List.length_nil]; omega)
    | cons y W =>
      rw [List.length_cons] at hW ⊢
      rw [oV_eq, oZ_pos (by omega) (by omega), oX_pos (by omega) (by omega), oV_eq, show ((W.length + 1 : Nat) : Int) - 1 = (W.length : Int) by omega, show s.1 286 (W.length : Int) = y from h.1.1, if_pos (show y < 60 from hh)]
  · rw [if_neg c]
/-- one that waits is told -/
theorem p258s {n : Nat} {x : Int} {Q : Int → zS → Prop} (h : rSt B (x :: W) C o s) (hl : B ≤ (W.length : Int)) (hx : 60 ≤ x) (h5 : s.1 209 5 = 0) (h17 : C.length + W.length ≤ 1600) (o0 : -10000 ≤ o) (o6 : o ≤ 10000) (hQ : ∀ t, rSt B W (C ++ [x]) (o - 1) t → Fr rkF s t → Ok (m258_0 n t) Q) : Ok (m258_0 (n + 1) s) Q := by
  have hw := h.2.1
  rw [List.length_cons] at hw
  rw [m258_0]
  refine k_v ?_
  rw [h5]
  refine k_p rfl (k_v (k_v ?_))
  rw [hw, h.2.2.2.2.2]
  refine k_p (by omega) (k_v (k_z (by omega) (by omega) (k_x (by omega) (by omega) (k_v ?_))))
  rw [show ((W.length + 1 : Nat) : Int) - 1 = (W.length : Int) by omega, show s.1 286 (W.length : Int) = x from h.1.1]
  refine k_q (by omega) (k_v ?_)
  rw [h.2.2.2.2.1]
  refine k_z (by omega) (by omega) (k_v ?_)
  have hs : rSt B (x :: W) C (o - 1) (sI s 209 103 (o - 1)) := by
    obtain ⟨h1, h2, h3, h4, h5, h6⟩ := h
    refine ⟨stk_ext h1 (fun j _ _ => ?_), ?_, ?_, fun i hi => ?_, sI_e, ?_⟩
    · rw [sI_a (by omega)]
    · rw [sI_k (by omega)]; exact h2
    · rw [sI_k (by omega)]; exact h3
    · rw [sI_a (by omega)]; exact h4 i hi
    · rw [sI_k (by omega)]; exact h6
  refine k_c (p251 hs (by omega) (by omega)) ?_
  rintro _ t ⟨t1, t2⟩
  exact hQ t t1 (fr_trans (fr_I (by omega)) t2)
end
