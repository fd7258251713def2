/-! ===== numbers, in both ===== -/
def lxV (g : Int → Int) (F : Int) : Nat → Int
  | 0 => 0
  | j + 1 => 10 * lxV g F j + g (F + (j : Int)) - 48
def p10 : Nat → Int
  | 0 => 1
  | j + 1 => 10 * p10 j
theorem p10_4 {j : Nat} (h : j ≤ 4) : p10 j ≤ 10000 := by
  have : j = 0 ∨ j = 1 ∨ j = 2 ∨ j = 3 ∨ j = 4 := by omega
  rcases this with rfl | rfl | rfl | rfl | rfl <;> decide
theorem lxV_in {g : Int → Int} {F : Int} : ∀ j : Nat, (∀ i : Nat, i < j → 48 ≤ g (F + (i : Int)) ∧ g (F + (i : Int)) ≤ 57) → 0 ≤ lxV g F j ∧ lxV g F j < p10 j := by
  intro j
  induction j with
  | zero => intro _; exact ⟨by show (0 : Int) ≤ 0; omega, by show (0 : Int) < 1; omega⟩
  | succ j ih =>
    intro h
    have h1 := ih (fun i hi => h i (by omega))
    have h2 := h j (by omega)
    show 0 ≤ 10 * lxV g F j + g (F + (j : Int)) - 48 ∧ 10 * lxV g F j + g (F + (j : Int)) - 48 < 10 * p10 j
    omega
/-- a number that is asked: a fault, or it and where one is behind it -/
def lxNum (g : Int → Int) (e F E lo hi : Int) : (Int × Int) ⊕ (Int × Int × Int) :=
  if tkK g e F E = 2 then (if 4 < tkB g e F - F then .inl (1, F + 4) else if lxV g F (tkB g e F - F).toNat < lo ∨ hi < lxV g F (tkB g e F - F).toNat then .inl (2, F) else .inr (lxV g F (tkB g e F - F).toNat, nxF g e F, nxE g e F E)) else .inl (1, F)
abbrev cpF (a : Nat) (k : Int) : Prop := a = 1 ∧ (k = 3 ∨ k = 4 ∨ k = 5 ∨ k = 6 ∨ k = 8)
def cNum (g : Int → Int) (e : Int) (s : zS) (x : (Int × Int) ⊕ (Int × Int × Int)) (r : Int) (t : zS) : Prop := match x with
  | .inl q => r = -1 ∧ t.1 1 5 = q.1 ∧ t.1 1 6 = q.2 ∧ Fr cpF s t
  | .inr q => r = q.1 ∧ cLx g e q.2.1 q.2.2 t ∧ lxW g e q.2.1 q.2.2 ∧ Fr xF s t
def rNum (g : Int → Int) (e : Int) (s : zS) (x : (Int × Int) ⊕ (Int × Int × Int)) (r : Int) (t : zS) : Prop := match x with
  | .inl q => t.1 209 5 = q.1 ∧ t.1 209 6 = q.2 ∧ Fr yfF s t ∧ 0 ≤ r ∧ r ≤ 9999
  | .inr q => r = q.1 ∧ rLx g e q.2.1 q.2.2 t ∧ lxW g e q.2.1 q.2.2 ∧ Fr yF s t
section
variable {g : Int → Int} {e F E lo hi : Int} {s : zS}
theorem lxNum_1 (h : tkK g e F E ≠ 2) : lxNum g e F E lo hi = .inl (1, F) := if_neg h
theorem lxNum_4 (h : tkK g e F E = 2) (h4 : 4 < tkB g e F - F) : lxNum g e F E lo hi = .inl (1, F + 4) := by unfold lxNum; rw [if_pos h, if_pos h4]
theorem lxNum_v (h : tkK g e F E = 2) (h4 : ¬ 4 < tkB g e F - F) (hv : lxV g F (tkB g e F - F).toNat < lo ∨ hi < lxV g F (tkB g e F - F).toNat) : lxNum g e F E lo hi = .inl (2, F) := by unfold lxNum; rw [if_pos h, if_neg h4, if_pos hv]
theorem lxNum_n (h : tkK g e F E = 2) (h4 : ¬ 4 < tkB g e F - F) (hv : ¬ (lxV g F (tkB g e F - F).toNat < lo ∨ hi < lxV g F (tkB g e F - F).toNat)) : lxNum g e F E lo hi = .inr (lxV g F (tkB g e F - F).toNat, nxF g e F, nxE g e F E) := by unfold lxNum; rw [if_pos h, if_neg h4, if_neg hv]
theorem num_dig (hW : lxW g e F E) (h : tkK g e F E = 2) {i : Int} (h0 : F ≤ i) (h1 : i < tkB g e F) : 48 ≤ g i ∧ g i ≤ 57 := by
  obtain ⟨k1, k2, k3⟩ := tkK_2 h
  rw [tkB_1 k1 (Or.inr k2), k2] at h1
  exact kB_2.mp ((lxS_p (g := g) (k := 2) hW.2.1).2.2.1 i h0 h1)
theorem num_end (hW : lxW g e F E) (h : tkK g e F E = 2) (h1 : tkB g e F < e) : ¬ (48 ≤ g (tkB g e F) ∧ g (tkB g e F) ≤ 57) := by
  obtain ⟨k1, k2, k3⟩ := tkK_2 h
  rw [tkB_1 k1 (Or.inr k2), k2] at h1 ⊢
  exact fun z => (lxS_p (g := g) (k := 2) hW.2.1).2.2.2 h1 (kB_2.mpr z)
theorem num_v (hW : lxW g e F E) (h : tkK g e F E = 2) {j : Nat} (h4 : j ≤ 4) (h1 : F + (j : Int) ≤ tkB g e F) : 0 ≤ lxV g F j ∧ lxV g F j ≤ 9999 := by
  have := lxV_in (g := g) (F := F) j (fun i hi => num_dig hW h (by omega) (by omega))
  have := p10_4 h4
  omega
theorem lxNum_in (hW : lxW g e F E) {q : Int × Int × Int} (h : lxNum g e F E lo hi = .inr q) : lo ≤ q.1 ∧ q.1 ≤ hi ∧ 0 ≤ q.1 ∧ q.1 ≤ 9999 ∧ F < q.2.1 ∧ tkK g e F E = 2 ∧ q.2.1 = nxF g e F ∧ q.2.2 = nxE g e F E := by
  by_cases c : tkK g e F E = 2
  · by_cases d : 4 < tkB g e F - F
    · rw [lxNum_4 c d] at h; exact absurd h (by simp)
    · by_cases x : lxV g F (tkB g e F - F).toNat < lo ∨ hi < lxV g F (tkB g e F - F).toNat
      · rw [lxNum_v c d x] at h; exact absurd h (by simp)
      · rw [lxNum_n c d x] at h
        have hB := tkB_in hW
        have := num_v hW c (j := (tkB g e F - F).toNat) (by omega) (by omega)
        have := nxF_gt hW (tkK_2 c).1
        cases h
        refine ⟨?_, ?_, ?_, ?_, ?_, c, rfl, rfl⟩
        · show lo ≤ lxV g F (tkB g e F - F).toNat; omega
        · show lxV g F (tkB g e F - F).toNat ≤ hi; omega
        · show 0 ≤ lxV g F (tkB g e F - F).toNat; omega
        · show lxV g F (tkB g e F - F).toNat ≤ 9999; omega
        · show F < nxF g e F; omega
  · rw [lxNum_1 c] at h; exact absurd h (by simp)
theorem p83_50 (ht : tOk g e) (hW : lxW g e F E) (h : cLx g e F E s) (hk : tkK g e F E = 2) (h4 : ¬ 4 < tkB g e F - F) : ∀ (n j i : Nat), F + (i : Int) + (j : Int) = tkB g e F → j < n → Ok (m83_50 n lo hi (lxV g F i) (F + (i : Int)) s) (cNum g e s (lxNum g e F E lo hi)) := by
  have hle := ht.2.1
  have hF0 := hW.1
  have hB := tkB_in hW
  intro n
  induction n with
  | zero => intro j i _ h; omega
  | succ n ih =>
    intro j i hij hj
    have hv := num_v hW hk (j := i) (by omega) (by omega)
    rw [m83_50]
    refine k_v ?_
    rw [h.2.2.2]
    cases j with
    | zero =>
      have ei : (tkB g e F - F).toNat = i := by omega
      have bad : (lxV g F i < lo ∨ hi < lxV g F i) → Ok (m83_91 s) (cNum g e s (lxNum g e F E lo hi)) := by
        intro z
        rw [← ei] at z
        rw [lxNum_v hk h4 z]
        unfold m83_91
        refine k_v (k_c p77 ?_)
        rw [h.2.2.1]
        rintro r t ⟨_, t1, t2, t3⟩
        exact k_r ⟨rfl, t1, t2, fr_mono (fun a k z => by omega) t3⟩
      refine k_q (by omega) (k_i (fun z => bad (Or.inl z)) (fun z => k_i (fun y => bad (Or.inr y)) (fun y => ?_)))
      refine k_c (p76a ht hW h (tkK_2 hk).1 (by omega)) ?_
      rintro _ t ⟨t1, t2, t3⟩
      rw [lxNum_n hk h4 (by rw [ei]; omega)]
      exact k_r ⟨by rw [ei], t1, t2, t3⟩
    | succ j =>
      have hd := num_dig hW hk (i := F + (i : Int)) (by omega) (by omega)
      refine k_p (by omega) (k_z (by omega) (by omega) (k_x (by omega) (by omega) (k_v ?_)))
      rw [h.1.2.1 _ (by omega) (by omega)]
      refine k_z (by omega) (by omega) (k_z (by omega) (by omega) (k_z (by omega) (by omega) ?_))
      have := ih j (i + 1) (by omega) (by omega)
      rw [show F + ((i + 1 : Nat) : Int) = F + (i : Int) + 1 by omega] at this
      have e1 : lxV g F (i + 1) = lxV g F i * 10 + g (F + (i : Int)) - 48 := by
        show 10 * lxV g F i + g (F + (i : Int)) - 48 = _
        omega
      rw [e1] at this
      exact this
/-- the class's takeNumber -/
theorem p83 (ht : tOk g e) (hW : lxW g e F E) (h : cLx g e F E s) : Ok (m83 lo hi s) (cNum g e s (lxNum g e F E lo hi)) := by
  have hle := ht.2.1
  have hF0 := hW.1
  have hB := tkB_in hW
  unfold m83
  refine k_v ?_
  rw [h.2.1]
  by_cases hk : tkK g e F E = 2
  · refine k_p hk (k_v (k_v ?_))
    rw [h.2.2.1, h.2.2.2]
    refine k_z (by omega) (by omega) (k_i (fun z => k_v ?_) (fun z => k_v ?_))
    · refine k_z (by omega) (by omega) (k_c p77 ?_)
      rintro r t ⟨_, t1, t2, t3⟩
      rw [lxNum_4 hk z]
      exact k_r ⟨rfl, t1, t2, fr_mono (fun a k z => by omega) t3⟩
    · have := p83_50 (lo := lo) (hi := hi) ht hW h hk z zFu (tkB g e F - F).toNat 0 (by omega) (by unfold zFu; omega)
      rw [show F + ((0 : Nat) : Int) = F by omega] at this
      exact this
  · refine k_q hk (k_c (p78 h.2.2.1) ?_)
    rintro r t ⟨_, t1, t2, t3⟩
    rw [lxNum_1 hk]
    exact k_r ⟨rfl, t1, t2, fr_mono (fun a k z => by omega) t3⟩
theorem p162_49 (ht : tOk g e) (hW : lxW g e F E) (hk : tkK g e F E = 2) {s0 : zS} (h0 : rTp g e s0) (h05 : s0.1 209 5 = 0) : ∀ (n i : Nat) (s : zS), F + (i : Int) ≤ tkB g e F → i ≤ 4 → 5 - i < n → s.1 209 2 = F + (i : Int) → Fr yF s0 s → Ok (m162_49 n lo hi F (lxV g F i) s) (rNum g e s0 (lxNum g e F E lo hi)) := by
  have hle := ht.2.1
  have hF0 := hW.1
  have hB := tkB_in hW
  intro n
  induction n with
  | zero => intro i s _ _ h; omega
  | succ n ih =>
    intro i s h1 h2 h3 ha hs
    have hv := num_v hW hk (j := i) (by omega) (by omega)
    have hT : rTp g e s := rTp_fr (A := yF) (fun a k z => by omega) (frj_of hs) h0
    have h5 : s.1 209 5 = 0 := by rw [hs.1 209 5 (by omega)]; exact h05
    -- the number has ended
    have fin : F + (i : Int) = tkB g e F → Ok (m162_129 lo hi F (lxV g F i) s) (rNum g e s0 (lxNum g e F E lo hi)) := by
      intro z
      have ei : (tkB g e F - F).toNat = i := by omega
      have n4 : ¬ 4 < tkB g e F - F := by omega
      unfold m162_129
      refine k_v (k_v ?_)
      rw [ha]
      generalize hu : sI s 209 4 (F + (i : Int)) = u
      have fu : Fr yF s0 u := by rw [← hu]; exact fr_trans hs (fr_I (by omega))
      have u5 : u.1 209 5 = 0 := by rw [← hu, sI_k (by omega)]; exact h5
      refine k_e e150 ?_
      by_cases c : lo ≤ lxV g F i ∧ lxV g F i ≤ hi
      · rw [if_pos c]
        refine k_q (by decide) (k_r ?_)
        rw [lxNum_n hk n4 (by rw [ei]; omega)]
        have hx := nx_w hW (Or.inr hk)
        refine ⟨by rw [ei], ⟨rTp_fr (A := yF) (fun a k z => by omega) (frj_of fu) h0, u5, ?_, ?_, ?_⟩, hx.2.1, fu⟩
        · rw [← hu, sI_k (by omega), ha]; omega
        · rw [← hu, sI_k (by omega), ha, z]; exact hx.2.2
        · show u.1 209 4 = nxE g e F E
          rw [← hu, sI_e, hx.1, z]
      · rw [if_neg c]
        refine k_p rfl (k_c (p153 u5) ?_)
        rintro _ t ⟨t1, t2, t3⟩
        rw [lxNum_v hk n4 (by rw [ei]; omega)]
        exact k_r ⟨t1, t2, fr_trans (fr_mono (fun a k z => by omega) fu) (fr_mono (fun a k z => by omega) t3), hv.1, hv.2⟩
    rw [m162_49]
    refine k_v (k_v ?_)
    rw [ha, hT.1]
    by_cases c : F + (i : Int) < tkB g e F
    · have hd := num_dig hW hk (i := F + (i : Int)) (by omega) (by omega)
      refine k_p (by omega) (k_v ?_)
      refine k_x (by omega) (by omega) (k_v ?_)
      rw [hT.2 _ (by omega) (by omega)]
      refine k_e e155 ?_
      rw [if_pos hd]
      refine k_q (by decide) (k_v ?_)
      rw [ha]
      refine k_z (by omega) (by omega) (k_i (fun z => k_v ?_) (fun z => k_z (by omega) (by omega) (k_v ?_)))
      · refine k_c (p153 h5) ?_
        rintro _ t ⟨t1, t2, t3⟩
        rw [lxNum_4 hk (by omega)]
        exact k_r ⟨t1, by rw [t2]; show F + (i : Int) = F + 4; omega, fr_trans (fr_mono (fun a k z => by omega) hs) (fr_mono (fun a k z => by omega) t3), by omega, by omega⟩
      · refine k_x (by omega) (by omega) (k_v ?_)
        rw [hT.2 _ (by omega) (by omega)]
        refine k_z (by omega) (by omega) (k_z (by omega) (by omega) (k_v ?_))
        refine k_z (by omega) (by omega) (k_v ?_)
        exact ih (i + 1) _ (by omega) (by omega) (by omega) (by rw [sI_e]; omega) (fr_trans hs (fr_I (by omega)))
    · have ez : F + (i : Int) = tkB g e F := by omega
      refine k_i (fun z => k_v ?_) (fun z => fin ez)
      refine k_x (by omega) (by omega) (k_v ?_)
      rw [hT.2 _ (by omega) (by omega)]
      refine k_e e155 ?_
      have := num_end hW hk (by omega)
      rw [← ez] at this
      rw [if_neg this]
      exact k_p rfl (fin ez)
/-- the reference's number -/
theorem p162 (ht : tOk g e) (hW : lxW g e F E) (h : rLx g e F E s) : Ok (m162 lo hi s) (rNum g e s (lxNum g e F E lo hi)) := by
  have hle := ht.2.1
  have hF0 := hW.1
  have hB := tkB_in hW
  unfold m162
  refine k_v ?_
  rw [h.2.1]
  refine k_p rfl (k_c (p156 ht h) ?_)
  rintro r t ⟨e1, e2, e3, e4⟩
  have no : tkK g e F E ≠ 2 → Ok (oV (t.1 209 2) fun z10 => oC (m153 1 z10 t) fun _ s12 => some ((0 : Int), s12)) (rNum g e s (lxNum g e F E lo hi)) := by
    intro z
    refine k_v (k_c (p153 e3.2.1) ?_)
    rintro _ u ⟨u1, u2, u3⟩
    rw [lxNum_1 z]
    exact k_r ⟨u1, by rw [u2, e2], fr_trans (fr_mono (fun a k z => by omega) e4) (fr_mono (fun a k z => by omega) u3), by omega, by omega⟩
  refine k_e e155 ?_
  rw [e1]
  by_cases c : 48 ≤ lkV g e F ∧ lkV g e F ≤ 57
  · rw [if_pos c]
    have fe : F < e := by
      apply Classical.byContradiction
      intro z
      unfold lkV at c
      rw [if_neg z] at c
      omega
    have kf : kindB (g F) = 2 := by
      unfold lkV at c
      rw [if_pos fe] at c
      exact kB_2.mpr c
    refine k_q (by decide) (k_v (k_v ?_))
    rw [e2, e3.2.2.2.2]
    refine k_i (fun z => ?_) (fun z => k_v ?_)
    · have := no (fun y => (tkK_2 y).2.2 z)
      rw [e2] at this
      exact this
    · have k2 : tkK g e F E = 2 := by rw [tkK_k fe z]; exact kf
      have := p162_49 (lo := lo) (hi := hi) (s0 := t) ht hW k2 e3.1 e3.2.1 zFu 0 t (by omega) (by omega) (by unfold zFu; omega) (by rw [e2]; omega) fr_refl
      refine k_m this (fun r u hu => ?_)
      generalize lxNum g e F E lo hi = x at hu
      rcases x with q | q
      · exact ⟨hu.1, hu.2.1, fr_trans (fr_mono (fun a k z => by omega) e4) hu.2.2.1, hu.2.2.2⟩
      · exact ⟨hu.1, hu.2.1, hu.2.2.1, fr_trans e4 hu.2.2.2⟩
  · rw [if_neg c]
    refine k_p rfl ?_
    have := no (fun y => c (by
      obtain ⟨y1, y2, _⟩ := tkK_2 y
      unfold lkV
      rw [if_pos y1]
      exact kB_2.mp y2))
    exact this
end
