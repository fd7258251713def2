/-! ===== what holds of a land that is told ===== -/
def dLn (D : dL) : Int := (D.2.1.length : Int) + (D.2.2.1.length : Int)
/-- behind a statement -/
def dStk (g : Int → Int) (e : Int) (D : dL) (F : Int) (q : dL × Int × Int) : Prop := dInv q.1 ∧ lxW g e q.2.1 q.2.2 ∧ F < q.2.1 ∧ dLn q.1 + F ≤ dLn D + q.2.1 ∧ q.1.2.2.2 = D.2.2.2
section
variable {g : Int → Int} {e F E : Int} {D : dL} {q : dL × Int × Int}
theorem dU_s {D : dL} {r k v k' : Int} : (dU D r k v).1 r k' = if k' = k then v else D.1 r k' := by
  unfold dU
  by_cases c : k' = k
  · rw [if_pos c]; exact if_pos ⟨rfl, c⟩
  · rw [if_neg c]; exact if_neg (fun z => c z.2)
/-- a road -/
theorem dInv_road {a b n : Int} (h : dInv D) (a0 : 0 ≤ a) (a1 : a < D.1 0 0) (b0 : 0 ≤ b) (b1 : b < D.1 0 0) (ab : a ≠ b) (n1 : 1 ≤ n) (n9 : n ≤ 9) (h3 : D.1 0 3 < 12) : dInv (dU (dU (dU D 2 (7 * a + b) n) 2 (7 * b + a) n) 0 3 (D.1 0 3 + 1)) := by
  obtain ⟨⟨i1, i2, i3, i4⟩, j1, j2, j3, j4, j5, j6⟩ := h
  have e0 : ∀ k, k ≠ 3 → (dU (dU (dU D 2 (7 * a + b) n) 2 (7 * b + a) n) 0 3 (D.1 0 3 + 1)).1 0 k = D.1 0 k := fun k hk => by rw [dU_k hk, dU_r (by decide), dU_r (by decide)]
  have e3 : (dU (dU (dU D 2 (7 * a + b) n) 2 (7 * b + a) n) 0 3 (D.1 0 3 + 1)).1 0 3 = D.1 0 3 + 1 := dU_e
  have er : ∀ r k, r ≠ 0 → r ≠ 2 → (dU (dU (dU D 2 (7 * a + b) n) 2 (7 * b + a) n) 0 3 (D.1 0 3 + 1)).1 r k = D.1 r k := fun r k h0 h2 => by rw [dU_r h0, dU_r h2, dU_r h2]
  have e2 : ∀ k, (dU (dU (dU D 2 (7 * a + b) n) 2 (7 * b + a) n) 0 3 (D.1 0 3 + 1)).1 2 k = if k = 7 * b + a then n else if k = 7 * a + b then n else D.1 2 k := fun k => by rw [dU_r (by decide), dU_s, dU_s]
  have em : (dU (dU (dU D 2 (7 * a + b) n) 2 (7 * b + a) n) 0 3 (D.1 0 3 + 1)).2 = D.2 := rfl
  generalize dU (dU (dU D 2 (7 * a + b) n) 2 (7 * b + a) n) 0 3 (D.1 0 3 + 1) = X at *
  unfold dInv
  rw [e0 0 (by decide), e0 1 (by decide), e0 2 (by decide), e3, em]
  refine ⟨⟨i1, i2, i3, by omega, by omega⟩, fun x y x0 x1 y0 y1 => ?_, fun p p0 p1 => ?_, fun w w0 w1 => ?_, fun v w v0 v1 w1 => ?_, ?_, j6⟩
  · have o1 := j1 x y x0 x1 y0 y1
    rw [e2, e2]
    by_cases c1 : x = b ∧ y = a
    · rw [if_pos (by omega), if_neg (by omega), if_pos (by omega)]
      exact ⟨by omega, by omega, rfl, fun _ => by omega⟩
    · by_cases c2 : x = a ∧ y = b
      · rw [if_neg (by omega), if_pos (by omega), if_pos (by omega)]
        exact ⟨by omega, by omega, rfl, fun _ => by omega⟩
      · rw [if_neg (by omega), if_neg (by omega), if_neg (by omega), if_neg (by omega)]
        exact o1
  · rw [er 3 _ (by decide) (by decide), er 3 _ (by decide) (by decide), er 3 _ (by decide) (by decide)]
    exact j2 p p0 p1
  · rw [er 4 _ (by decide) (by decide), er 4 _ (by decide) (by decide), er 4 _ (by decide) (by decide), er 5 _ (by decide) (by decide)]
    exact j3 w w0 w1
  · rw [er 5 _ (by decide) (by decide), er 5 _ (by decide) (by decide)]
    exact j4 v w v0 v1 w1
  · rw [er 6 _ (by decide) (by decide), er 6 _ (by decide) (by decide), er 6 _ (by decide) (by decide)]
    exact j5
theorem dInv_place {v : Int} (h : dInv D) (h0 : D.1 0 0 < 7) : dInv (dAdd D 0 v) := by
  obtain ⟨⟨i1, i2, i3, i4⟩, j1, j2, j3, j4, j5, j6⟩ := h
  unfold dAdd
  have e0 : ∀ k, k ≠ 0 → (dU (dU D 1 (8 * 0 + D.1 0 0) v) 0 0 (D.1 0 0 + 1)).1 0 k = D.1 0 k := fun k hk => by rw [dU_k hk, dU_r (by decide)]
  have e3 : (dU (dU D 1 (8 * 0 + D.1 0 0) v) 0 0 (D.1 0 0 + 1)).1 0 0 = D.1 0 0 + 1 := dU_e
  have er : ∀ r k, r ≠ 0 → r ≠ 1 → (dU (dU D 1 (8 * 0 + D.1 0 0) v) 0 0 (D.1 0 0 + 1)).1 r k = D.1 r k := fun r k h0 h2 => by rw [dU_r h0, dU_r h2]
  have em : (dU (dU D 1 (8 * 0 + D.1 0 0) v) 0 0 (D.1 0 0 + 1)).2 = D.2 := rfl
  generalize dU (dU D 1 (8 * 0 + D.1 0 0) v) 0 0 (D.1 0 0 + 1) = X at *
  unfold dInv
  rw [e3, e0 1 (by decide), e0 2 (by decide), e0 3 (by decide), em]
  refine ⟨⟨by omega, i2, i3, i4⟩, fun x y x0 x1 y0 y1 => ?_, fun p p0 p1 => ?_, fun w w0 w1 => ?_, fun v w v0 v1 w1 => ?_, ?_, j6⟩
  · have o1 := j1 x y x0 x1 y0 y1
    rw [er 2 _ (by decide) (by decide), er 2 _ (by decide) (by decide)]
    exact ⟨o1.1, o1.2.1, o1.2.2.1, fun z => by have := o1.2.2.2 z; omega⟩
  · rw [er 3 _ (by decide) (by decide), er 3 _ (by decide) (by decide), er 3 _ (by decide) (by decide)]
    have := j2 p p0 p1
    omega
  · rw [er 4 _ (by decide) (by decide), er 4 _ (by decide) (by decide), er 4 _ (by decide) (by decide), er 5 _ (by decide) (by decide)]
    have := j3 w w0 w1
    omega
  · rw [er 5 _ (by decide) (by decide), er 5 _ (by decide) (by decide)]
    exact j4 v w v0 v1 w1
  · rw [er 6 _ (by decide) (by decide), er 6 _ (by decide) (by decide), er 6 _ (by decide) (by decide)]
    exact j5
theorem dInv_pair {v sz to bb : Int} (h : dInv D) (h1 : D.1 0 1 < 8) (s1 : 1 ≤ sz) (s2 : sz ≤ 50) (t0 : 0 ≤ to) (t1 : to < D.1 0 0) (b0 : 0 ≤ bb) (b9 : bb ≤ 9) : dInv (dU (dU (dU (dAdd D 1 v) 3 (3 * D.1 0 1) sz) 3 (3 * D.1 0 1 + 1) to) 3 (3 * D.1 0 1 + 2) bb) := by
  obtain ⟨⟨i1, i2, i3, i4⟩, j1, j2, j3, j4, j5, j6⟩ := h
  unfold dAdd
  have e0 : ∀ k, k ≠ 1 → (dU (dU (dU (dU (dU D 1 (8 * 1 + D.1 0 1) v) 0 1 (D.1 0 1 + 1)) 3 (3 * D.1 0 1) sz) 3 (3 * D.1 0 1 + 1) to) 3 (3 * D.1 0 1 + 2) bb).1 0 k = D.1 0 k := fun k hk => by rw [dU_r (by decide), dU_r (by decide), dU_r (by decide), dU_k hk, dU_r (by decide)]
  have e1 : (dU (dU (dU (dU (dU D 1 (8 * 1 + D.1 0 1) v) 0 1 (D.1 0 1 + 1)) 3 (3 * D.1 0 1) sz) 3 (3 * D.1 0 1 + 1) to) 3 (3 * D.1 0 1 + 2) bb).1 0 1 = D.1 0 1 + 1 := by rw [dU_r (by decide), dU_r (by decide), dU_r (by decide), dU_e]
  have er : ∀ r k, r ≠ 0 → r ≠ 1 → r ≠ 3 → (dU (dU (dU (dU (dU D 1 (8 * 1 + D.1 0 1) v) 0 1 (D.1 0 1 + 1)) 3 (3 * D.1 0 1) sz) 3 (3 * D.1 0 1 + 1) to) 3 (3 * D.1 0 1 + 2) bb).1 r k = D.1 r k := fun r k h0 h2 h3 => by rw [dU_r h3, dU_r h3, dU_r h3, dU_r h0, dU_r h2]
  have e3 : ∀ k, (dU (dU (dU (dU (dU D 1 (8 * 1 + D.1 0 1) v) 0 1 (D.1 0 1 + 1)) 3 (3 * D.1 0 1) sz) 3 (3 * D.1 0 1 + 1) to) 3 (3 * D.1 0 1 + 2) bb).1 3 k = if k = 3 * D.1 0 1 + 2 then bb else if k = 3 * D.1 0 1 + 1 then to else if k = 3 * D.1 0 1 then sz else D.1 3 k := fun k => by rw [dU_s, dU_s, dU_s, dU_r (by decide), dU_r (by decide)]
  have em : (dU (dU (dU (dU (dU D 1 (8 * 1 + D.1 0 1) v) 0 1 (D.1 0 1 + 1)) 3 (3 * D.1 0 1) sz) 3 (3 * D.1 0 1 + 1) to) 3 (3 * D.1 0 1 + 2) bb).2 = D.2 := rfl
  generalize dU (dU (dU (dU (dU D 1 (8 * 1 + D.1 0 1) v) 0 1 (D.1 0 1 + 1)) 3 (3 * D.1 0 1) sz) 3 (3 * D.1 0 1 + 1) to) 3 (3 * D.1 0 1 + 2) bb = X at *
  unfold dInv
  rw [e1, e0 0 (by decide), e0 2 (by decide), e0 3 (by decide), em]
  refine ⟨⟨i1, by omega, i3, i4⟩, fun x y x0 x1 y0 y1 => ?_, fun p p0 p1 => ?_, fun w w0 w1 => ?_, fun v w v0 v1 w1 => ?_, ?_, j6⟩
  · rw [er 2 _ (by decide) (by decide) (by decide), er 2 _ (by decide) (by decide) (by decide)]
    exact j1 x y x0 x1 y0 y1
  · rw [e3, e3, e3]
    by_cases c : p = D.1 0 1
    · subst c
      rw [if_neg (by omega), if_neg (by omega), if_pos rfl, if_neg (by omega), if_pos rfl, if_pos rfl]
      omega
    · rw [if_neg (by omega), if_neg (by omega), if_neg (by omega), if_neg (by omega), if_neg (by omega), if_neg (by omega), if_neg (by omega), if_neg (by omega), if_neg (by omega)]
      exact j2 p p0 (by omega)
  · rw [er 4 _ (by decide) (by decide) (by decide), er 4 _ (by decide) (by decide) (by decide), er 4 _ (by decide) (by decide) (by decide), er 5 _ (by decide) (by decide) (by decide)]
    have := j3 w w0 w1
    omega
  · rw [er 5 _ (by decide) (by decide) (by decide), er 5 _ (by decide) (by decide) (by decide)]
    exact j4 v w v0 v1 w1
  · rw [er 6 _ (by decide) (by decide) (by decide), er 6 _ (by decide) (by decide) (by decide), er 6 _ (by decide) (by decide) (by decide)]
    exact j5
theorem dInv_walk {v sz wl to pr : Int} (h : dInv D) (h2 : D.1 0 2 < 6) (s1 : 1 ≤ sz) (s2 : sz ≤ 50) (l0 : 0 ≤ wl) (l9 : wl ≤ 99) (t0 : 0 ≤ to) (t1 : to < D.1 0 0) (p0 : 0 ≤ pr) (p1 : pr < D.1 0 1) (hn : ∀ w, 0 ≤ w → w < D.1 0 2 → D.1 5 w ≠ pr) : dInv (dU (dU (dU (dU (dAdd D 2 v) 4 (3 * D.1 0 2) sz) 4 (3 * D.1 0 2 + 1) wl) 4 (3 * D.1 0 2 + 2) to) 5 (D.1 0 2) pr) := by
  obtain ⟨⟨i1, i2, i3, i4⟩, j1, j2, j3, j4, j5, j6⟩ := h
  unfold dAdd
  generalize hX : dU (dU (dU (dU (dU (dU D 1 (8 * 2 + D.1 0 2) v) 0 2 (D.1 0 2 + 1)) 4 (3 * D.1 0 2) sz) 4 (3 * D.1 0 2 + 1) wl) 4 (3 * D.1 0 2 + 2) to) 5 (D.1 0 2) pr = X
  have e0 : ∀ k, k ≠ 2 → X.1 0 k = D.1 0 k := fun k hk => by rw [← hX, dU_r (by decide), dU_r (by decide), dU_r (by decide), dU_r (by decide), dU_k hk, dU_r (by decide)]
  have e1 : X.1 0 2 = D.1 0 2 + 1 := by rw [← hX, dU_r (by decide), dU_r (by decide), dU_r (by decide), dU_r (by decide), dU_e]
  have er : ∀ r k, r ≠ 0 → r ≠ 1 → r ≠ 4 → r ≠ 5 → X.1 r k = D.1 r k := fun r k h0 h1 h4 h5 => by rw [← hX, dU_r h5, dU_r h4, dU_r h4, dU_r h4, dU_r h0, dU_r h1]
  have e4 : ∀ k, X.1 4 k = if k = 3 * D.1 0 2 + 2 then to else if k = 3 * D.1 0 2 + 1 then wl else if k = 3 * D.1 0 2 then sz else D.1 4 k := fun k => by rw [← hX, dU_r (by decide), dU_s, dU_s, dU_s, dU_r (by decide), dU_r (by decide)]
  have e5 : ∀ k, X.1 5 k = if k = D.1 0 2 then pr else D.1 5 k := fun k => by rw [← hX, dU_s, dU_r (by decide), dU_r (by decide), dU_r (by decide), dU_r (by decide), dU_r (by decide)]
  have em : X.2 = D.2 := by rw [← hX]; rfl
  unfold dInv
  rw [e1, e0 0 (by decide), e0 1 (by decide), e0 3 (by decide), em]
  refine ⟨⟨i1, i2, by omega, i4⟩, fun x y x0 x1 y0 y1 => ?_, fun p p0 p1 => ?_, fun w w0 w1 => ?_, fun v w v0 v1 w1 => ?_, ?_, j6⟩
  · rw [er 2 _ (by decide) (by decide) (by decide) (by decide), er 2 _ (by decide) (by decide) (by decide) (by decide)]
    exact j1 x y x0 x1 y0 y1
  · rw [er 3 _ (by decide) (by decide) (by decide) (by decide), er 3 _ (by decide) (by decide) (by decide) (by decide), er 3 _ (by decide) (by decide) (by decide) (by decide)]
    exact j2 p p0 p1
  · rw [e4, e4, e4, e5]
    by_cases c : w = D.1 0 2
    · subst c
      rw [if_neg (by omega), if_neg (by omega), if_pos rfl, if_neg (by omega), if_pos rfl, if_pos rfl, if_pos rfl]
      omega
    · rw [if_neg (by omega), if_neg (by omega), if_neg (by omega), if_neg (by omega), if_neg (by omega), if_neg (by omega), if_neg (by omega), if_neg (by omega), if_neg (by omega), if_neg c]
      exact j3 w w0 (by omega)
  · rw [e5, e5, if_neg (by omega)]
    by_cases c : w = D.1 0 2
    · rw [if_pos c]
      exact hn v v0 (by omega)
    · rw [if_neg c]
      exact j4 v w v0 v1 (by omega)
  · rw [er 6 _ (by decide) (by decide) (by decide) (by decide), er 6 _ (by decide) (by decide) (by decide) (by decide), er 6 _ (by decide) (by decide) (by decide) (by decide)]
    exact j5
theorem dInv_set {k v : Int} (h : dInv D) (hk : (k = 0 ∧ 0 ≤ v ∧ v ≤ 2) ∨ (k = 1 ∧ 1 ≤ v ∧ v ≤ 9) ∨ (k = 2 ∧ 0 ≤ v ∧ v ≤ 100)) : dInv (dU D 6 k v) := by
  obtain ⟨⟨i1, i2, i3, i4⟩, j1, j2, j3, j4, j5, j6⟩ := h
  have er : ∀ r q, r ≠ 6 → (dU D 6 k v).1 r q = D.1 r q := fun r q h => dU_r h
  have e6 : ∀ q, (dU D 6 k v).1 6 q = if q = k then v else D.1 6 q := fun q => dU_s
  have em : (dU D 6 k v).2 = D.2 := rfl
  generalize dU D 6 k v = X at *
  unfold dInv
  rw [er 0 _ (by decide), er 0 _ (by decide), er 0 _ (by decide), er 0 _ (by decide), em]
  refine ⟨⟨i1, i2, i3, i4⟩, fun x y x0 x1 y0 y1 => ?_, fun p p0 p1 => ?_, fun w w0 w1 => ?_, fun v w v0 v1 w1 => ?_, ?_, j6⟩
  · rw [er 2 _ (by decide), er 2 _ (by decide)]
    exact j1 x y x0 x1 y0 y1
  · rw [er 3 _ (by decide), er 3 _ (by decide), er 3 _ (by decide)]
    exact j2 p p0 p1
  · rw [er 4 _ (by decide), er 4 _ (by decide), er 4 _ (by decide), er 5 _ (by decide)]
    exact j3 w w0 w1
  · rw [er 5 _ (by decide), er 5 _ (by decide)]
    exact j4 v w v0 v1 w1
  · rw [e6, e6, e6]
    rcases hk with ⟨rfl, a, b⟩ | ⟨rfl, a, b⟩ | ⟨rfl, a, b⟩
    · rw [if_pos rfl, if_neg (by decide), if_neg (by decide)]
      exact ⟨⟨a, b⟩, j5.2⟩
    · rw [if_neg (by decide), if_pos rfl, if_neg (by decide)]
      exact ⟨j5.1, ⟨a, b⟩, j5.2.2⟩
    · rw [if_neg (by decide), if_neg (by decide), if_pos rfl]
      exact ⟨j5.1, j5.2.1, a, b⟩
theorem dStm_in (hI : dInv D) (hW : lxW g e F E) (h : dStm g e D F E = .inr q) : dStk g e D F q := by
  obtain ⟨⟨i1, i2, i3, i4⟩, j1, j2, j3, j4, j5, j6⟩ := id hI
  unfold dStm at h
  by_cases c0 : isW g e F E (sL 0) = true
  · rw [if_pos c0] at h
    have gx := nx_any hW (isW_F c0)
    by_cases d : D.1 0 0 < 7
    · rw [if_pos d] at h
      unfold dPlace at h
      obtain ⟨y, y1, _, h⟩ := tNew_r h
      have yn := lxNm_in gx.1 y1
      cases h
      exact ⟨dInv_place hI d, yn.1, by show F < y.2.1; omega, by show dLn D + F ≤ dLn D + y.2.1; omega, rfl⟩
    · rw [if_neg d] at h; exact absurd h (by simp)
  rw [if_neg c0] at h
  by_cases c1 : isW g e F E (sL 3) = true
  · rw [if_pos c1] at h
    have gx := nx_any hW (isW_F c1)
    by_cases d : D.1 0 3 < 12
    · rw [if_pos d] at h
      unfold dRoad at h
      obtain ⟨y, y1, ya, h⟩ := tOne_r h
      have yn := lxNm_in gx.1 y1
      obtain ⟨z, z1, za, h⟩ := tOne_r h
      have zn := lxNm_in yn.1 z1
      by_cases x : dF D 0 y.1 = dF D 0 z.1 ∨ 0 < D.1 2 (7 * dF D 0 y.1 + dF D 0 z.1)
      · rw [if_pos x] at h; exact absurd h (by simp)
      · rw [if_neg x] at h
        obtain ⟨w1, h⟩ := tW_r h
        have gw := nx_any zn.1 (isW_F w1)
        obtain ⟨v, v1, h⟩ := tN_r h
        have vi := lxNum_in gw.1 v1
        have vw := lxNum_W gw.1 v1
        have fy := (dF_in (D := D) 0 y.1 i1.1).resolve_left ya
        have fz := (dF_in (D := D) 0 z.1 i1.1).resolve_left za
        cases h
        exact ⟨dInv_road hI fy.1 fy.2 fz.1 fz.2 (fun y => x (Or.inl y)) vi.1 vi.2.1 d, vw.1, by show F < v.2.1; omega, by show dLn D + F ≤ dLn D + v.2.1; omega, rfl⟩
    · rw [if_neg d] at h; exact absurd h (by simp)
  rw [if_neg c1] at h
  by_cases c2 : isW g e F E (sL 5) = true
  · rw [if_pos c2] at h
    have gx := nx_any hW (isW_F c2)
    by_cases d : D.1 0 1 < 8
    · rw [if_pos d] at h
      unfold dPair at h
      obtain ⟨y, y1, _, h⟩ := tNew_r h
      have yn := lxNm_in gx.1 y1
      obtain ⟨w1, h⟩ := tW_r h
      have gw := nx_any yn.1 (isW_F w1)
      obtain ⟨v, v1, h⟩ := tN_r h
      have vi := lxNum_in gw.1 v1
      have vw := lxNum_W gw.1 v1
      obtain ⟨w2, h⟩ := tW_r h
      have gw2 := nx_any vw.1 (isW_F w2)
      obtain ⟨z, z1, za, h⟩ := tOne_r h
      have zn := lxNm_in gw2.1 z1
      obtain ⟨w3, h⟩ := tW_r h
      have gw3 := nx_any zn.1 (isW_F w3)
      obtain ⟨u, u1, h⟩ := tN_r h
      have ui := lxNum_in gw3.1 u1
      have uw := lxNum_W gw3.1 u1
      have fz := (dF_in (D := D) 0 z.1 i1.1).resolve_left za
      cases h
      exact ⟨dInv_pair hI d vi.1 vi.2.1 fz.1 fz.2 ui.1 ui.2.1, uw.1, by show F < u.2.1; omega, by show dLn D + F ≤ dLn D + u.2.1; omega, rfl⟩
    · rw [if_neg d] at h; exact absurd h (by simp)
  rw [if_neg c2] at h
  by_cases c3 : isW g e F E (sL 9) = true
  · rw [if_pos c3] at h
    have gx := nx_any hW (isW_F c3)
    by_cases d : D.1 0 2 < 6
    · rw [if_pos d] at h
      unfold dWalk at h
      obtain ⟨y, y1, _, h⟩ := tNew_r h
      have yn := lxNm_in gx.1 y1
      obtain ⟨w1, h⟩ := tW_r h
      have gw := nx_any yn.1 (isW_F w1)
      obtain ⟨v, v1, h⟩ := tN_r h
      have vi := lxNum_in gw.1 v1
      have vw := lxNum_W gw.1 v1
      obtain ⟨w2, h⟩ := tW_r h
      have gw2 := nx_any vw.1 (isW_F w2)
      obtain ⟨u, u1, h⟩ := tN_r h
      have ui := lxNum_in gw2.1 u1
      have uw := lxNum_W gw2.1 u1
      obtain ⟨w3, h⟩ := tW_r h
      have gw3 := nx_any uw.1 (isW_F w3)
      obtain ⟨z, z1, za, h⟩ := tOne_r h
      have zn := lxNm_in gw3.1 z1
      obtain ⟨w4, h⟩ := tW_r h
      have gw4 := nx_any zn.1 (isW_F w4)
      obtain ⟨p, p1, pa, h⟩ := tOne_r h
      have pn := lxNm_in gw4.1 p1
      have fz := (dF_in (D := D) 0 z.1 i1.1).resolve_left za
      have fp := (dF_in (D := D) 1 p.1 i2.1).resolve_left pa
      by_cases x : fnd (fun w => D.1 5 w) (dF D 1 p.1) (D.1 0 2).toNat 0 ≠ -1
      · rw [if_pos x] at h; exact absurd h (by simp)
      · rw [if_neg x] at h
        have x' : fnd (fun w => D.1 5 w) (dF D 1 p.1) (D.1 0 2).toNat 0 = -1 := Classical.byContradiction x
        have hn := fnd_none _ _ (by omega) x'
        cases h
        exact ⟨dInv_walk hI d vi.1 vi.2.1 ui.1 ui.2.1 fz.1 fz.2 fp.1 fp.2 (fun w w0 w1 => hn w w0 (by omega)), pn.1, by show F < p.2.1; omega, by show dLn D + F ≤ dLn D + p.2.1; omega, rfl⟩
    · rw [if_neg d] at h; exact absurd h (by simp)
  rw [if_neg c3] at h
  by_cases c4 : isW g e F E (sL 13) = true
  · rw [if_pos c4] at h
    have gx := nx_any hW (isW_F c4)
    by_cases d : D.2.1 = []
    · rw [if_pos d] at h
      obtain ⟨y, y1, h⟩ := tSum_r h
      have hl := qM_len 40 _ _ _ _ _ y1 gx.1
      have hwf := qM_wf 40 3 0 _ _ _ (by decide) (by decide) (by decide) (by decide) y1 gx.1 0 (by decide) (by decide)
      have l2 := hl.2.1
      cases h
      refine ⟨⟨⟨i1, i2, i3, i4⟩, j1, j2, j3, j4, j5, Or.inr hwf, j6.2⟩, hl.1, by show F < y.1; omega, ?_, rfl⟩
      show (y.2.2.length : Int) + (D.2.2.1.length : Int) + F ≤ (D.2.1.length : Int) + (D.2.2.1.length : Int) + y.1
      omega
    · rw [if_neg d] at h; exact absurd h (by simp)
  rw [if_neg c4] at h
  by_cases c5 : isW g e F E (sL 30) = true
  · rw [if_pos c5] at h
    have gx := nx_any hW (isW_F c5)
    by_cases d : D.2.2.1 = []
    · rw [if_pos d] at h
      obtain ⟨y, y1, h⟩ := tSum_r h
      have hl := qM_len 40 _ _ _ _ _ y1 gx.1
      have hwf := qM_wf 40 3 0 _ _ _ (by decide) (by decide) (by decide) (by decide) y1 gx.1 0 (by decide) (by decide)
      have l2 := hl.2.1
      cases h
      refine ⟨⟨⟨i1, i2, i3, i4⟩, j1, j2, j3, j4, j5, j6.1, Or.inr hwf⟩, hl.1, by show F < y.1; omega, ?_, rfl⟩
      show (D.2.1.length : Int) + (y.2.2.length : Int) + F ≤ (D.2.1.length : Int) + (D.2.2.1.length : Int) + y.1
      omega
    · rw [if_neg d] at h; exact absurd h (by simp)
  rw [if_neg c5] at h
  have set : ∀ (lo hi k : Int), F < e → ((k = 0 ∧ 0 ≤ lo ∧ hi ≤ 2) ∨ (k = 1 ∧ 1 ≤ lo ∧ hi ≤ 9) ∨ (k = 2 ∧ 0 ≤ lo ∧ hi ≤ 100)) → tN g e lo hi (nxF g e F) (nxE g e F E) (fun v F2 E2 => .inr (dU D 6 k v, F2, E2)) = .inr q → dStk g e D F q := by
    intro lo hi k hF hk h
    have gx := nx_any hW hF
    obtain ⟨v, v1, h⟩ := tN_r h
    have vi := lxNum_in gx.1 v1
    have vw := lxNum_W gx.1 v1
    cases h
    exact ⟨dInv_set hI (by omega), vw.1, by show F < v.2.1; omega, by show dLn D + F ≤ dLn D + v.2.1; omega, rfl⟩
  by_cases c6 : isW g e F E (sL 31) = true
  · rw [if_pos c6] at h
    exact set 0 2 0 (isW_F c6) (by omega) h
  rw [if_neg c6] at h
  by_cases c7 : isW g e F E (sL 32) = true
  · rw [if_pos c7] at h
    exact set 1 9 1 (isW_F c7) (by omega) h
  rw [if_neg c7] at h
  by_cases c8 : isW g e F E (sL 33) = true
  · rw [if_pos c8] at h
    exact set 0 100 2 (isW_F c8) (by omega) h
  rw [if_neg c8] at h
  exact absurd h (by simp)
end
