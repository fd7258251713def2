/-! ===== a land, purely ===== -/
/-- codes of a SUM of a land's, from d values to d' -/
def wfL : List Int → Int → Int → Prop
  | [], d, d' => d = d'
  | c :: l, d, d' => ((((1000 ≤ c ∧ c ≤ 10999) ∨ (40 ≤ c ∧ c ≤ 44)) ∧ 0 ≤ d ∧ d < 60) ∧ wfL l (d + 1) d') ∨ ((1 ≤ c ∧ c ≤ 6 ∧ 2 ≤ d ∧ d ≤ 60) ∧ wfL l (d - 1) d')
theorem wfL_app : ∀ {l l' : List Int} {d d1 d2 : Int}, wfL l d d1 → wfL l' d1 d2 → wfL (l ++ l') d d2
  | [], _, _, _, _, h, h' => by have h : _ = _ := h; rw [List.nil_append, h]; exact h'
  | _ :: l, _, _, _, _, h, h' => by
    rcases h with ⟨a, b⟩ | ⟨a, b⟩
    · exact Or.inl ⟨a, wfL_app (l := l) b h'⟩
    · exact Or.inr ⟨a, wfL_app (l := l) b h'⟩
theorem wfL_op {l l' : List Int} {c d : Int} (h : wfL l d (d + 1)) (h' : wfL l' (d + 1) (d + 1 + 1)) (c1 : 1 ≤ c) (c6 : c ≤ 6) (d0 : 0 ≤ d) (d1 : d + 2 ≤ 60) : wfL (l ++ (l' ++ [c])) d (d + 1) := by
  refine wfL_app h (wfL_app h' (Or.inr ⟨⟨c1, c6, by omega, by omega⟩, ?_⟩))
  show d + 1 + 1 - 1 = d + 1
  omega
section
variable {g : Int → Int} {e : Int}
theorem qL_wf {rd : Int → Int → qR} {lv D d : Int} (d0 : 0 ≤ d) (hD : d + 1 + D ≤ 60) (D1 : 1 ≤ D) (v0 : lv = 3 ∨ lv = 4) (hr : ∀ F E q, rd F E = .inr q → lxW g e F E → ∀ d, 0 ≤ d → d + D ≤ 60 → wfL q.2.2 d (d + 1)) (hln : ∀ F E q, rd F E = .inr q → lxW g e F E → qLen g e F E q) : ∀ (n : Nat) (F E : Int) (l : List Int) (q : Int × Int × List Int), lxW g e F E → wfL l d (d + 1) → qL g e rd lv n F E l = .inr q → wfL q.2.2 d (d + 1) := by
  intro n
  induction n with
  | zero =>
    intro F E l q hW hl h
    unfold qL at h
    cases h
    exact hl
  | succ n ih =>
    intro F E l q hW hl h
    unfold qL at h
    by_cases z : qJ g e lv F E = -1
    · rw [if_pos z] at h
      cases h
      exact hl
    · rw [if_neg z] at h
      obtain ⟨y, y1, y2⟩ := qB_r h
      have hx := nx_any hW (qJ_F z)
      have hy := hln _ _ _ y1 hx.1
      have hj : 1 ≤ qJ g e lv F E ∧ qJ g e lv F E ≤ 6 := by
        rcases v0 with rfl | rfl
        · rw [k_add (E := E) (qJ3 z)]; split <;> omega
        · rw [k_mul (E := E) (qJ4 z)]; split <;> omega
      exact ih y.1 y.2.1 _ q hy.1 (wfL_op hl (hr _ _ _ y1 hx.1 (d + 1) (by omega) hD) hj.1 hj.2 d0 (by omega)) y2
theorem qM_wf : ∀ (n : Nat) (lv o F E : Int) (q : Int × Int × List Int), 3 ≤ lv → lv ≤ 5 → 0 ≤ o → o ≤ 6 → qM g e false n lv o F E = .inr q → lxW g e F E → ∀ d, 0 ≤ d → d + (6 * (6 - o) + (6 - lv)) ≤ 60 → wfL q.2.2 d (d + 1) := by
  intro n
  induction n with
  | zero => intro lv o F E q _ _ _ _ h; exact absurd h (by unfold qM; simp)
  | succ n ih =>
    intro lv o F E q v3 v5 o0 o6 h hW d d0 hD
    replace h : qT g e false (qM g e false n) lv o F E = .inr q := h
    unfold qT at h
    rw [if_neg (by omega)] at h
    by_cases c5 : lv < 5
    · rw [if_pos c5] at h
      obtain ⟨y, y1, h⟩ := qB_r h
      have hy := qM_len n _ _ _ _ _ y1 hW
      exact qL_wf (D := 6 * (6 - o) + (6 - (lv + 1))) d0 (by omega) (by omega) (by omega) (fun F E q h hW d d0 hD => ih (lv + 1) o F E q (by omega) (by omega) o0 o6 h hW d d0 hD) (fun F E q h hW => qM_len n _ _ _ _ _ h hW) 1600 _ _ _ q hy.1 (ih (lv + 1) o _ _ _ (by omega) (by omega) o0 o6 y1 hW d d0 (by omega)) h
    rw [if_neg c5] at h
    have e5 : lv = 5 := by omega
    subst e5
    have choice : ∀ act, F < e → 1 ≤ act → act ≤ 6 → qC g e (qM g e false n) act o F E = .inr q → wfL q.2.2 d (d + 1) := by
      intro act hF a1 a6 h
      have hx := nx_any hW hF
      unfold qC at h
      by_cases z : nxF g e F < e ∧ g (nxF g e F) = 40
      · rw [if_pos z] at h
        obtain ⟨oo, h⟩ := qO_r h
        have hx2 := nx_any hx.1 z.1
        obtain ⟨y, y1, h⟩ := qB_r h
        have hy := qM_len n _ _ _ _ _ y1 hx2.1
        obtain ⟨z3, h⟩ := qS_r h
        have hx3 := nx_any hy.1 z3.1
        obtain ⟨y', y1', h⟩ := qB_r h
        obtain ⟨z4, h⟩ := qS_r h
        have s1 := ih 3 (o + 1) _ _ _ (by omega) (by omega) (by omega) (by omega) y1 hx2.1 d d0 (by omega)
        have s2 := ih 3 (o + 1) _ _ _ (by omega) (by omega) (by omega) (by omega) y1' hx3.1 (d + 1) (by omega) (by omega)
        cases h
        exact wfL_op s1 s2 a1 a6 d0 (by omega)
      · rw [if_neg z] at h; exact absurd h (by simp)
    unfold qP at h
    by_cases d1 : tkK g e F E = 2
    · rw [if_pos d1] at h
      generalize hz : lxNum g e F E 0 9999 = z at h
      rcases z with z | z
      · exact absurd h (by unfold qN; simp)
      · have hi := lxNum_in hW hz
        cases h
        exact Or.inl ⟨⟨Or.inl ⟨by omega, by omega⟩, d0, by omega⟩, rfl⟩
    rw [if_neg d1] at h
    by_cases d2 : F < e ∧ g F = 40
    · rw [if_pos d2] at h
      have hx := nx_any hW d2.1
      obtain ⟨oo, h⟩ := qO_r h
      obtain ⟨y, y1, h⟩ := qB_r h
      obtain ⟨_, h⟩ := qS_r h
      have := ih 3 (o + 1) _ _ _ (by omega) (by omega) (by omega) (by omega) y1 hx.1 d d0 (by omega)
      cases h
      exact this
    rw [if_neg d2] at h
    by_cases d3 : isW g e F E (sL 16) = true
    · rw [if_pos d3] at h; exact choice 5 (isW_F d3) (by omega) (by omega) h
    rw [if_neg d3] at h
    by_cases d4 : isW g e F E (sL 17) = true
    · rw [if_pos d4] at h; exact choice 6 (isW_F d4) (by omega) (by omega) h
    rw [if_neg d4, if_neg (fun z => absurd z.1 (by decide))] at h
    by_cases d6 : qF g e false F E = -1
    · rw [if_pos d6] at h; exact absurd h (by simp)
    · rw [if_neg d6] at h
      obtain ⟨q1, q2, _, q4⟩ := (qF_in (g := g) (e := e) (F := F) (E := E) (ask := false)).resolve_left d6
      have := q4 rfl
      cases h
      exact Or.inl ⟨⟨Or.inr ⟨by omega, by omega⟩, d0, by omega⟩, rfl⟩
end
/-- counts, names, roads, pairs, walkers, worn, settings; the codes of pull, of strive; statements -/
abbrev dL : Type := (Int → Int → Int) × List Int × List Int × Int
abbrev dR : Type := (Int × Int) ⊕ (dL × Int × Int)
def dU (D : dL) (r k v : Int) : dL := (fun r' k' => if r' = r ∧ k' = k then v else D.1 r' k', D.2)
def dF (D : dL) (d v : Int) : Int := fnd (fun i => D.1 1 (8 * d + i)) v (D.1 0 d).toNat 0
/-- a name more of a kind -/
def dAdd (D : dL) (d v : Int) : dL := dU (dU D 1 (8 * d + D.1 0 d) v) 0 d (D.1 0 d + 1)
section
variable (g : Int → Int) (e : Int)
def tW (l : List Int) (F E : Int) (k : Int → Int → dR) : dR := if isW g e F E l = true then k (nxF g e F) (nxE g e F E) else .inl (1, F)
def tN (lo hi F E : Int) (k : Int → Int → Int → dR) : dR := match lxNum g e F E lo hi with
  | .inl q => .inl q
  | .inr q => k q.1 q.2.1 q.2.2
def tNew (D : dL) (F E : Int) (k : Int → Int → Int → dR) : dR := match lxNm g e F E with
  | .inl q => .inl q
  | .inr q => if dF D 0 q.1 ≠ -1 ∨ dF D 1 q.1 ≠ -1 ∨ dF D 2 q.1 ≠ -1 then .inl (3, F) else k q.1 q.2.1 q.2.2
def tOne (D : dL) (d F E : Int) (k : Int → Int → Int → dR) : dR := match lxNm g e F E with
  | .inl q => .inl q
  | .inr q => if dF D d q.1 = -1 then .inl (3, F) else k (dF D d q.1) q.2.1 q.2.2
def tSum (F E : Int) (k : List Int → Int → Int → dR) : dR := match qM g e false 40 3 0 F E with
  | .inl q => .inl q
  | .inr q => k q.2.2 q.1 q.2.1
def dPlace (D : dL) (F E : Int) : dR := tNew g e D F E fun v F2 E2 => .inr (dAdd D 0 v, F2, E2)
def dRoad (D : dL) (F E : Int) : dR := tOne g e D 0 F E fun a F2 E2 => tOne g e D 0 F2 E2 fun b F3 E3 => if a = b ∨ 0 < D.1 2 (7 * a + b) then .inl (3, F2) else tW g e (sL 4) F3 E3 fun F4 E4 => tN g e 1 9 F4 E4 fun n F5 E5 => .inr (dU (dU (dU D 2 (7 * a + b) n) 2 (7 * b + a) n) 0 3 (D.1 0 3 + 1), F5, E5)
def dPair (D : dL) (F E : Int) : dR := tNew g e D F E fun v F2 E2 => tW g e (sL 6) F2 E2 fun F3 E3 => tN g e 1 50 F3 E3 fun sz F4 E4 => tW g e (sL 7) F4 E4 fun F5 E5 => tOne g e D 0 F5 E5 fun to F6 E6 => tW g e (sL 8) F6 E6 fun F7 E7 => tN g e 0 9 F7 E7 fun bb F8 E8 => .inr (dU (dU (dU (dAdd D 1 v) 3 (3 * D.1 0 1) sz) 3 (3 * D.1 0 1 + 1) to) 3 (3 * D.1 0 1 + 2) bb, F8, E8)
def dWalk (D : dL) (F E : Int) : dR := tNew g e D F E fun v F2 E2 => tW g e (sL 6) F2 E2 fun F3 E3 => tN g e 1 50 F3 E3 fun sz F4 E4 => tW g e (sL 10) F4 E4 fun F5 E5 => tN g e 0 99 F5 E5 fun wl F6 E6 => tW g e (sL 11) F6 E6 fun F7 E7 => tOne g e D 0 F7 E7 fun to F8 E8 => tW g e (sL 12) F8 E8 fun F9 E9 => tOne g e D 1 F9 E9 fun pr F10 E10 => if fnd (fun w => D.1 5 w) pr (D.1 0 2).toNat 0 ≠ -1 then .inl (3, F9) else .inr (dU (dU (dU (dU (dAdd D 2 v) 4 (3 * D.1 0 2) sz) 4 (3 * D.1 0 2 + 1) wl) 4 (3 * D.1 0 2 + 2) to) 5 (D.1 0 2) pr, F10, E10)
/-- a STATEMENT, its first word at F -/
def dStm (D : dL) (F E : Int) : dR :=
  if isW g e F E (sL 0) = true then (if D.1 0 0 < 7 then dPlace g e D (nxF g e F) (nxE g e F E) else .inl (5, F))
  else if isW g e F E (sL 3) = true then (if D.1 0 3 < 12 then dRoad g e D (nxF g e F) (nxE g e F E) else .inl (5, F))
  else if isW g e F E (sL 5) = true then (if D.1 0 1 < 8 then dPair g e D (nxF g e F) (nxE g e F E) else .inl (5, F))
  else if isW g e F E (sL 9) = true then (if D.1 0 2 < 6 then dWalk g e D (nxF g e F) (nxE g e F E) else .inl (5, F))
  else if isW g e F E (sL 13) = true then (if D.2.1 = [] then tSum g e (nxF g e F) (nxE g e F E) fun l F2 E2 => .inr ((D.1, l, D.2.2), F2, E2) else .inl (5, F))
  else if isW g e F E (sL 30) = true then (if D.2.2.1 = [] then tSum g e (nxF g e F) (nxE g e F E) fun l F2 E2 => .inr ((D.1, D.2.1, l, D.2.2.2), F2, E2) else .inl (5, F))
  else if isW g e F E (sL 31) = true then tN g e 0 2 (nxF g e F) (nxE g e F E) fun v F2 E2 => .inr (dU D 6 0 v, F2, E2)
  else if isW g e F E (sL 32) = true then tN g e 1 9 (nxF g e F) (nxE g e F E) fun v F2 E2 => .inr (dU D 6 1 v, F2, E2)
  else if isW g e F E (sL 33) = true then tN g e 0 100 (nxF g e F) (nxE g e F E) fun v F2 E2 => .inr (dU D 6 2 v, F2, E2)
  else .inl (1, F)
def dLoop : Nat → dL → Int → Int → dR
  | 0, D, F, E => if F < e then .inl (5, F) else .inr (D, F, E)
  | n + 1, D, F, E => if F < e then (match dStm g e D F E with
      | .inl q => .inl q
      | .inr q => if q.2.1 < e ∧ g q.2.1 = 59 then dLoop n (q.1.1, q.1.2.1, q.1.2.2.1, q.1.2.2.2 + 1) (nxF g e q.2.1) (nxE g e q.2.1 q.2.2) else .inl (1, q.2.1))
    else .inr (D, F, E)
end
/-- nothing told -/
def dNil : dL := (fun r k => if r = 6 ∧ k = 1 then 3 else 0, [], [], 0)
/-- what holds of it -/
def dInv (D : dL) : Prop := ((0 ≤ D.1 0 0 ∧ D.1 0 0 ≤ 7) ∧ (0 ≤ D.1 0 1 ∧ D.1 0 1 ≤ 8) ∧ (0 ≤ D.1 0 2 ∧ D.1 0 2 ≤ 6) ∧ 0 ≤ D.1 0 3 ∧ D.1 0 3 ≤ 12) ∧
  (∀ a b, 0 ≤ a → a < 7 → 0 ≤ b → b < 7 → 0 ≤ D.1 2 (7 * a + b) ∧ D.1 2 (7 * a + b) ≤ 9 ∧ D.1 2 (7 * a + b) = D.1 2 (7 * b + a) ∧ (0 < D.1 2 (7 * a + b) → a ≠ b ∧ a < D.1 0 0 ∧ b < D.1 0 0)) ∧
  (∀ p, 0 ≤ p → p < D.1 0 1 → 1 ≤ D.1 3 (3 * p) ∧ D.1 3 (3 * p) ≤ 50 ∧ 0 ≤ D.1 3 (3 * p + 1) ∧ D.1 3 (3 * p + 1) < D.1 0 0 ∧ 0 ≤ D.1 3 (3 * p + 2) ∧ D.1 3 (3 * p + 2) ≤ 9) ∧
  (∀ w, 0 ≤ w → w < D.1 0 2 → 1 ≤ D.1 4 (3 * w) ∧ D.1 4 (3 * w) ≤ 50 ∧ 0 ≤ D.1 4 (3 * w + 1) ∧ D.1 4 (3 * w + 1) ≤ 99 ∧ 0 ≤ D.1 4 (3 * w + 2) ∧ D.1 4 (3 * w + 2) < D.1 0 0 ∧ 0 ≤ D.1 5 w ∧ D.1 5 w < D.1 0 1) ∧
  (∀ v w, 0 ≤ v → v < w → w < D.1 0 2 → D.1 5 v ≠ D.1 5 w) ∧
  ((0 ≤ D.1 6 0 ∧ D.1 6 0 ≤ 2) ∧ (1 ≤ D.1 6 1 ∧ D.1 6 1 ≤ 9) ∧ 0 ≤ D.1 6 2 ∧ D.1 6 2 ≤ 100) ∧
  ((D.2.1 = [] ∨ wfL D.2.1 0 1) ∧ (D.2.2.1 = [] ∨ wfL D.2.2.1 0 1))
theorem dU_e {D : dL} {r k v : Int} : (dU D r k v).1 r k = v := by unfold dU; exact if_pos ⟨rfl, rfl⟩
theorem dU_r {D : dL} {r k v r' k' : Int} (h : r' ≠ r) : (dU D r k v).1 r' k' = D.1 r' k' := by unfold dU; exact if_neg (fun z => h z.1)
theorem dU_k {D : dL} {r k v r' k' : Int} (h : k' ≠ k) : (dU D r k v).1 r' k' = D.1 r' k' := by unfold dU; exact if_neg (fun z => h z.2)
theorem dU_2 {D : dL} {r k v : Int} : (dU D r k v).2 = D.2 := rfl
section
variable {g : Int → Int} {e F E : Int} {D : dL} {q : dL × Int × Int}
theorem tW_r {l : List Int} {k : Int → Int → dR} (h : tW g e l F E k = .inr q) : isW g e F E l = true ∧ k (nxF g e F) (nxE g e F E) = .inr q := by
  unfold tW at h
  by_cases z : isW g e F E l = true
  · rw [if_pos z] at h; exact ⟨z, h⟩
  · rw [if_neg z] at h; exact absurd h (by simp)
theorem tN_r {lo hi : Int} {k : Int → Int → Int → dR} (h : tN g e lo hi F E k = .inr q) : ∃ y, lxNum g e F E lo hi = .inr y ∧ k y.1 y.2.1 y.2.2 = .inr q := by
  unfold tN at h
  rcases hz : lxNum g e F E lo hi with z | z
  · rw [hz] at h; exact absurd h (by simp)
  · rw [hz] at h; exact ⟨z, rfl, h⟩
theorem tNew_r {k : Int → Int → Int → dR} (h : tNew g e D F E k = .inr q) : ∃ y, lxNm g e F E = .inr y ∧ ¬ (dF D 0 y.1 ≠ -1 ∨ dF D 1 y.1 ≠ -1 ∨ dF D 2 y.1 ≠ -1) ∧ k y.1 y.2.1 y.2.2 = .inr q := by
  unfold tNew at h
  rcases hz : lxNm g e F E with z | z
  · rw [hz] at h; exact absurd h (by simp)
  · rw [hz] at h
    by_cases c : dF D 0 z.1 ≠ -1 ∨ dF D 1 z.1 ≠ -1 ∨ dF D 2 z.1 ≠ -1
    · exact absurd h (by show ¬ (if _ then _ else _) = _; rw [if_pos c]; simp)
    · refine ⟨z, rfl, c, ?_⟩
      have h : (if dF D 0 z.1 ≠ -1 ∨ dF D 1 z.1 ≠ -1 ∨ dF D 2 z.1 ≠ -1 then .inl (3, F) else k z.1 z.2.1 z.2.2) = .inr q := h
      rw [if_neg c] at h
      exact h
theorem tOne_r {d : Int} {k : Int → Int → Int → dR} (h : tOne g e D d F E k = .inr q) : ∃ y, lxNm g e F E = .inr y ∧ dF D d y.1 ≠ -1 ∧ k (dF D d y.1) y.2.1 y.2.2 = .inr q := by
  unfold tOne at h
  rcases hz : lxNm g e F E with z | z
  · rw [hz] at h; exact absurd h (by simp)
  · rw [hz] at h
    have h : (if dF D d z.1 = -1 then .inl (3, F) else k (dF D d z.1) z.2.1 z.2.2) = .inr q := h
    by_cases c : dF D d z.1 = -1
    · rw [if_pos c] at h; exact absurd h (by simp)
    · rw [if_neg c] at h; exact ⟨z, rfl, c, h⟩
theorem tSum_r {k : List Int → Int → Int → dR} (h : tSum g e F E k = .inr q) : ∃ y, qM g e false 40 3 0 F E = .inr y ∧ k y.2.2 y.1 y.2.1 = .inr q := by
  unfold tSum at h
  rcases hz : qM g e false 40 3 0 F E with z | z
  · rw [hz] at h; exact absurd h (by simp)
  · rw [hz] at h; exact ⟨z, rfl, h⟩
theorem lxNm_in (hW : lxW g e F E) {y : Int × Int × Int} (h : lxNm g e F E = .inr y) : lxW g e y.2.1 y.2.2 ∧ F < y.2.1 ∧ tkK g e F E = 1 ∧ y.2.1 = nxF g e F ∧ y.2.2 = nxE g e F E := by
  by_cases c : tkK g e F E = 1 ∧ ¬ isOwn g e F E = true
  · by_cases d : 6 < tkB g e F - F
    · rw [lxNm_6 c d] at h; exact absurd h (by simp)
    · rw [lxNm_n c d] at h
      have := nx_any hW (tkK_1 c.1).1
      cases h
      exact ⟨this.1, this.2, c.1, rfl, rfl⟩
  · rw [lxNm_1 c] at h; exact absurd h (by simp)
theorem lxNum_W (hW : lxW g e F E) {lo hi : Int} {y : Int × Int × Int} (h : lxNum g e F E lo hi = .inr y) : lxW g e y.2.1 y.2.2 ∧ F < y.2.1 := by
  have := lxNum_in hW h
  have gx := nx_any hW (tkK_2 this.2.2.2.2.2.1).1
  rw [this.2.2.2.2.2.2.1, this.2.2.2.2.2.2.2]
  exact gx
theorem dF_in (d v : Int) (hc : 0 ≤ D.1 0 d) : dF D d v = -1 ∨ (0 ≤ dF D d v ∧ dF D d v < D.1 0 d) := by
  unfold dF
  rcases fnd_in (g := fun i => D.1 1 (8 * d + i)) (p := v) (D.1 0 d).toNat 0 with h | h
  · exact Or.inl h
  · exact Or.inr ⟨h.1, by omega⟩
end
