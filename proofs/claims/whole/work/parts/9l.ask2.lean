/-! ===== ask: the reference reads, both answer ===== -/
abbrev arF (a : Nat) (k : Int) : Prop := rqF a k ∨ (a = 209 ∧ (k = 1 ∨ k = 3 ∨ k = 53))
def mAsk (x : (Int × Int) ⊕ (Int × List Int)) (k : Int) (u : zS) : Prop := match x with
  | .inl q => q.1 ≠ 0 ∧ u.1 209 5 = q.1 ∧ u.1 209 6 = q.2
  | .inr q => k = q.1 ∧ u.1 209 5 = 0 ∧ u.1 209 6 = -1 ∧ mFm q.2 u ∧ u.1 209 53 = 0
section
variable {g : Int → Int} {e F E : Int} {s : zS} {P : Int → zS → Prop}
theorem lk_end (ht : tOk g e) (hW : lxW g e F E) : lkV g e F = -1 ↔ ¬ F < e := by
  unfold lkV
  by_cases c : F < e
  · rw [if_pos c]
    have := ht.2.2 F hW.1 (by have := ht.2.1; omega)
    exact ⟨fun z => by omega, fun z => absurd c z⟩
  · rw [if_neg c]; exact ⟨fun _ => c, fun _ => rfl⟩
theorem p276a (ht : tOk g e) (h1 : s.1 209 1 = e) (h210 : ∀ k, 0 ≤ k → k < 1600 → s.1 210 k = g k) (hw : ∀ q, q ∈ wTab → rWd s q.1 q.2) (hK : ∀ k u, mAsk (qA g e) k u → Fr arF s u → u.1 209 1 = 0 → Ok (m276_117 k u) P) : Ok (m276 s) P := by
  unfold m276
  refine k_v (k_v (k_v (k_v (k_v (k_v (k_v (k_v (k_v (k_v (k_v (k_v ?_)))))))))))
  rw [h1]
  generalize hu : sI (sI (sI (sI (sI (sI (sI (sI (sI (sI (sI s 209 3 e) 209 1 0) 209 2 0) 209 4 (-1)) 209 5 0) 209 6 (-1)) 209 53 0) 209 100 0) 209 102 0) 209 103 0) 209 104 0 = u
  have fu : Fr arF s u := by
    rw [← hu]
    exact fr_trans (fr_I (by omega)) (fr_trans (fr_I (by omega)) (fr_trans (fr_I (by omega)) (fr_trans (fr_I (by omega)) (fr_trans (fr_I (by omega)) (fr_trans (fr_I (by omega)) (fr_trans (fr_I (by omega)) (fr_trans (fr_I (by omega)) (fr_trans (fr_I (by omega)) (fr_trans (fr_I (by omega)) (fr_I (by omega)))))))))))
  have e1 : u.1 209 1 = 0 := by rw [← hu]; simp [sI_if]
  have e2 : u.1 209 2 = 0 := by rw [← hu]; simp [sI_if]
  have e3 : u.1 209 3 = e := by rw [← hu]; simp [sI_if]
  have e4 : u.1 209 4 = -1 := by rw [← hu]; simp [sI_if]
  have e5 : u.1 209 5 = 0 := by rw [← hu]; simp [sI_if]
  have e6 : u.1 209 6 = -1 := by rw [← hu]; simp [sI_if]
  have e53 : u.1 209 53 = 0 := by rw [← hu]; simp [sI_if]
  have e100 : u.1 209 100 = 0 := by rw [← hu]; simp [sI_if]
  have e102 : u.1 209 102 = 0 := by rw [← hu]; simp [sI_if]
  have e103 : u.1 209 103 = 0 := by rw [← hu]; simp [sI_if]
  have e104 : u.1 209 104 = 0 := by rw [← hu]; simp [sI_if]
  have hp := lxS_p (g := g) (k := 4) (p := 0) ht.1
  unfold qA at hK
  generalize lxS g e 4 0 = F0 at *
  have hW0 : lxW g e F0 (-1) := ⟨hp.1, hp.2.1, by have := hp.1; omega, hp.2.2.2⟩
  have g0 : rG g e true 0 F0 (-1) [] [] 0 u := by
    refine ⟨hW0, ⟨⟨e3, fun k k0 k1 => by rw [fu.1 210 k (by omega)]; exact h210 k k0 k1⟩, e5, by rw [e2]; omega, by rw [e2]; exact hp, e4⟩, ⟨trivial, e102, e100, fun i hi => by simp at hi, e103, e104⟩, hp.1, ⟨⟨e53, e6⟩, fun q hq i hi => ?_⟩, ⟨by omega, by simp⟩, by omega, by omega⟩
    have := wTab_at q hq
    rw [fu.1 q.1 _ (by omega)]
    exact hw q hq i hi
  refine k_c (p274 ht g0) ?_
  rintro z13 v (⟨q1, q2, v1, v2, v3⟩ | ⟨q1, q2, v1, v2⟩)
  · rw [if_pos q1] at hK
    have fv : Fr arF s v := fr_trans fu (fr_mono (fun a k z => Or.inl z) v3)
    refine k_v ?_
    rw [v1]
    refine k_q (by decide) (k_v (k_q (by decide) ?_))
    unfold m276_93
    refine k_v ?_
    rw [v1]
    exact k_q (by decide) (hK z13 v ⟨by show (1 : Int) ≠ 0; decide, v1, v2⟩ fv (by rw [v3.1 209 1 (by omega)]; exact e1))
  · rw [if_neg q1] at hK
    obtain ⟨k0, k5, kk⟩ := (qQ_in (g := g) (e := e) (F := F0) (E := -1)).resolve_left q1
    have fv : Fr arF s v := fr_trans fu (fr_mono (fun a k z => Or.inl z) v2)
    have v1e : v.1 209 1 = 0 := by rw [v2.1 209 1 (by omega)]; exact e1
    -- behind it the text must end
    have fin : ∀ (lv : Int), lv = (if 2 < qQ g e F0 (-1) then 3 else 0) → ∀ w, (match qM g e true 40 lv 0 (nxF g e F0) (nxE g e F0 (-1)) with
        | .inl q => w.1 209 5 = q.1 ∧ w.1 209 6 = q.2 ∧ Fr rqF v w
        | .inr q => rG g e true 0 q.1 q.2.1 [] ([] ++ q.2.2) 0 w ∧ Fr rqF v w) → Ok (m276_93 z13 w) P := by
      intro lv elv w hw'
      rw [← elv] at hK
      have lv0 : lv = 3 ∨ lv = 0 := by rw [elv]; split <;> omega
      unfold m276_93
      refine k_v ?_
      rcases hy : qM g e true 40 lv 0 (nxF g e F0) (nxE g e F0 (-1)) with q | q
      · rw [hy] at hK hw'
        have nz := qM_nz 40 lv 0 _ _ q (by omega) (by omega) (by omega) (by omega) (by omega) hy
        rw [hw'.1]
        exact k_q nz (hK z13 w ⟨nz, hw'.1, hw'.2.1⟩ (fr_trans fv (fr_mono (fun a k z => Or.inl z) hw'.2.2)) (by rw [hw'.2.2.1 209 1 (by omega)]; exact v1e))
      · rw [hy] at hK hw'
        obtain ⟨w1, w2⟩ := hw'
        rw [List.nil_append] at w1
        have fw : Fr arF s w := fr_trans fv (fr_mono (fun a k z => Or.inl z) w2)
        have w1e : w.1 209 1 = 0 := by rw [w2.1 209 1 (by omega)]; exact v1e
        have hK : ∀ k u, mAsk (if q.1 < e then .inl (1, q.1) else .inr (qQ g e F0 (-1), q.2.2)) k u → Fr arF s u → u.1 209 1 = 0 → Ok (m276_117 k u) P := hK
        rw [w1.2.1.2.1]
        refine k_p rfl (k_c (rG_look ht w1) ?_)
        rintro r y ⟨rfl, y2, y3, y4⟩
        have fy : Fr arF s y := fr_trans fw (fr_mono (fun a k z => Or.inl z) y4)
        have y1e : y.1 209 1 = 0 := by rw [y4.1 209 1 (by omega)]; exact w1e
        have lk := lk_end ht w1.1
        by_cases c : q.1 < e
        · rw [if_pos c] at hK
          refine k_q (fun z => (lk.mp z) c) (k_v ?_)
          rw [y2]
          refine k_c (p153 y3.2.1.2.1) ?_
          rintro _ a ⟨a1, a2, a3⟩
          exact hK z13 a ⟨by show (1 : Int) ≠ 0; decide, a1, a2⟩ (fr_trans fy (fr_mono (fun a k z => Or.inl (by omega)) a3)) (by rw [a3.1 209 1 (by omega)]; exact y1e)
        · rw [if_neg c] at hK
          refine k_p (lk.mpr c) (hK z13 y ⟨q2, y3.2.1.2.1, y3.2.2.2.2.1.1.2, ⟨y3.2.2.1.2.2.1, y3.2.2.1.2.2.2.1⟩, y3.2.2.2.2.1.1.1⟩ fy y1e)
    refine k_v ?_
    rw [v1.2.1.2.1]
    refine k_p rfl ?_
    rw [q2]
    refine k_i (fun z => ?_) (fun z => k_v ?_)
    · refine k_c (p265 (n := 40) ht v1 (by omega)) ?_
      intro _ w hw'
      have := fin 0 (by rw [if_neg (by omega)]) w hw'
      rw [q2] at this
      exact this
    · refine k_p rfl (k_c (p261 (n := 40) ht v1 (by omega) (by show (0 : Int) ≠ 1; decide) (by show (0 : Int) ≠ 2; decide) (by show (0 : Int) ≠ 3; decide) (by show (0 : Int) ≠ 4; decide) (by show (0 : Int) < 60; decide)) ?_)
      intro _ w hw'
      have := fin 3 (by rw [if_pos (by omega)]) w (by
        unfold rSumQ at hw'
        generalize qM g e true 40 3 0 (nxF g e F0) (nxE g e F0 (-1)) = y at hw' ⊢
        rcases y with q | q
        · exact ⟨hw'.1, hw'.2.1, hw'.2.2.1⟩
        · exact hw')
      rw [q2] at this
      exact this
end
/-- how an answer grows -/
def anP (k v w a : Int) : Int := if k = 0 then (if v = 1 ∧ a = -1 then w else a) else if k = 1 then (if v = 1 then w else a) else if k = 2 then (if v = 1 then a + 1 else a) else if k = 3 then a + v else if k = 4 then (if w = 0 ∨ a < v then v else a) else (if w = 0 ∨ v < a then v else a)
def anS (k : Int) (V : Int → Int) : Nat → Int → Int → Int
  | 0, _, a => a
  | j + 1, w, a => anS k V j (w + 1) (anP k (V w) w a)
theorem anS_congr {k : Int} {V V' : Int → Int} : ∀ (j : Nat) (w a : Int), (∀ i, w ≤ i → i < w + (j : Int) → V i = V' i) → anS k V j w a = anS k V' j w a := by
  intro j
  induction j with
  | zero => intro w a _; rfl
  | succ j ih =>
    intro w a h
    show anS k V j (w + 1) (anP k (V w) w a) = anS k V' j (w + 1) (anP k (V' w) w a)
    rw [h w (by omega) (by omega), ih (w + 1) _ (fun i i0 i1 => h i (by omega) (by omega))]
abbrev aJF (a : Nat) (q : Int) : Prop := a = 209 ∧ (q = 107 ∨ q = 108)
theorem p275 {k v w a : Int} {s : zS} (ha : s.2.1 209 107 = a) (hn : s.1 209 108 = if w = 0 then 1 else 0) (k0 : 0 ≤ k) (k5 : k ≤ 5) (hv : inM v) (a0 : -100000000 ≤ a) (a1 : a ≤ 100000000) : Ok (m275 k v w s) (fun _ t => t.2.1 209 107 = anP k v w a ∧ t.1 209 108 = 0 ∧ FrJ aJF s t) := by
  -- the last of them
  have s90 : ∀ (u : zS) (b : Int), u.2.1 209 107 = b → u.1 209 108 = s.1 209 108 → FrJ aJF s u → (k ≤ 3 → b = anP k v w a) → (3 < k → b = a) → Ok (m275_90 k v u) (fun _ t => t.2.1 209 107 = anP k v w a ∧ t.1 209 108 = 0 ∧ FrJ aJF s t) := by
    intro u b hb h8 fu h3 h4
    have end0 : ∀ (y : zS), y.2.1 209 107 = anP k v w a → FrJ aJF s y → Ok (oV (sI y 209 108 0) fun s9 => some ((0 : Int), s9)) (fun _ t => t.2.1 209 107 = anP k v w a ∧ t.1 209 108 = 0 ∧ FrJ aJF s t) := fun y hy fy => k_v (k_r ⟨by rw [sI_21]; exact hy, sI_e, frj_trans fy (frj_I (by omega))⟩)
    unfold m275_90
    refine k_i (fun z => k_v ?_) (fun z => end0 u (by rw [hb]; exact h3 (by omega)) fu)
    have hba := h4 z
    rw [h8, hn]
    have fj : FrJ aJF s (sJ u 209 107 v) := frj_trans fu (frj_J (by omega))
    have set : anP k v w a = v → Ok (oV (sJ u 209 107 v) fun s17 => oV (sI s17 209 108 0) fun s18 => some ((0 : Int), s18)) (fun _ t => t.2.1 209 107 = anP k v w a ∧ t.1 209 108 = 0 ∧ FrJ aJF s t) := fun z => k_v (end0 _ (by rw [sJ_e, z]) fj)
    by_cases c : w = 0
    · rw [if_pos c]
      refine k_q (by decide) (set ?_)
      unfold anP
      rw [if_neg (by omega), if_neg (by omega), if_neg (by omega), if_neg (by omega)]
      by_cases d : k = 4
      · rw [if_pos d, if_pos (Or.inl c)]
      · rw [if_neg d, if_pos (Or.inl c)]
    · rw [if_neg c]
      refine k_p rfl (k_i (fun d => k_v (k_v ?_)) (fun d => k_v (k_v ?_)))
      · rw [hb, hba]
        refine k_i (fun x => set ?_) (fun x => end0 u ?_ fu)
        · have := zcmp_gt.mp x
          unfold anP
          rw [if_neg (by omega), if_neg (by omega), if_neg (by omega), if_neg (by omega), if_pos d, if_pos (Or.inr this)]
        · have : ¬ a < v := fun y => x (zcmp_gt.mpr y)
          unfold anP
          rw [if_neg (by omega), if_neg (by omega), if_neg (by omega), if_neg (by omega), if_pos d, if_neg (fun y => y.elim c this), hb, hba]
      · rw [hb, hba]
        refine k_i (fun x => set ?_) (fun x => end0 u ?_ fu)
        · have := zcmp_lt.mp x
          unfold anP
          rw [if_neg (by omega), if_neg (by omega), if_neg (by omega), if_neg (by omega), if_neg d, if_pos (Or.inr this)]
        · have : ¬ v < a := fun y => x (zcmp_lt.mpr y)
          unfold anP
          rw [if_neg (by omega), if_neg (by omega), if_neg (by omega), if_neg (by omega), if_neg d, if_neg (fun y => y.elim c this), hb, hba]
  have s75 : ∀ (u : zS) (b : Int), u.2.1 209 107 = b → u.1 209 108 = s.1 209 108 → FrJ aJF s u → (k < 3 → b = anP k v w a) → (3 ≤ k → b = a) → Ok (m275_75 k v u) (fun _ t => t.2.1 209 107 = anP k v w a ∧ t.1 209 108 = 0 ∧ FrJ aJF s t) := by
    intro u b hb h8 fu h3 h4
    unfold m275_75
    refine k_i (fun z => k_v ?_) (fun z => s90 u b hb h8 fu (fun y => h3 (by omega)) (fun y => h4 (by omega)))
    rw [hb, h4 (by omega)]
    refine k_j (by omega) (by omega) (k_v (s90 _ (a + v) sJ_e (by rw [sJ_1]; exact h8) (frj_trans fu (frj_J (by omega))) (fun _ => ?_) (fun y => by omega)))
    unfold anP
    rw [if_neg (by omega), if_neg (by omega), if_neg (by omega), if_pos z]
  have s55 : ∀ (x5 : Int) (u : zS) (b : Int), (x5 = 0 ∧ (k < 3 → v ≠ 1)) ∨ (x5 = 1 ∧ k < 3 ∧ v = 1) → u.2.1 209 107 = b → u.1 209 108 = s.1 209 108 → FrJ aJF s u → (k < 2 → b = anP k v w a) → (2 ≤ k → b = a) → Ok (m275_55 k v x5 u) (fun _ t => t.2.1 209 107 = anP k v w a ∧ t.1 209 108 = 0 ∧ FrJ aJF s t) := by
    intro x5 u b hx hb h8 fu h3 h4
    unfold m275_55
    refine k_i (fun z => k_i (fun y => s75 u b hb h8 fu (fun _ => ?_) (fun y => by omega)) (fun y => k_v ?_)) (fun z => s75 u b hb h8 fu (fun y => h3 (by omega)) (fun y => h4 (by omega)))
    · rw [h4 (by omega)]
      unfold anP
      rw [if_neg (by omega), if_neg (by omega), if_pos z, if_neg (by omega)]
    · rw [hb, h4 (by omega)]
      refine k_j (by omega) (by omega) (k_v (s75 _ (a + 1) sJ_e (by rw [sJ_1]; exact h8) (frj_trans fu (frj_J (by omega))) (fun _ => ?_) (fun y => by omega)))
      unfold anP
      rw [if_neg (by omega), if_neg (by omega), if_pos z, if_pos (by omega)]
  have s38 : ∀ (x5 : Int), (x5 = 0 ∧ (k < 3 → v ≠ 1)) ∨ (x5 = 1 ∧ k < 3 ∧ v = 1) → (k = 0 → anP k v w a = a) → Ok (m275_38 k v w x5 s) (fun _ t => t.2.1 209 107 = anP k v w a ∧ t.1 209 108 = 0 ∧ FrJ aJF s t) := by
    intro x5 hx hk0
    unfold m275_38
    refine k_i (fun z => k_i (fun y => s55 x5 s a hx ha rfl frj_refl (fun _ => ?_) (fun _ => rfl)) (fun y => k_v (s55 x5 _ w hx sJ_e (by rw [sJ_1]) (frj_J (by omega)) (fun _ => ?_) (fun y => by omega)))) (fun z => s55 x5 s a hx ha rfl frj_refl (fun y => (hk0 (by omega)).symm) (fun _ => rfl))
    · unfold anP
      rw [if_neg (by omega), if_pos z, if_neg (by omega)]
    · unfold anP
      rw [if_neg (by omega), if_pos z, if_pos (by omega)]
  have s16 : ∀ (x5 : Int), (x5 = 0 ∧ (k < 3 → v ≠ 1)) ∨ (x5 = 1 ∧ k < 3 ∧ v = 1) → Ok (m275_16 k v w x5 s) (fun _ t => t.2.1 209 107 = anP k v w a ∧ t.1 209 108 = 0 ∧ FrJ aJF s t) := by
    intro x5 hx
    unfold m275_16
    refine k_i (fun z => k_i (fun y => s38 x5 hx (fun _ => ?_)) (fun y => k_v (k_v ?_))) (fun z => s38 x5 hx (fun y => absurd y z))
    · unfold anP
      rw [if_pos z, if_neg (fun h => by omega)]
    · rw [ha]
      refine k_i (fun x => k_v (s55 x5 _ w hx sJ_e (by rw [sJ_1]) (frj_J (by omega)) (fun _ => ?_) (fun y => by omega))) (fun x => s38 x5 hx (fun _ => ?_))
      · have := zcmp_eq.mp x
        unfold anP
        rw [if_pos z, if_pos ⟨by omega, this⟩]
      · have : a ≠ -1 := fun h => x (zcmp_eq.mpr h)
        unfold anP
        rw [if_pos z, if_neg (fun h => this h.2)]
  unfold m275
  refine k_i (fun z => k_v (k_i (fun y => s16 1 (Or.inr ⟨rfl, z, zcmp_eq.mp y⟩)) (fun y => s16 0 (Or.inl ⟨rfl, fun _ h => y (zcmp_eq.mpr h)⟩)))) (fun z => s16 0 (Or.inl ⟨rfl, fun h => absurd h z⟩))
