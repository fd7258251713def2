/-! ===== the reference tells a land: a statement, the loop ===== -/
section
variable {g : Int → Int} {e F E x : Int} {D D' : dL} {s s0 t : zS} {q : Int × Int} {c d v : Int} {P : Int → zS → Prop}
def bT (s0 : zS) (q : Int × Int) (t : zS) : Prop := q.1 ≠ 0 ∧ t.1 209 5 = q.1 ∧ t.1 209 6 = q.2 ∧ FrJ rlF s0 t
def dMore (D : dL) : dL := (D.1, D.2.1, D.2.2.1, D.2.2.2 + 1)
/-- behind a statement and its sign -/
def rStm (g : Int → Int) (e : Int) (s0 : zS) (x : dR) (_ : Int) (t : zS) : Prop := match x with
  | .inl q => bT s0 q t
  | .inr q => if q.2.1 < e ∧ g q.2.1 = 59 then gS g e (dMore q.1) (nxF g e q.2.1) (nxE g e q.2.1 q.2.2) s0 t else bT s0 (1, q.2.1) t
theorem rl52 : rlF 209 52 := Or.inl ⟨rfl, by decide⟩
theorem bT_52 (h : bT s0 q s) : bT s0 q (sI s 209 52 v) :=
  ⟨h.1, by rw [sI_k (by decide)]; exact h.2.1, by rw [sI_k (by decide)]; exact h.2.2.1, frj_trans h.2.2.2 (frj_I rl52)⟩
theorem p176_211 {r : Int} {y : dR} (ht : tOk g e) (h : rK g e s0 y r s) (hD : ∀ q, y = .inr q → dOk q.1) : Ok (m176_211 s) (rStm g e s0 y) := by
  unfold m176_211
  rcases y with q | q
  · have hb : bS s0 q s := h
    have h52 := hb.2.2.2.2
    exact k_e (u161 (bS_5 hb)) (k_v (k_z (by omega) (by omega) (k_v (k_r (bT_52 hb.1)))))
  · have hg : gS g e q.1 q.2.1 q.2.2 s0 s := h
    have hO := hD q rfl
    have h52 := hO.2
    by_cases c : q.2.1 < e ∧ g q.2.1 = 59
    · refine k_c (p161t (c := 59) ht hg.1.1 hg.1.2.1 (by decide) c.1 c.2) ?_
      rintro _ u ⟨u1, u2⟩
      have hW := (nx_any hg.1.1 c.1).1
      have gu : gS g e q.1 (nxF g e q.2.1) (nxE g e q.2.1 q.2.2) s0 u := gS_fr hg (nN_fr (A := yF) (fun a k z => by omega) hg.1 u1 hW (frj_of u2)) (fr_mono (fun a k z => by omega) u2)
      refine k_v ?_
      rw [gu.2.1.2.2.2.2.2.2.2]
      refine k_z (by omega) (by omega) (k_v (k_r ?_))
      show if q.2.1 < e ∧ g q.2.1 = 59 then _ else _
      rw [if_pos c]
      have f52 : FrJ (fun a k => a = 209 ∧ k = 52) u (sI u 209 52 (q.1.2.2.2 + 1)) := frj_I ⟨rfl, rfl⟩
      refine ⟨nN_fr (A := fun a k => a = 209 ∧ k = 52) (fun a k z => by omega) gu.1 (rLx_fr (A := fun a k => a = 209 ∧ k = 52) (fun a k z => by omega) f52 gu.1.2.1) gu.1.1 f52, ?_, frj_trans gu.2.2 (frj_mono (fun a k z => by rw [z.1, z.2]; exact rl52) f52)⟩
      have ro : ∀ a, a ≠ 209 → (sI u 209 52 (q.1.2.2.2 + 1)).1 a = u.1 a := fun a ha => funext fun k => sI_a ha
      have e51 : (sI u 209 52 (q.1.2.2.2 + 1)).1 209 51 = u.1 209 51 := sI_k (by decide)
      have e52 : (sI u 209 52 (q.1.2.2.2 + 1)).1 209 52 = q.1.2.2.2 + 1 := sI_e
      have hr := gu.2.1
      unfold rD
      rw [ro 242 (by decide), ro 244 (by decide), ro 245 (by decide), ro 246 (by decide), ro 247 (by decide), ro 248 (by decide), ro 249 (by decide), ro 250 (by decide), ro 251 (by decide), e51, e52]
      exact ⟨hr.1, hr.2.1, hr.2.2.1, hr.2.2.2.1, hr.2.2.2.2.1, hr.2.2.2.2.2.1, hr.2.2.2.2.2.2.1, rfl⟩
    · refine k_c (p161f (c := 59) ht hg.1.2.1 (by decide) c) ?_
      rintro _ u ⟨u5, u6, u3⟩
      have hb := bS_of hO hg (by decide) u5 u6 (fr_mono (fun a k z => by omega) u3)
      have h52 := hb.2.2.2.2
      refine k_v (k_z (by omega) (by omega) (k_v (k_r ?_)))
      show if q.2.1 < e ∧ g q.2.1 = 59 then _ else _
      rw [if_neg c]
      exact bT_52 hb.1
/-- a word that may stand here -/
theorem r_opt {K K1 : zS → Option (Int × zS)} {m a : Nat} {l : List Int} (ht : tOk g e) (h : gS g e D F E s0 s) (hk : (a, l) ∈ wTab) (hm : m = l.length) (hl : m ≤ 10) (h1 : isW g e F E l = true → ∀ t, gS g e D (nxF g e F) (nxE g e F E) s0 t → Ok (K1 t) P) (h0 : ¬ isW g e F E l = true → ∀ t, gS g e D F E s0 t → Ok (K t) P) : Ok (oC (m158 m a s) fun z t => if z = (0 : Int) then K t else K1 t) P := by
  by_cases c : isW g e F E l = true
  · refine k_c (nN_take ht h.1 hk hm hl c) ?_
    rintro r t ⟨rfl, t1, t2⟩
    exact k_q (by decide) (h1 c t (gS_fr h t1 (fr_mono (fun a k z => by omega) t2)))
  · refine k_c (nN_notake ht h.1 hk hm hl (by rw [Bool.not_eq_true] at c; exact c)) ?_
    rintro r t ⟨rfl, _, t1, t2⟩
    exact k_p rfl (h0 c t (gS_fr h t1 (fr_mono (fun a k z => by omega) t2)))
theorem rD_set {k : Int} (h : rD D s) (hk : k = 0 ∨ k = 1 ∨ k = 2) : rD (dU D 6 k v) (sI s 248 k v) := by
  have ro : ∀ a, a ≠ 248 → (sI s 248 k v).1 a = s.1 a := fun a ha => funext fun k => sI_a ha
  have er : ∀ r, r ≠ 6 → (dU D 6 k v).1 r = D.1 r := fun r hr => funext fun k => dU_r hr
  have em : (dU D 6 k v).2 = D.2 := rfl
  have ts : ∀ i, (i = 0 ∨ i = 1 ∨ i = 2) → s.1 248 i = D.1 6 i → (sI s 248 k v).1 248 i = (dU D 6 k v).1 6 i := fun i _ hi => by
    rw [dU_s, sI_if]
    by_cases z : i = k
    · rw [if_pos ⟨rfl, z⟩, if_pos z]
    · rw [if_neg (fun y => z y.2), if_neg z]; exact hi
  unfold rD rDc rDn rDr rDp rDw rDs dLn
  rw [ro 242 (by decide), ro 244 (by decide), ro 245 (by decide), ro 246 (by decide), ro 247 (by decide), ro 249 (by decide), ro 250 (by decide), ro 251 (by decide), ro 209 (by decide), em, er 0 (by decide), er 1 (by decide), er 2 (by decide), er 3 (by decide), er 4 (by decide), er 5 (by decide)]
  exact ⟨h.1, h.2.1, h.2.2.1, h.2.2.2.1, ⟨ts 0 (by omega) h.2.2.2.2.1.1, ts 1 (by omega) h.2.2.2.2.1.2.1, ts 2 (by omega) h.2.2.2.2.1.2.2⟩, h.2.2.2.2.2.1, h.2.2.2.2.2.2⟩
theorem r_set {k lo hi : Int} (ht : tOk g e) (hD : dOk D) (h : gS g e D F E s0 s) (hk : (k = 0 ∧ lo = 0 ∧ hi = 2) ∨ (k = 1 ∧ lo = 1 ∧ hi = 9) ∨ (k = 2 ∧ lo = 0 ∧ hi = 100)) : Ok (oC (m162 lo hi s) fun z t => oX k 6 (oV (sI t 248 k z) fun u => m176_211 u)) (rStm g e s0 (tN g e lo hi F E fun v F2 E2 => .inr (dU D 6 k v, F2, E2))) := by
  refine r_num ht hD h (fun y t y0 y1 ht' _ => k_x (by omega) (by omega) (k_v ?_)) (fun q r t hb => k_x (by omega) (by omega) (k_v ?_))
  · refine p176_211 (r := 0) (y := .inr (dU D 6 k y.1, y.2.1, y.2.2)) ht (gS_put ht' (frj_I (rlF_s (by omega))) (rD_set ht'.2.1 (by omega))) (fun q hq => ?_)
    cases hq
    exact ⟨dInv_set hD.1 (by omega), hD.2⟩
  · refine p176_211 (r := 0) (y := .inl q) ht ?_ (fun q hq => by cases hq)
    show bS s0 q (sI t 248 k r)
    obtain ⟨⟨b1, b2, b3, b4⟩, b5⟩ := hb
    refine ⟨⟨b1, by rw [sI_a (by decide)]; exact b2, by rw [sI_a (by decide)]; exact b3, frj_trans b4 (frj_I (rlF_s (by omega)).2.2)⟩, ?_⟩
    rw [sI_a (by decide), sI_a (by decide), sI_a (by decide), sI_a (by decide)]
    exact b5
/-- a statement -/
theorem p176 (ht : tOk g e) (hD : dOk D) (h : gS g e D F E s0 s) (h2 : s.1 209 2 = F) (hln : dLn D ≤ F) (lt : D.2.2.2 < 80) : Ok (m176 s) (rStm g e s0 (dStm g e D F E)) := by
  have hX : ∀ q, dStm g e D F E = .inr q → dOk q.1 := fun q hq => by
    have := dStm_in hD.1 h.1.1 hq
    exact ⟨this.1, by rw [this.2.2.2.2]; exact hD.2⟩
  have hnx : F < e → dLn D ≤ nxF g e F := fun z => by have := (nx_any h.1.1 z).2; omega
  unfold m176
  refine k_v (k_v ?_)
  rw [h2, h.2.1.2.2.2.2.2.2.2]
  refine k_q (by omega) ?_
  refine r_opt (a := 212) (l := sL 0) ht h (by decide) (by decide) (by decide) (fun c0 t ht' => ?_) (fun c0 t0 g0 => ?_)
  · have eq : dStm g e D F E = if D.1 0 0 < 7 then dPlace g e D (nxF g e F) (nxE g e F E) else .inl (5, F) := by unfold dStm; rw [if_pos c0]
    rw [eq] at hX ⊢
    exact k_c (p171 ht hD ht') (fun r u hu => p176_211 ht hu hX)
  refine r_opt (a := 213) (l := sL 3) ht g0 (by decide) (by decide) (by decide) (fun c1 t ht' => ?_) (fun c1 t1 g1 => ?_)
  · have eq : dStm g e D F E = if D.1 0 3 < 12 then dRoad g e D (nxF g e F) (nxE g e F E) else .inl (5, F) := by unfold dStm; rw [if_neg c0, if_pos c1]
    rw [eq] at hX ⊢
    exact k_c (p172 ht hD ht') (fun r u hu => p176_211 ht hu hX)
  refine r_opt (a := 215) (l := sL 5) ht g1 (by decide) (by decide) (by decide) (fun c2 t ht' => ?_) (fun c2 t2 g2 => ?_)
  · have eq : dStm g e D F E = if D.1 0 1 < 8 then dPair g e D (nxF g e F) (nxE g e F E) else .inl (5, F) := by unfold dStm; rw [if_neg c0, if_neg c1, if_pos c2]
    rw [eq] at hX ⊢
    exact k_c (p173 ht hD ht') (fun r u hu => p176_211 ht hu hX)
  refine r_opt (a := 219) (l := sL 9) ht g2 (by decide) (by decide) (by decide) (fun c3 t ht' => ?_) (fun c3 t3 g3 => ?_)
  · have eq : dStm g e D F E = if D.1 0 2 < 6 then dWalk g e D (nxF g e F) (nxE g e F E) else .inl (5, F) := by unfold dStm; rw [if_neg c0, if_neg c1, if_neg c2, if_pos c3]
    rw [eq] at hX ⊢
    exact k_c (p174 ht hD ht') (fun r u hu => p176_211 ht hu hX)
  refine r_opt (a := 223) (l := sL 13) ht g3 (by decide) (by decide) (by decide) (fun c4 t ht' => ?_) (fun c4 t4 g4 => ?_)
  · have eq : dStm g e D F E = if D.2.1 = [] then tSum g e (nxF g e F) (nxE g e F E) fun l F2 E2 => .inr ((D.1, l, D.2.2), F2, E2) else .inl (5, F) := by unfold dStm; rw [if_neg c0, if_neg c1, if_neg c2, if_neg c3, if_pos c4]
    rw [eq] at hX ⊢
    exact k_c (p175 ht hD ht' (hnx (isW_F c4))).1 (fun r u hu => p176_211 ht hu hX)
  refine r_opt (a := 224) (l := sL 30) ht g4 (by decide) (by decide) (by decide) (fun c5 t ht' => ?_) (fun c5 t5 g5 => ?_)
  · have eq : dStm g e D F E = if D.2.2.1 = [] then tSum g e (nxF g e F) (nxE g e F E) fun l F2 E2 => .inr ((D.1, D.2.1, l, D.2.2.2), F2, E2) else .inl (5, F) := by unfold dStm; rw [if_neg c0, if_neg c1, if_neg c2, if_neg c3, if_neg c4, if_pos c5]
    rw [eq] at hX ⊢
    exact k_c (p175 ht hD ht' (hnx (isW_F c5))).2 (fun r u hu => p176_211 ht hu hX)
  refine r_opt (a := 225) (l := sL 31) ht g5 (by decide) (by decide) (by decide) (fun c6 t ht' => ?_) (fun c6 t6 g6 => ?_)
  · have eq : dStm g e D F E = tN g e 0 2 (nxF g e F) (nxE g e F E) fun v F2 E2 => .inr (dU D 6 0 v, F2, E2) := by unfold dStm; rw [if_neg c0, if_neg c1, if_neg c2, if_neg c3, if_neg c4, if_neg c5, if_pos c6]
    rw [eq]
    exact r_set ht hD ht' (by omega)
  refine r_opt (a := 226) (l := sL 32) ht g6 (by decide) (by decide) (by decide) (fun c7 t ht' => ?_) (fun c7 t7 g7 => ?_)
  · have eq : dStm g e D F E = tN g e 1 9 (nxF g e F) (nxE g e F E) fun v F2 E2 => .inr (dU D 6 1 v, F2, E2) := by unfold dStm; rw [if_neg c0, if_neg c1, if_neg c2, if_neg c3, if_neg c4, if_neg c5, if_neg c6, if_pos c7]
    rw [eq]
    exact r_set ht hD ht' (by omega)
  have eq : dStm g e D F E = tW g e (sL 33) F E fun F2 E2 => tN g e 0 100 F2 E2 fun v F2 E2 => .inr (dU D 6 2 v, F2, E2) := by unfold dStm tW; rw [if_neg c0, if_neg c1, if_neg c2, if_neg c3, if_neg c4, if_neg c5, if_neg c6, if_neg c7]
  rw [eq]
  refine r_word (a := 227) (l := sL 33) ht hD g7 (by decide) (by decide) (by decide) (fun r t ht' _ _ => r_set ht hD ht' (by omega)) (fun q r t hb => k_e (u162 (bS_5 hb)) (k_x (by omega) (by omega) (k_v ?_)))
  refine p176_211 (r := 0) (y := .inl q) ht ?_ (fun q hq => by cases hq)
  show bS s0 q (sI t 248 2 0)
  obtain ⟨⟨b1, b2, b3, b4⟩, b5⟩ := hb
  refine ⟨⟨b1, by rw [sI_a (by decide)]; exact b2, by rw [sI_a (by decide)]; exact b3, frj_trans b4 (frj_I (rlF_s (by omega)).2.2)⟩, ?_⟩
  rw [sI_a (by decide), sI_a (by decide), sI_a (by decide), sI_a (by decide)]
  exact b5
/-- what stands when all is told -/
def rTl (g : Int → Int) (e : Int) (s0 : zS) (x : dR) (t : zS) : Prop := match x with
  | .inl q => bT s0 q t
  | .inr q => gS g e q.1 q.2.1 q.2.2 s0 t ∧ dOk q.1 ∧ dLn q.1 ≤ q.2.1
theorem u177_119 {n : Nat} (hb : bT s0 q s) (h : Ok (m177_141 s) P) : Ok (m177_119 (n + 1) s) P := by
  rw [m177_119]
  exact k_v (k_q (by rw [hb.2.1]; exact hb.1) h)
theorem p177_119 (ht : tOk g e) : ∀ (n j : Nat) (D : dL) (F E : Int) (s : zS), D.2.2.2 = 80 - (j : Int) → j + 1 < n → dOk D → dLn D ≤ F → gS g e D F E s0 s → (∀ t, rTl g e s0 (dLoop g e j D F E) t → Ok (m177_141 t) P) → Ok (m177_119 n s) P := by
  intro n
  induction n with
  | zero => intro j D F E s _ h; omega
  | succ n ih =>
    intro j D F E s hj hn hD hln h hP
    rw [m177_119]
    refine k_v ?_
    rw [gS_5 h]
    refine k_p rfl (k_c (nN_look ht h.1) ?_)
    rintro r t ⟨rfl, t2, t3, t4⟩
    have gt := gS_fr h t3 (fr_mono (fun a k z => by omega) t4)
    have lk := lk_end ht h.1.1
    obtain ⟨n, rfl⟩ : ∃ m, n = m + 1 := ⟨n - 1, by omega⟩
    by_cases c : F < e
    · refine k_q (fun z => (lk.mp z) c) ?_
      cases j with
      | zero =>
        have e1 : dLoop g e 0 D F E = .inl (5, F) := by unfold dLoop; rw [if_pos c]
        rw [e1] at hP
        unfold m176
        refine k_c (Q := fun _ u => bT s0 (5, F) u) (k_v (k_v ?_)) (fun _ u hu => u177_119 hu (hP u hu))
        rw [t2, gt.2.1.2.2.2.2.2.2.2]
        refine k_p (by omega) (k_c (p153 (gS_5 gt)) ?_)
        rintro _ u ⟨u5, u6, u3⟩
        exact k_r (bS_of hD gt (by decide) u5 u6 (fr_mono (fun a k z => by omega) u3)).1
      | succ j =>
        refine k_c (p176 ht hD gt t2 hln (by omega)) ?_
        intro r u hu
        rw [dLoop, if_pos c] at hP
        rcases hz : dStm g e D F E with q | q
        · rw [hz] at hu hP
          exact u177_119 hu (hP u hu)
        · rw [hz] at hu hP
          have hu : if q.2.1 < e ∧ g q.2.1 = 59 then gS g e (dMore q.1) (nxF g e q.2.1) (nxE g e q.2.1 q.2.2) s0 u else bT s0 (1, q.2.1) u := hu
          have hP : ∀ t, rTl g e s0 (if q.2.1 < e ∧ g q.2.1 = 59 then dLoop g e j (dMore q.1) (nxF g e q.2.1) (nxE g e q.2.1 q.2.2) else .inl (1, q.2.1)) t → Ok (m177_141 t) P := hP
          have hk := dStm_in hD.1 h.1.1 hz
          by_cases c' : q.2.1 < e ∧ g q.2.1 = 59
          · rw [if_pos c'] at hu hP
            have hx := nx_any hk.2.1 c'.1
            have h4 := hk.2.2.2.1
            have h5 := hk.2.2.2.2
            have h6 := hD.2
            have l1 : dLn (dMore q.1) = dLn q.1 := rfl
            have l2 : (dMore q.1).2.2.2 = q.1.2.2.2 + 1 := rfl
            exact ih j (dMore q.1) _ _ u (by omega) (by omega) ⟨hk.1, by omega, by omega⟩ (by omega) hu hP
          · rw [if_neg c'] at hu hP
            exact u177_119 hu (hP u hu)
    · have e1 : dLoop g e j D F E = .inr (D, F, E) := by
        cases j with
        | zero => unfold dLoop; rw [if_neg c]
        | succ j => rw [dLoop, if_neg c]
      rw [e1] at hP
      exact k_p (lk.mpr c) (hP t ⟨gt, hD, hln⟩)
end
