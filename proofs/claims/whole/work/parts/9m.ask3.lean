/-! ===== ask: the answers ===== -/
theorem anP_4 {v w a : Int} : anP 4 v w a = (if w = 0 ∨ a < v then v else a) := rfl
theorem anP_5 {v w a : Int} : anP 5 v w a = (if w = 0 ∨ v < a then v else a) := rfl
theorem anP_in {k v w a : Int} (hv : inM v) (w0 : 0 ≤ w) (w6 : w ≤ 6) (a0 : -1000001 * (w + 1) ≤ a) (a1 : a ≤ 1000001 * (w + 1)) : -1000001 * (w + 1 + 1) ≤ anP k v w a ∧ anP k v w a ≤ 1000001 * (w + 1 + 1) := by
  unfold anP
  repeat' split
  all_goals omega
section
variable {s0 : zS} {l : List Int}
abbrev vF (a : Nat) (_ : Int) : Prop := a = 11 ∨ a = 7
theorem vF_RL {s : zS} (h : RL s0) (hf : Fr vF s0 s) : RL s := RL_fr h (fun a k z => hf.1 a k (fun y => by omega)) (fun k => by rw [hf.2.1]) (fun q _ => by rw [hf.2.2])
theorem vlW_eq {f f' : Nat → Int → Int} (h : ∀ a k, 242 ≤ a → a ≤ 254 → f' a k = f a k) (w : Int) : ptW f' w = ptW f w ∧ frW f' w = frW f w ∧ vlW f' l w = vlW f l w := by
  have e1 : ptW f' w = ptW f w := funext fun q => by unfold ptW tgt; simp only [h 254 _ (by omega) (by omega), h 246 _ (by omega) (by omega), h 245 _ (by omega) (by omega)]
  have e2 : frW f' w = frW f w := funext fun q => by unfold frW atW; simp only [h 254 _ (by omega) (by omega), h 252 _ (by omega) (by omega), h 242 _ (by omega) (by omega)]
  refine ⟨e1, e2, ?_⟩
  unfold vlW
  rw [e1, e2]
/-- one's value, by the class, from a later state -/
theorem p146s {s : zS} {w : Int} {b : Prop} (hR : RL s0) (hf : Fr vF s0 s) (w0 : 0 ≤ w) (w1 : w < s0.1 242 6) (hc : cFm 5 l s0) (hl : l.length ≤ 1600) (hs : cSm (ptW s0.1 w) (frW s0.1 w) b l []) : Ok (m146 w s) (fun r t => r = vlW s0.1 l w ∧ Fr vF s0 t) := by
  obtain ⟨e1, e2, e3⟩ := vlW_eq (l := l) (f := s0.1) (f' := s.1) (fun a k a0 a1 => hf.1 a k (by omega)) w
  refine k_m (p146 (l := l) (b := b) (vF_RL hR hf) w0 (by rw [hf.1 242 6 (by omega)]; exact w1) ⟨by rw [hf.1 5 2 (by omega)]; exact hc.1, fun i hi => by rw [hf.1 (5 + 1) _ (by omega)]; exact hc.2 i hi⟩ hl (by rw [e1, e2]; exact hs)) ?_
  rintro r t ⟨t1, t2⟩
  exact ⟨by rw [t1, e3], fr_trans hf t2⟩
theorem p147_10 {kind : Int} (hR : RL s0) (hc : cFm 5 l s0) (hl : l.length ≤ 1600) (hs : ∀ w, 0 ≤ w → w < s0.1 242 6 → cSm (ptW s0.1 w) (frW s0.1 w) True l []) : ∀ (m j : Nat) (w x2 x3 x4 : Int) (s : zS), w = s0.1 242 6 - (j : Int) → 0 ≤ w → j < m → 0 ≤ x4 → x4 ≤ w → Fr vF s0 s → Ok (m147_10 m kind x2 x3 x4 w s) (fun r t => r = (if kind = 0 then anS 0 (vlW s0.1 l) j w x2 else if kind = 1 then anS 1 (vlW s0.1 l) j w x3 else anS 2 (vlW s0.1 l) j w x4) ∧ Fr vF s0 t) := by
  have hLL := RL_LL hR
  obtain ⟨b1, b2, b3, b4, b5, b6, b7, b8, b9, b10⟩ := RL_cnt hR
  intro m
  induction m with
  | zero => intro j w x2 x3 x4 s _ _ h; omega
  | succ m ih =>
    intro j w x2 x3 x4 s hw w0 hj a0 a1 hf
    rw [m147_10]
    refine k_v (k_v ?_)
    rw [show s.2.2 1 = s0.2.2 1 by rw [hf.2.2], hf.1 (s0.2.2 1 + 5) 0 (by omega), b6]
    cases j with
    | zero => exact k_q (by omega) (k_i (fun z => k_r ⟨by rw [if_pos z]; rfl, hf⟩) (fun z => k_i (fun y => k_r ⟨by rw [if_neg z, if_pos y]; rfl, hf⟩) (fun y => k_r ⟨by rw [if_neg z, if_neg y]; rfl, hf⟩)))
    | succ j =>
      have w1 : w < s0.1 242 6 := by omega
      have sm := hs w w0 w1
      obtain ⟨k1, v, k2, k3, k4⟩ := sm
      have hv : vlW s0.1 l w = 0 ∨ vlW s0.1 l w = 1 := by unfold vlW; rw [k2]; exact k4 trivial
      refine k_p w1 (k_c (p146s hR hf w0 w1 hc hl ⟨k1, v, k2, k3, k4⟩) ?_)
      rintro r t ⟨rfl, t2⟩
      have nx : ∀ x2' x3' x4', x2' = anP 0 (vlW s0.1 l w) w x2 → x3' = anP 1 (vlW s0.1 l w) w x3 → x4' = anP 2 (vlW s0.1 l w) w x4 → 0 ≤ x4' → x4' ≤ w + 1 → Ok (m147_10 m kind x2' x3' x4' (w + 1) t) (fun r t => r = (if kind = 0 then anS 0 (vlW s0.1 l) (j + 1) w x2 else if kind = 1 then anS 1 (vlW s0.1 l) (j + 1) w x3 else anS 2 (vlW s0.1 l) (j + 1) w x4) ∧ Fr vF s0 t) := by
        intro x2' x3' x4' e2 e3 e4 y0 y1
        have := ih j (w + 1) x2' x3' x4' t (by omega) (by omega) (by omega) y0 y1 t2
        rw [e2, e3, e4] at this
        rw [e2, e3, e4]
        exact this
      refine k_i (fun z => k_z (by omega) (by omega) (nx x2 x3 x4 ?_ ?_ ?_ a0 (by omega))) (fun z => ?_)
      · unfold anP; rw [if_pos rfl, if_neg (by omega)]
      · unfold anP; rw [if_neg (by decide), if_pos rfl, if_neg (by omega)]
      · unfold anP; rw [if_neg (by decide), if_neg (by decide), if_pos rfl, if_neg (by omega)]
      · have v1 : vlW s0.1 l w = 1 := by omega
        refine k_i (fun y => k_z (by omega) (by omega) (k_z (by omega) (by omega) (nx w w (x4 + 1) ?_ ?_ ?_ (by omega) (by omega)))) (fun y => k_z (by omega) (by omega) (k_z (by omega) (by omega) (nx x2 w (x4 + 1) ?_ ?_ ?_ (by omega) (by omega))))
        · unfold anP; rw [if_pos rfl, if_pos ⟨v1, y⟩]
        · unfold anP; rw [if_neg (by decide), if_pos rfl, if_pos v1]
        · unfold anP; rw [if_neg (by decide), if_neg (by decide), if_pos rfl, if_pos v1]
        · unfold anP; rw [if_pos rfl, if_neg (fun h => y h.2)]
        · unfold anP; rw [if_neg (by decide), if_pos rfl, if_pos v1]
        · unfold anP; rw [if_neg (by decide), if_neg (by decide), if_pos rfl, if_pos v1]
theorem p148_5 {kind : Int} (k3 : 3 ≤ kind) (k5 : kind ≤ 5) (hR : RL s0) (hc : cFm 5 l s0) (hl : l.length ≤ 1600) {b : Prop} (hs : ∀ w, 0 ≤ w → w < s0.1 242 6 → cSm (ptW s0.1 w) (frW s0.1 w) b l []) : ∀ (m j : Nat) (w a : Int) (s : zS), w = s0.1 242 6 - (j : Int) → 0 ≤ w → j < m → -1000001 * (w + 1) ≤ a → a ≤ 1000001 * (w + 1) → Fr vF s0 s → Ok (m148_5 m kind a w s) (fun r t => r = anS kind (vlW s0.1 l) j w a ∧ Fr vF s0 t) := by
  have hLL := RL_LL hR
  obtain ⟨b1, b2, b3, b4, b5, b6, b7, b8, b9, b10⟩ := RL_cnt hR
  intro m
  induction m with
  | zero => intro j w a s _ _ h; omega
  | succ m ih =>
    intro j w a s hw w0 hj a0 a1 hf
    rw [m148_5]
    refine k_v (k_v ?_)
    rw [show s.2.2 1 = s0.2.2 1 by rw [hf.2.2], hf.1 (s0.2.2 1 + 5) 0 (by omega), b6]
    cases j with
    | zero => exact k_q (by omega) (k_r ⟨rfl, hf⟩)
    | succ j =>
      have w1 : w < s0.1 242 6 := by omega
      obtain ⟨k1, v, k2, kk3, k4⟩ := hs w w0 w1
      have hv : inM (vlW s0.1 l w) := by unfold vlW; rw [k2]; exact kk3
      have hi := anP_in (k := kind) hv w0 (by omega) a0 a1
      refine k_p w1 (k_c (p146s hR hf w0 w1 hc hl ⟨k1, v, k2, kk3, k4⟩) ?_)
      rintro r t ⟨rfl, t2⟩
      have nx : ∀ a', a' = anP kind (vlW s0.1 l w) w a → Ok (m148_5 m kind a' (w + 1) t) (fun r t => r = anS kind (vlW s0.1 l) (j + 1) w a ∧ Fr vF s0 t) := by
        intro a' ea
        rw [ea]
        exact ih j (w + 1) _ t (by omega) (by omega) (by omega) hi.1 hi.2 t2
      refine k_i (fun z => k_j (by omega) (by omega) (k_z (by omega) (by omega) (nx _ ?_))) (fun z => k_i (fun y => k_z (by omega) (by omega) (nx _ ?_)) (fun y => k_i (fun x => k_e e289 (k_z (by omega) (by omega) (nx _ ?_))) (fun x => k_e e291 (k_z (by omega) (by omega) (nx _ ?_)))))
      · unfold anP; rw [if_neg (by omega), if_neg (by omega), if_neg (by omega), if_pos z]
      · unfold anP
        rw [if_neg (by omega), if_neg (by omega), if_neg (by omega), if_neg z]
        by_cases c : kind = 4
        · rw [if_pos c, if_pos (Or.inl y)]
        · rw [if_neg c, if_pos (Or.inl y)]
      · rw [x, anP_4]
        by_cases c : a < vlW s0.1 l w
        · rw [if_pos c, if_pos (Or.inr c)]
        · rw [if_neg c, if_neg (show ¬ (w = 0 ∨ a < vlW s0.1 l w) from fun h => h.elim y c)]
      · rw [show kind = 5 by omega, anP_5]
        by_cases c : vlW s0.1 l w < a
        · rw [if_pos c, if_pos (Or.inr c)]
        · rw [if_neg c, if_neg (show ¬ (w = 0 ∨ vlW s0.1 l w < a) from fun h => h.elim y c)]
abbrev wF (a : Nat) (k : Int) : Prop := pFr a k ∨ aJF a k
theorem p276_172 {kind : Int} (k0 : 0 ≤ kind) (k5 : kind ≤ 5) (hR : RL s0) (h53 : s0.1 209 53 = 0) (hc : mFm l s0) (hl : l.length ≤ 1600) {b : Prop} (hs : ∀ w, 0 ≤ w → w < s0.1 242 6 → cSm (ptW s0.1 w) (frW s0.1 w) b l []) : ∀ (m j : Nat) (w a : Int) (s : zS), w = s0.1 242 6 - (j : Int) → 0 ≤ w → j < m → -1000001 * (w + 1) ≤ a → a ≤ 1000001 * (w + 1) → s.2.1 209 107 = a → s.1 209 108 = (if w = 0 then 1 else 0) → FrJ wF s0 s → Ok (m276_172 m kind w s) (fun r t => r = anS kind (vlW s0.1 l) j w a ∧ FrJ wF s0 t) := by
  obtain ⟨b1, b2, b3, b4, b5, b6, b7, b8, b9, b10⟩ := RL_cnt hR
  intro m
  induction m with
  | zero => intro j w a s _ _ h; omega
  | succ m ih =>
    intro j w a s hw w0 hj a0 a1 ha hn hf
    have g : ∀ (x : Nat) (q : Int), ¬ wF x q → s.1 x q = s0.1 x q := fun x q z => (hf.1 x q z).1
    rw [m276_172]
    refine k_e e183 ?_
    rw [g 242 6 (by omega)]
    cases j with
    | zero =>
      refine k_q (by omega) (k_v (k_r ⟨?_, hf⟩))
      rw [ha]
      rfl
    | succ j =>
      have w1 : w < s0.1 242 6 := by omega
      obtain ⟨e1, e2, e3⟩ := vlW_eq (l := l) (f := s0.1) (f' := s.1) (fun a k z0 z1 => g a k (by omega)) w
      obtain ⟨k1, v, k2, kk3, k4⟩ := hs w w0 w1
      have hv : inM (vlW s0.1 l w) := by unfold vlW; rw [k2]; exact kk3
      have hi := anP_in (k := kind) hv w0 (by omega) a0 a1
      have hRs : RL s := RL_fr hR (fun a k z => g a k (by omega)) (fun k => (hf.1 243 k (by omega)).2) (fun q _ => by rw [hf.2])
      refine k_p w1 (k_c (p273 (l := l) (b := b) hRs (by rw [g 209 53 (by omega)]; exact h53) w0 (by rw [g 242 6 (by omega)]; exact w1) ⟨by rw [g 209 100 (by omega)]; exact hc.1, fun i hi => by rw [g 285 _ (by omega)]; exact hc.2 i hi⟩ hl (by rw [e1, e2]; exact ⟨k1, v, k2, kk3, k4⟩)) ?_)
      rintro r t ⟨rfl, t2⟩
      rw [e3]
      refine k_c (p275 (a := a) (by rw [(t2.1 209 107 (by omega)).2]; exact ha) (by rw [(t2.1 209 108 (by omega)).1]; exact hn) k0 k5 hv (by omega) (by omega)) ?_
      rintro _ u ⟨u1, u2, u3⟩
      refine k_z (by omega) (by omega) ?_
      exact ih j (w + 1) _ u (by omega) (by omega) (by omega) hi.1 hi.2 u1 (by rw [u2, if_neg (by omega)]) (frj_trans hf (frj_trans (frj_mono (fun a k z => Or.inl z) t2) (frj_mono (fun a k z => Or.inr z) u3)))
end
theorem R_ask {n : Nat} {s t : zS} (h : R n s) (hA : ∀ a k, ¬ (Scr (s.2.2 1) a k ∨ (a = 1 ∧ (k = 2 ∨ k = 5 ∨ k = 6)) ∨ (a = 209 ∧ (k = 1 ∨ k = 7 ∨ k = 8))) → t.1 a k = s.1 a k ∧ t.2.1 a k = s.2.1 a k) (h2 : ∀ q, q = 1 ∨ q = 2 ∨ q = 3 → t.2.2 q = s.2.2 q) (hT : rTape t.1) : R (n + 1) t := by
  have hLL := R_LL h
  generalize hL : s.2.2 1 = L at hLL hA
  have g : ∀ a k, ¬ (Scr L a k ∨ (a = 1 ∧ (k = 2 ∨ k = 5 ∨ k = 6)) ∨ (a = 209 ∧ (k = 1 ∨ k = 7 ∨ k = 8))) → t.1 a k = s.1 a k := fun a k q => (hA a k q).1
  have gj : ∀ a k, ¬ (Scr L a k ∨ (a = 1 ∧ (k = 2 ∨ k = 5 ∨ k = 6)) ∨ (a = 209 ∧ (k = 1 ∨ k = 7 ∨ k = 8))) → t.2.1 a k = s.2.1 a k := fun a k q => (hA a k q).2
  unfold Scr at g gj
  have hc : rCount s.1 L := by rw [← hL]; exact R_cnt h
  refine R_up (n := n) ⟨?_, hT, ?_, ?_, ?_, ?_, ?_, ?_, ?_, ?_, ?_⟩
  · obtain ⟨a, b⟩ := R_refs h
    unfold rRefs
    rw [h2 1 (by omega), h2 2 (by omega), h2 3 (by omega)]
    exact ⟨a, b⟩
  · intro k k1 k2
    rw [g 41 k (by omega), g 211 k (by omega)]
    exact R_refu h k k1 k2
  · refine ⟨fun b b1 b2 => ?_, fun e he i hi => ?_⟩
    · rw [g 4 b (by omega)]; exact (R_words h).1 b b1 b2
    · have := wTab_at e he
      rw [g e.1 _ (by omega)]; exact (R_words h).2 e he i hi
  · have := R_seed h
    unfold rSeed at this ⊢
    rw [g 0 18 (by omega), gj 209 76 (by omega)]; exact this
  · obtain ⟨q1, q2, q3, q4⟩ := R_img h
    unfold rImg
    rw [g 0 15 (by omega), g 209 110 (by omega)]
    refine ⟨q1, q2, q3, fun k k1 k2 => ?_⟩
    rw [g 42 k (by omega), g 288 k (by omega)]; exact q4 k k1 k2
  · obtain ⟨q1, q2, q3, q4⟩ := R_rows h
    unfold rRows
    rw [g 24 0 (by omega), g 209 67 (by omega), g 242 4 (by omega)]
    refine ⟨q1, q2, q3, fun k k1 k2 => ?_⟩
    rw [g 25 k (by omega), g 26 k (by omega), g 260 _ (by omega), g 260 _ (by omega)]; exact q4 k k1 k2
  · have := R_land h
    rw [hL] at this
    rw [h2 1 (by omega), hL]
    exact rLand_eq (fun a k q => g a k (by omega)) (fun k => gj 243 k (by omega)) this
  · exact rNow_eq hc (fun k => g 242 k (by omega)) (fun a k q1 q2 => g a k (by omega)) (fun k => g 254 k (by omega)) (R_now h)
  · exact rPast_eq hc (fun k => g 242 k (by omega)) (g 0 16 (by omega)) (g 0 17 (by omega)) (g 209 74 (by omega)) (g 209 75 (by omega)) (fun a k q1 q2 => g a k (by omega)) (fun k => g 262 k (by omega)) (R_past h)
  · have := R_most h
    unfold rMost at this ⊢
    rw [g 44 1 (by omega), g 46 1 (by omega), g 48 1 (by omega), g 67 1 (by omega), g 69 1 (by omega), g 71 1 (by omega)]
    exact this
/-- what a question that is read is -/
theorem qA_r {g : Int → Int} {e : Int} {q : Int × List Int} (ht : tOk g e) (h : qA g e = .inr q) : 0 ≤ q.1 ∧ q.1 ≤ 5 ∧ q.2.length ≤ 1600 ∧ ∀ pt fr : Int → Int, (∀ q, 0 ≤ q → q ≤ 8 → inM (pt q)) → (∀ x, inM (fr x)) → cSm pt fr (q.1 ≤ 2) q.2 [] := by
  have hp := lxS_p (g := g) (k := 4) (p := 0) ht.1
  unfold qA at h
  generalize lxS g e 4 0 = F0 at *
  have hW0 : lxW g e F0 (-1) := ⟨hp.1, hp.2.1, by have := hp.1; omega, hp.2.2.2⟩
  by_cases z : qQ g e F0 (-1) = -1
  · rw [if_pos z] at h; exact absurd h (by simp)
  · rw [if_neg z] at h
    obtain ⟨k0, k5, kk⟩ := (qQ_in (g := g) (e := e) (F := F0) (E := -1)).resolve_left z
    have gx := nx_any hW0 (tkK_1 kk).1
    generalize hlv : (if 2 < qQ g e F0 (-1) then (3 : Int) else 0) = lv at h
    have lv0 : (lv = 3 ∧ 2 < qQ g e F0 (-1)) ∨ (lv = 0 ∧ ¬ 2 < qQ g e F0 (-1)) := by
      rw [← hlv]
      by_cases c : 2 < qQ g e F0 (-1)
      · rw [if_pos c]; exact Or.inl ⟨rfl, c⟩
      · rw [if_neg c]; exact Or.inr ⟨rfl, c⟩
    rcases hy : qM g e true 40 lv 0 (nxF g e F0) (nxE g e F0 (-1)) with y | y
    · rw [hy] at h; exact absurd h (by simp)
    · rw [hy] at h
      have hl := qM_len 40 _ _ _ _ _ hy gx.1
      have hl2 := hl.2.1
      have hye := hl.1.2.1
      have h : (if y.1 < e then (.inl (1, y.1) : (Int × Int) ⊕ (Int × List Int)) else .inr (qQ g e F0 (-1), y.2.2)) = .inr q := h
      by_cases c : y.1 < e
      · rw [if_pos c] at h; exact absurd h (by simp)
      · rw [if_neg c] at h
        cases h
        refine ⟨k0, k5, ?_, fun pt fr hpt hfr => ?_⟩
        · show y.2.2.length ≤ 1600
          have := ht.2.1
          have := gx.1.1
          omega
        · obtain ⟨a1, v, a2, a3, a4⟩ := qM_sem (pt := pt) (fr := fr) hpt hfr 40 lv 0 _ _ _ (by omega) (by omega) (by omega) (by omega) hy gx.1 [] (fun v hv => absurd hv (List.not_mem_nil)) (by show (0 : Int) + _ ≤ 63; omega)
          exact ⟨a1, v, a2, a3, fun z => a4 (by have z : qQ g e F0 (-1) ≤ 2 := z; omega)⟩
theorem t131 : T131 := by
  intro n s hR hn
  have hLL := R_LL hR
  obtain ⟨tp1, tp2, tp3, tp4, tp5, tp6⟩ := R_tape hR
  obtain ⟨wd1, wd2⟩ := R_words hR
  have ht : tOk (s.1 2) (s.1 1 2) := ⟨tp2, tp3, fun k k0 k1 => (tp4 k k0 k1).2⟩
  have hcT : cTp (s.1 2) (s.1 1 2) s := ⟨rfl, fun _ _ _ => rfl, wd1⟩
  obtain ⟨b1, b2, b3, b4, b5, b6, b7, b8, b9, b10⟩ := R_cnt hR
  unfold Two m131
  refine k_c (p25 ht hcT) ?_
  intro r t hr
  refine k_v ?_
  -- the reference reads
  have ref : ∀ (u : zS) (P : Int → zS → Prop), FrK (fun a k => askF a k ∨ vF a k ∨ (a = 1 ∧ k = 2)) s u → (∀ k y, mAsk (qA (s.1 2) (s.1 1 2)) k y → Fr arF u y → y.1 209 1 = 0 → Ok (m276_117 k y) P) → Ok (m276 u) P := by
    intro u P fu hP
    refine p276a ht (by rw [fu.1 209 1 (by omega)]; exact tp1.symm) (fun k k0 k1 => by rw [fu.1 210 k (by omega)]; exact (tp4 k k0 k1).1.symm) (fun q hq i hi => ?_) hP
    have := wTab_at q hq
    rw [fu.1 q.1 _ (by omega)]
    exact wd2 q hq i hi
  -- and R holds again
  have again : ∀ (u y : zS), FrK (fun a k => askF a k ∨ vF a k ∨ (a = 1 ∧ k = 2)) s u → u.1 1 2 = 0 → y.1 209 1 = 0 → u.1 1 5 = y.1 209 7 → u.1 1 6 = y.1 209 8 → FrJ (fun a k => arF a k ∨ wF a k ∨ (a = 209 ∧ (k = 7 ∨ k = 8))) u y → R (n + 1) y := by
    intro u y fu u2 y1 y7 y8 fy
    refine R_ask hR (fun a k z => ?_) (fun q hq => ?_) ⟨?_, ?_, ?_, fun k k0 k1 => ?_, ?_, ?_⟩
    · unfold Scr at z
      have := fy.1 a k (by omega)
      rw [this.1, this.2, fu.1 a k (by omega), fu.2.1]
      exact ⟨rfl, rfl⟩
    · rw [fy.2, fu.2.2 q (by omega)]
    · rw [(fy.1 1 2 (by omega)).1, u2, y1]
    · rw [(fy.1 1 2 (by omega)).1, u2]; omega
    · rw [(fy.1 1 2 (by omega)).1, u2]; omega
    · rw [(fy.1 2 k (by omega)).1, (fy.1 210 k (by omega)).1, fu.1 2 k (by omega), fu.1 210 k (by omega)]
      exact tp4 k k0 k1
    · rw [(fy.1 1 5 (by omega)).1]; exact y7
    · rw [(fy.1 1 6 (by omega)).1]; exact y8
  rcases hq : qA (s.1 2) (s.1 1 2) with q | q
  · -- a fault
    rw [hq] at hr
    obtain ⟨r1, r5, r6, rf⟩ := hr
    have fu : FrK (fun a k => askF a k ∨ vF a k ∨ (a = 1 ∧ k = 2)) s (sI t 1 2 0) := frk_trans (frk_mono (fun a k z => Or.inl z) rf) (frk_of (fr_I (Or.inr (Or.inr ⟨rfl, rfl⟩))))
    refine k_p r1 (k_r (ref _ _ fu (fun k y hy fy y1 => ?_)))
    rw [hq] at hy
    obtain ⟨nz, y5, y6⟩ := hy
    unfold m276_117
    refine k_v (k_v (k_v (k_v (k_v ?_))))
    rw [sI_k (by omega), sI_k (by omega), sI_k (by omega), y5, y6]
    refine k_q nz (k_r ⟨rfl, again _ _ fu sI_e ?_ ?_ ?_ (frj_trans (frj_of (fr_mono (fun a k z => Or.inl z) fy)) (frj_trans (frj_I (by omega)) (frj_I (by omega))))⟩)
    · rw [sI_k (by omega), sI_k (by omega)]; exact y1
    · rw [sI_k (by omega), r5, sI_k (by omega), sI_e]
    · rw [sI_k (by omega), r6, sI_e]
  · -- an answer
    rw [hq] at hr
    obtain ⟨r1, r5, r6, rc, rf⟩ := hr
    obtain ⟨k0, k5, hl, hsm⟩ := qA_r ht hq
    have fu : FrK (fun a k => askF a k ∨ vF a k ∨ (a = 1 ∧ k = 2)) s (sI t 1 2 0) := frk_trans (frk_mono (fun a k z => Or.inl z) rf) (frk_of (fr_I (Or.inr (Or.inr ⟨rfl, rfl⟩))))
    have u12 : (sI t 1 2 0).1 1 2 = 0 := sI_e
    have u15 : (sI t 1 2 0).1 1 5 = 0 := by rw [sI_k (by omega)]; exact r5
    have u16 : (sI t 1 2 0).1 1 6 = -1 := by rw [sI_k (by omega)]; exact r6
    have uc : cFm 5 q.2 (sI t 1 2 0) := ⟨by rw [sI_a (by omega)]; exact rc.1, fun i hi => by rw [sI_a (by omega)]; exact rc.2 i hi⟩
    generalize sI t 1 2 0 = u at *
    have uR : RL u := RL_fr (RL_of hR) (fun a k z => fu.1 a k (by omega)) (fun k => by rw [fu.2.1]) (fun q hq => fu.2.2 q (by omega))
    have u6 : u.1 242 6 = s.1 242 6 := fu.1 242 6 (by omega)
    have sem : ∀ w, 0 ≤ w → w < u.1 242 6 → cSm (ptW u.1 w) (frW u.1 w) (q.1 ≤ 2) q.2 [] := fun w w0 w1 => hsm _ _ (ptW_in uR w0 w1) (frW_in uR w0 w1)
    -- the reference's answer
    have refA : ∀ v : zS, Fr vF u v → Ok (m276 v) (fun r' s2 => anS q.1 (vlW u.1 q.2) (u.1 242 6).toNat 0 (if q.1 < 2 then -1 else 0) = r' ∧ R (n + 1) s2) := by
      intro v fv
      have fuv : FrK (fun a k => askF a k ∨ vF a k ∨ (a = 1 ∧ k = 2)) s v := frk_trans fu (frk_of (fr_mono (fun a k z => Or.inr (Or.inl z)) fv))
      refine ref v _ fuv (fun k y hy fy y1 => ?_)
      rw [hq] at hy
      obtain ⟨ek, y5, y6, yc, y53⟩ := hy
      unfold m276_117
      refine k_v (k_v (k_v (k_v (k_v ?_))))
      rw [sI_k (by omega), sI_k (by omega), sI_k (by omega), y5, y6]
      have fy2 : FrJ (fun a k => arF a k ∨ wF a k ∨ (a = 209 ∧ (k = 7 ∨ k = 8))) v (sI (sI y 209 7 0) 209 8 (-1)) := frj_trans (frj_of (fr_mono (fun a k z => Or.inl z) fy)) (frj_trans (frj_I (by omega)) (frj_I (by omega)))
      have z1 : (sI (sI y 209 7 0) 209 8 (-1)).1 209 1 = 0 := by rw [sI_k (by omega), sI_k (by omega)]; exact y1
      have z7 : (sI (sI y 209 7 0) 209 8 (-1)).1 209 7 = 0 := by rw [sI_k (by omega), sI_e]
      have z8 : (sI (sI y 209 7 0) 209 8 (-1)).1 209 8 = -1 := by rw [sI_e]
      have zc : mFm q.2 (sI (sI y 209 7 0) 209 8 (-1)) := ⟨by rw [sI_k (by omega), sI_k (by omega)]; exact yc.1, fun i hi => by rw [sI_a (by omega), sI_a (by omega)]; exact yc.2 i hi⟩
      generalize sI (sI y 209 7 0) 209 8 (-1) = z at *
      have main : ∀ a0, a0 = (if q.1 < 2 then (-1 : Int) else 0) → Ok (m276_157 k a0 z) (fun r' s2 => anS q.1 (vlW u.1 q.2) (u.1 242 6).toNat 0 (if q.1 < 2 then -1 else 0) = r' ∧ R (n + 1) s2) := by
        intro a0 ea
        rw [← ea]
        have ha0 : a0 = -1 ∨ a0 = 0 := by rw [ea]; split <;> omega
        unfold m276_157
        refine k_v (k_v (k_v ?_))
        have fx : FrJ (fun a k => arF a k ∨ wF a k ∨ (a = 209 ∧ (k = 7 ∨ k = 8))) v (sI (sI (sJ z 209 107 a0) 209 108 1) 209 53 0) := frj_trans fy2 (frj_trans (frj_J (by omega)) (frj_trans (frj_I (by omega)) (frj_I (by omega))))
        have x107 : (sI (sI (sJ z 209 107 a0) 209 108 1) 209 53 0).2.1 209 107 = a0 := by rw [sI_21, sI_21, sJ_e]
        have x108 : (sI (sI (sJ z 209 107 a0) 209 108 1) 209 53 0).1 209 108 = 1 := by rw [sI_k (by omega), sI_e]
        have x53 : (sI (sI (sJ z 209 107 a0) 209 108 1) 209 53 0).1 209 53 = 0 := by rw [sI_e]
        have xg : ∀ a k, ¬ (a = 209 ∧ (k = 53 ∨ k = 108)) → (sI (sI (sJ z 209 107 a0) 209 108 1) 209 53 0).1 a k = z.1 a k := fun a k nn => by
          rw [sI_if, if_neg (by omega), sI_if, if_neg (by omega), sJ_1]
        generalize sI (sI (sJ z 209 107 a0) 209 108 1) 209 53 0 = x at *
        have xR : RL x := RL_fr uR (fun a k w => by rw [(fx.1 a k (by omega)).1, fv.1 a k (by omega)]) (fun k => by rw [(fx.1 243 k (by omega)).2, fv.2.1]) (fun q _ => by rw [fx.2, fv.2.2])
        have xf : ∀ a k, 242 ≤ a → a ≤ 254 → x.1 a k = u.1 a k := fun a k w0 w1 => by rw [(fx.1 a k (by omega)).1, fv.1 a k (by omega)]
        have x6 : x.1 242 6 = u.1 242 6 := xf 242 6 (by omega) (by omega)
        have := p276_172 (s0 := x) (l := q.2) (kind := q.1) (b := q.1 ≤ 2) k0 k5 xR x53 ⟨by rw [xg 209 100 (by omega)]; exact zc.1, fun i hi => by rw [xg 285 _ (by omega)]; exact zc.2 i hi⟩ hl (fun w w0 w1 => by
          obtain ⟨e1, e2, _⟩ := vlW_eq (l := q.2) (f := u.1) (f' := x.1) xf w
          rw [e1, e2]
          exact sem w w0 (by rw [← x6]; exact w1)) zFu (u.1 242 6).toNat 0 a0 x (by omega) (by omega) (by unfold zFu; omega) (by omega) (by omega) x107 (by rw [x108, if_pos rfl]) frj_refl
        rw [ek]
        refine k_m this ?_
        rintro r' w ⟨w1, w2⟩
        refine ⟨?_, again v w fuv ?_ ?_ ?_ ?_ (frj_trans fx (frj_mono (fun a k z => Or.inr (Or.inl z)) w2))⟩
        · rw [w1]
          exact anS_congr _ _ _ (fun i i0 i1 => (vlW_eq (l := q.2) (f := u.1) (f' := x.1) xf i).2.2.symm)
        · rw [fv.1 1 2 (by omega)]; exact u12
        · rw [(w2.1 209 1 (by omega)).1, xg 209 1 (by omega)]; exact z1
        · rw [fv.1 1 5 (by omega), u15, (w2.1 209 7 (by omega)).1, xg 209 7 (by omega), z7]
        · rw [fv.1 1 6 (by omega), u16, (w2.1 209 8 (by omega)).1, xg 209 8 (by omega), z8]
      refine k_p rfl (k_i (fun w => main (-1) (by rw [if_pos (by omega)])) (fun w => main 0 (by rw [if_neg (by omega)])))
    rw [r1]
    refine k_q (by omega) (k_i (fun z => ?_) (fun z => ?_))
    · unfold m148
      refine k_c (p148_5 (s0 := u) (l := q.2) (b := q.1 ≤ 2) (by omega) (by omega) uR uc hl sem zFu (u.1 242 6).toNat 0 0 u (by omega) (by omega) (by unfold zFu; omega) (by omega) (by omega) fr_refl) ?_
      rintro r' v ⟨rfl, v2⟩
      refine k_r ?_
      have := refA v v2
      rw [if_neg (by omega)] at this
      exact this
    · unfold m147
      refine k_c (p147_10 (s0 := u) (l := q.2) (kind := q.1) uR uc hl (fun w w0 w1 => by
        obtain ⟨a1, v, a2, a3, a4⟩ := sem w w0 w1
        exact ⟨a1, v, a2, a3, fun _ => a4 (by omega)⟩) zFu (u.1 242 6).toNat 0 (-1) (-1) 0 u (by omega) (by omega) (by unfold zFu; omega) (by omega) (by omega) fr_refl) ?_
      rintro r' v ⟨rfl, v2⟩
      refine k_r ?_
      have := refA v v2
      by_cases c0 : q.1 = 0
      · rw [if_pos c0]
        rw [if_pos (by omega), c0] at this
        exact this
      · rw [if_neg c0]
        by_cases c1 : q.1 = 1
        · rw [if_pos c1]
          rw [if_pos (by omega), c1] at this
          exact this
        · rw [if_neg c1]
          rw [if_neg (by omega), show q.1 = 2 by omega] at this
          exact this
