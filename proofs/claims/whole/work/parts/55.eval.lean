/-! ===== formulas: the reference's values, the class's ===== -/
section
variable {s s0 : zS} {v r a b h : Int} {st : List Int}
def pPush (s : zS) (v : Int) : zS := sI (sJ s 287 (s.1 209 106) v) 209 106 (s.1 209 106 + 1)
/-- the reference's pile and its height -/
abbrev pFr (a : Nat) (k : Int) : Prop := (a = 209 ∧ k = 106) ∨ a = 287
theorem e269 (h1 : 0 ≤ s.1 209 106) (h2 : s.1 209 106 < 1700) : m269 v s = some (0, pPush s v) := by
  unfold m269
  rw [oV_eq, oX_pos h1 (by omega), oV_eq, oV_eq, show (sJ s 287 (s.1 209 106) v).1 209 106 = s.1 209 106 from rfl, oZ_pos (by omega) (by omega), oV_eq]
  rfl
theorem e267 : m267 v s = some (clip v, s) := by
  unfold m267 clip
  simp only [oV, zcmp_gt, zcmp_lt]
  repeat' split
  all_goals rfl
theorem e268 (ha : inM a) (hb : inM b) : m268 a b s = some (fdv a b, s) := by
  have h1 : (a.tdiv b).natAbs ≤ a.natAbs := Int.natAbs_tdiv_le_natAbs a b
  unfold m268 fdv
  simp only [oV, zcmp_eq, zcmp_lt]
  by_cases c : b = 0
  · rw [if_pos c, if_pos c]
  rw [if_neg c, if_neg c, oN_pos c, oJ_pos (by omega) (by omega), oN_pos c]
  by_cases d : a.tmod b = 0
  · rw [if_pos d, if_neg (by simp [d])]
  rw [if_neg d]
  unfold m268_32 m268_43
  simp only [oV, zcmp_lt]
  by_cases c1 : a < 0 <;> by_cases c2 : b < 0
  · rw [if_pos c1, if_pos c2, if_pos trivial, if_neg (by simp [c1, c2])]
  · rw [if_pos c1, if_neg c2, if_neg (by decide), oJ_pos (by omega) (by omega), if_pos (by simp [c1, c2, d])]
  · rw [if_neg c1, if_pos c2, if_neg (by decide), oJ_pos (by omega) (by omega), if_pos (by simp [c1, c2, d])]
  · rw [if_neg c1, if_neg c2, if_pos trivial, if_neg (by simp [c1, c2])]
theorem e270 (hh : s.1 209 106 = h) (h1 : 2 ≤ h) (h2 : h ≤ 1700) (ea : s.2.1 287 (h - 2) = a) (eb : s.2.1 287 (h - 1) = b) (ha : inM a) (hb : inM b) (r1 : 1 ≤ r) (r2 : r ≤ 11) : m270 r s = some (0, pPush (sI s 209 106 (h - 2)) (jn r a b)) := by
  have hm := mul_in ha hb
  have g : ∀ v, m269 v (sI s 209 106 (h - 2)) = some (0, pPush (sI s 209 106 (h - 2)) v) := fun v => e269 (by rw [sI_e]; omega) (by rw [sI_e]; omega)
  unfold m270
  simp only [oV_eq, hh]
  rw [oZ_pos (by omega) (by omega), oX_pos (by omega) (by omega), oZ_pos (by omega) (by omega), oX_pos (by omega) (by omega), oZ_pos (by omega) (by omega), ea, eb]
  have hr : r = 1 ∨ r = 2 ∨ r = 3 ∨ r = 4 ∨ r = 5 ∨ r = 6 ∨ r = 7 ∨ r = 8 ∨ r = 9 ∨ r = 10 ∨ r = 11 := by omega
  rcases hr with rfl | rfl | rfl | rfl | rfl | rfl | rfl | rfl | rfl | rfl | rfl
  · simp only [Int.reduceEq, ↓reduceIte, jn]
    rw [oJ_pos (by omega) (by omega), e267, oC_some, g, oC_some]
  · simp only [Int.reduceEq, ↓reduceIte, jn]
    rw [oJ_pos (by omega) (by omega), e267, oC_some, g, oC_some]
  · simp only [Int.reduceEq, ↓reduceIte, jn]
    rw [oJ_pos (by omega) (by omega), e267, oC_some, g, oC_some]
  · simp only [Int.reduceEq, ↓reduceIte, jn]
    rw [e268 ha hb, oC_some, g, oC_some]
  all_goals simp only [Int.reduceEq, ↓reduceIte, jn, zcmp_lt, zcmp_gt, zcmp_eq]
  · split <;> rw [g, oC_some]
  · split <;> rw [g, oC_some]
  · split <;> rw [g, oC_some]
  · split <;> rw [g, oC_some]
  · split <;> rw [g, oC_some]
  · rw [oJ_pos (by omega) (by omega), g, oC_some]
  · rw [oJ_pos (by omega) (by omega)]
    split <;> rw [g, oC_some]
theorem pp_len : (pPush s v).1 209 106 = s.1 209 106 + 1 := sI_e
theorem pp_fr : FrJ pFr s (pPush s v) := frj_trans (frj_J (Or.inr rfl)) (frj_I (Or.inl ⟨rfl, rfl⟩))
theorem pp_stk (hl : s.1 209 106 = (st.length : Int)) (hs : stk (fun j => s.2.1 287 j) st) : stk (fun j => (pPush s v).2.1 287 j) (v :: st) := by
  refine ⟨?_, stk_ext hs (fun j q1 q2 => ?_)⟩
  · show (sJ s 287 (s.1 209 106) v).2.1 287 (st.length : Int) = v
    rw [hl]; exact sJ_e
  · show (sJ s 287 (s.1 209 106) v).2.1 287 j = _
    rw [sJ_k (by omega)]
/-- the reference's pile as a list -/
def pile (s0 s : zS) (st : List Int) : Prop := FrJ pFr s0 s ∧ s.1 209 106 = (st.length : Int) ∧ stk (fun j => s.2.1 287 j) st
theorem pile_push (h : pile s0 s st) : pile s0 (pPush s v) (v :: st) := ⟨frj_trans h.1 pp_fr, by rw [pp_len, h.2.1]; simp only [List.length_cons]; omega, pp_stk h.2.1 h.2.2⟩
theorem pile_op (h : pile s0 s st) (n : 2 ≤ st.length) : pile s0 (pPush (sI s 209 106 ((st.length : Int) - 2)) v) (v :: st.tail.tail) := by
  have h' : pile s0 (sI s 209 106 ((st.length : Int) - 2)) st.tail.tail :=
    ⟨frj_trans h.1 (frj_I (Or.inl ⟨rfl, rfl⟩)), by rw [sI_e, len_tail2 n], stk_tail (stk_tail h.2.2)⟩
  exact pile_push h'
end
/-- parts of a land's SUM: habit, tight, walked, will, day -/
def lPt (h t k w d r : Int) : Int := if r = 0 then h else if r = 1 then t else if r = 2 then k else if r = 3 then w else d
/-- the value of the reference's codes of a land -/
def fVal (f : Nat → Int → Int) (w dflt : Int) (pt : Int → Int) : Int := if f 249 (2 + w) = -1 then dflt else (cRl pt (fun _ => -1) (fun i => f 251 (1600 + (f 249 (2 + w) + i))) (f 250 (2 + w) - f 249 (2 + w)).toNat).headD 0
def mCode (f : Nat → Int → Int) (w : Int) : Prop := f 249 (2 + w) = -1 ∨ (0 ≤ f 249 (2 + w) ∧ f 249 (2 + w) ≤ f 250 (2 + w) ∧ f 250 (2 + w) ≤ 1600 ∧ lWf (fun i => f 251 (1600 + (f 249 (2 + w) + i))) (f 250 (2 + w) - f 249 (2 + w)).toNat)
theorem lWf_c {c : Int → Int} {N : Nat} (hw : lWf c N) {i : Nat} (hi : i < N) : (1000 ≤ c (i : Int) ∧ c (i : Int) ≤ 10999) ∨ (40 ≤ c (i : Int) ∧ c (i : Int) ≤ 44) ∨ (1 ≤ c (i : Int) ∧ c (i : Int) ≤ 6) := by
  rcases hw.2 i hi with h | h
  · rcases h.1 with q | q
    · exact Or.inl q
    · exact Or.inr (Or.inl q)
  · exact Or.inr (Or.inr ⟨h.1, h.2.1⟩)
theorem cRl_congr {c pt pt' fr fr' : Int → Int} {N : Nat} (hw : lWf c N) (hp : ∀ q, 0 ≤ q → q ≤ 4 → pt q = pt' q) : ∀ i : Nat, i ≤ N → cRl pt fr c i = cRl pt' fr' c i := by
  intro i
  induction i with
  | zero => intro _; rfl
  | succ i ih =>
    intro hi
    show cStep pt fr (c (i : Int)) (cRl pt fr c i) = cStep pt' fr' (c (i : Int)) (cRl pt' fr' c i)
    rw [ih (by omega)]
    rcases lWf_c hw (i := i) (by omega) with h | h | h
    · rw [cs_num h.1, cs_num h.1]
    · rw [cs_part h.1 (by omega), cs_part h.1 (by omega), hp _ (by omega) (by omega)]
    · rw [cs_op h.1 (by omega), cs_op h.1 (by omega)]
theorem lWf_run {c pt fr : Int → Int} {N : Nat} (hw : lWf c N) (hp : ∀ q, 0 ≤ q → q ≤ 4 → inM (pt q)) : ∀ i : Nat, i ≤ N → ((cRl pt fr c i).length : Int) = cDep c i ∧ ∀ v, v ∈ cRl pt fr c i → inM v := by
  intro i
  induction i with
  | zero => intro _; exact ⟨rfl, fun v h => by simp [cRl] at h⟩
  | succ i ih =>
    intro hi
    obtain ⟨h1, h2⟩ := ih (by omega)
    have hd : cDep c (i + 1) = cDep c i + (if 13 ≤ c (i : Int) ∧ c (i : Int) ≠ 60 then 1 else if c (i : Int) = 60 ∨ c (i : Int) = 12 then 0 else -1) := rfl
    have hr : cRl pt fr c (i + 1) = cStep pt fr (c (i : Int)) (cRl pt fr c i) := rfl
    rw [hd, hr]
    rcases hw.2 i (by omega) with h | h
    · rcases h.1 with q | q
      · rw [cs_num q.1, if_pos (by omega)]
        refine ⟨by simp only [List.length_cons]; omega, fun v hv => ?_⟩
        rcases List.mem_cons.mp hv with e | e
        · rw [e]; omega
        · exact h2 v e
      · rw [cs_part q.1 (by omega), if_pos (by omega)]
        refine ⟨by simp only [List.length_cons]; omega, fun v hv => ?_⟩
        rcases List.mem_cons.mp hv with e | e
        · rw [e]; exact hp _ (by omega) (by omega)
        · exact h2 v e
    · rw [cs_op h.1 (by omega), if_neg (by omega), if_neg (by omega)]
      have hn : 2 ≤ (cRl pt fr c i).length := by omega
      refine ⟨by simp only [List.length_cons, List.length_tail]; omega, fun v hv => ?_⟩
      rcases List.mem_cons.mp hv with e | e
      · rw [e]
        exact jn_in h.1 (by omega) (h2 _ (List.mem_of_mem_tail (headD_mem (by simp only [List.length_tail]; omega)))) (h2 _ (headD_mem (by omega)))
      · exact h2 v (List.mem_of_mem_tail (List.mem_of_mem_tail e))
theorem lWf_gd {c pt fr : Int → Int} {N : Nat} (hw : lWf c N) (hp : ∀ q, 0 ≤ q → q ≤ 4 → inM (pt q)) {i : Nat} (hi : i < N) : gd (c (i : Int)) (cRl pt fr c i) := by
  obtain ⟨h1, h2⟩ := lWf_run (fr := fr) hw hp i (by omega)
  rcases hw.2 i hi with h | h
  · rcases h.1 with q | q
    · exact ⟨h2, by omega, Or.inl q⟩
    · exact ⟨h2, by omega, Or.inr (Or.inl (by omega))⟩
  · exact ⟨h2, by omega, Or.inr (Or.inr (Or.inr (Or.inr (Or.inr ⟨h.1, by omega, by omega, fun q => by omega⟩))))⟩
theorem lWf_end {c pt fr : Int → Int} {N : Nat} (hw : lWf c N) (hp : ∀ q, 0 ≤ q → q ≤ 4 → inM (pt q)) : (cRl pt fr c N).length = 1 := by
  obtain ⟨h1, _⟩ := lWf_run (fr := fr) hw hp N (by omega)
  have := hw.1
  omega
/-- the reference's loop over a land's codes -/
theorem p197 {w F : Int} {N : Nat} {s0 : zS} {c pt : Int → Int} (hw0 : 0 ≤ w) (hw1 : w ≤ 1) (hE : s0.1 250 (2 + w) = F + (N : Int)) (hF : 0 ≤ F) (hFN : F + (N : Int) ≤ 1600)
    (hc : ∀ i : Nat, i < N → s0.1 251 (1600 + (F + (i : Int))) = c (i : Int)) (hin : s0.1 209 53 = 1)
    (hp0 : pt 0 = s0.1 209 58) (hp1 : pt 1 = s0.1 209 59) (hp2 : pt 2 = s0.1 209 60) (hp3 : pt 3 = s0.1 209 61) (hp4 : pt 4 = s0.1 254 0)
    (hp : ∀ q, 0 ≤ q → q ≤ 4 → inM (pt q)) (hw : lWf c N) :
    ∀ (n i : Nat) (s : zS), i ≤ N → N - i < n → pile s0 s (cRl pt (fun _ => -1) c i) →
      Ok (m197_34 n w (F + (i : Int)) s) (fun r t => r = (cRl pt (fun _ => -1) c N).headD 0 ∧ FrJ pFr s0 t) := by
  intro n
  induction n with
  | zero => intro i s h1 h2; omega
  | succ n ih =>
    intro i s h1 h2 hs
    have g : ∀ (a : Nat) (k : Int), a ≠ 287 → ¬ (a = 209 ∧ k = 106) → s.1 a k = s0.1 a k := fun a k n1 n2 => (hs.1.1 a k (by omega)).1
    rw [m197_34]
    refine k_z (by omega) (by omega) (k_x (by omega) (by omega) (k_v ?_))
    rw [g 250 _ (by omega) (by omega), hE]
    by_cases hi : i < N
    · refine k_p (by omega) (k_z (by omega) (by omega) (k_x (by omega) (by omega) (k_v ?_)))
      rw [g 251 _ (by omega) (by omega), hc i hi]
      have hg := lWf_gd (fr := fun _ => -1) hw hp hi
      have hlen := hg.2.1
      have nx : ∀ t, pile s0 t (cStep pt (fun _ => -1) (c (i : Int)) (cRl pt (fun _ => -1) c i)) → Ok (m197_34 n w (F + (i : Int) + 1) t) (fun r t => r = (cRl pt (fun _ => -1) c N).headD 0 ∧ FrJ pFr s0 t) := by
        intro t ht
        have := ih (i + 1) t (by omega) (by omega) ht
        rw [show F + ((i + 1 : Nat) : Int) = F + (i : Int) + 1 by omega] at this
        exact this
      have hl := hs.2.1
      rcases lWf_c hw hi with h | h | h
      · refine k_q (by omega) (k_z (by omega) (by omega) (k_e (e269 (by omega) (by omega)) (k_z (by omega) (by omega) ?_)))
        refine nx _ ?_
        rw [cs_num h.1]
        exact pile_push hs
      · refine k_p (by omega) (k_q (by omega) (k_z (by omega) (by omega) ?_))
        have e : m271 (c (i : Int) - 40) 0 s = some (pt (c (i : Int) - 40), s) := by
          have gi : s.1 209 53 = 1 := by rw [g 209 53 (by omega) (by omega)]; exact hin
          have hq : c (i : Int) - 40 = 0 ∨ c (i : Int) - 40 = 1 ∨ c (i : Int) - 40 = 2 ∨ c (i : Int) - 40 = 3 ∨ c (i : Int) - 40 = 4 := by omega
          rcases hq with q | q | q | q | q <;> rw [q] <;> unfold m271 <;> simp only [Int.reduceEq, ↓reduceIte, oV_eq, gi]
          · rw [g 209 58 (by omega) (by omega), hp0]
          · rw [g 209 59 (by omega) (by omega), hp1]
          · rw [g 209 60 (by omega) (by omega), hp2]
          · rw [g 209 61 (by omega) (by omega), hp3]
          · rw [oX_pos (by omega) (by omega), g 254 0 (by omega) (by omega), hp4]
        refine k_e e (k_e (e269 (by omega) (by omega)) (k_z (by omega) (by omega) ?_))
        refine nx _ ?_
        rw [cs_part h.1 (by omega)]
        exact pile_push hs
      · refine k_p (by omega) (k_p (by omega) ?_)
        have hn : 2 ≤ (cRl pt (fun _ => -1) c i).length := by
          rcases hg.2.2 with q | q | q | q | q | q <;> omega
        refine k_e (e270 hl (by omega) (by omega) (stk_snd hs.2.2 hn) (stk_top hs.2.2 (by omega)) (gd_snd hg hn) (gd_top hg (by omega)) h.1 (by omega)) (k_z (by omega) (by omega) ?_)
        refine nx _ ?_
        rw [cs_op h.1 (by omega)]
        exact pile_op hs hn
    · have e : i = N := by omega
      subst e
      refine k_q (by omega) (k_x (by omega) (by omega) (k_v (k_r ⟨?_, hs.1⟩)))
      have h1 := lWf_end (fr := fun _ => -1) hw hp
      have h2 := stk_top hs.2.2 (by omega)
      rw [h1] at h2
      exact h2
abbrev vFr (a : Nat) (k : Int) : Prop := (a = 209 ∧ (k = 53 ∨ k = 106)) ∨ a = 287
theorem v197 {w d : Int} {s : zS} {pt : Int → Int} (hw0 : 0 ≤ w) (hw1 : w ≤ 1) (hc : mCode s.1 w)
    (hp0 : pt 0 = s.1 209 58) (hp1 : pt 1 = s.1 209 59) (hp2 : pt 2 = s.1 209 60) (hp3 : pt 3 = s.1 209 61) (hp4 : pt 4 = s.1 254 0)
    (hp : ∀ q, 0 ≤ q → q ≤ 4 → inM (pt q)) : Ok (m197 w d s) (fun r t => r = fVal s.1 w d pt ∧ FrJ vFr s t) := by
  unfold m197 fVal
  refine k_z (by omega) (by omega) (k_x (by omega) (by omega) (k_v ?_))
  by_cases h : s.1 249 (2 + w) = -1
  · rw [if_pos h, if_pos h]
    exact k_r ⟨rfl, frj_refl⟩
  rw [if_neg h, if_neg h]
  obtain ⟨h1, h2, h3, h4⟩ := hc.resolve_left h
  refine k_v (k_v (k_z (by omega) (by omega) (k_x (by omega) (by omega) (k_v ?_))))
  have hfr : FrJ vFr s (sI (sI s 209 53 1) 209 106 0) := frj_trans (frj_I (Or.inl ⟨rfl, Or.inl rfl⟩)) (frj_I (Or.inl ⟨rfl, Or.inr rfl⟩))
  have g : ∀ (a : Nat) (k : Int), a ≠ 287 → ¬ (a = 209 ∧ (k = 53 ∨ k = 106)) → (sI (sI s 209 53 1) 209 106 0).1 a k = s.1 a k := fun a k n1 n2 => (hfr.1 a k (by omega)).1
  rw [g 249 _ (by omega) (by omega)]
  have := p197 (w := w) (F := s.1 249 (2 + w)) (N := (s.1 250 (2 + w) - s.1 249 (2 + w)).toNat) (s0 := sI (sI s 209 53 1) 209 106 0) (c := fun i => s.1 251 (1600 + (s.1 249 (2 + w) + i))) (pt := pt) hw0 hw1
    (by rw [g 250 _ (by omega) (by omega)]; omega) h1 (by omega) (fun i hi => g 251 _ (by omega) (by omega)) (by rw [sI_k (by omega), sI_e])
    (by rw [g 209 58 (by omega) (by omega)]; exact hp0) (by rw [g 209 59 (by omega) (by omega)]; exact hp1) (by rw [g 209 60 (by omega) (by omega)]; exact hp2) (by rw [g 209 61 (by omega) (by omega)]; exact hp3) (by rw [g 254 0 (by omega) (by omega)]; exact hp4) hp h4
    zFu 0 (sI (sI s 209 53 1) 209 106 0) (by omega) (by unfold zFu; omega) ⟨frj_refl, sI_e, trivial⟩
  rw [show s.1 249 (2 + w) + ((0 : Nat) : Int) = s.1 249 (2 + w) by omega] at this
  refine k_m this (fun r t q => ⟨q.1, frj_trans hfr (frj_mono (fun a k z => ?_) q.2)⟩)
  rcases z with z | z
  · exact Or.inl ⟨z.1, Or.inr z.2⟩
  · exact Or.inr z
