/-! ===== one who is tried: the reference's, the calls ===== -/
abbrev uFr (a : Nat) (k : Int) : Prop := (a = 209 ∧ (k = 53 ∨ k = 58 ∨ k = 59 ∨ k = 60 ∨ k = 61 ∨ k = 62 ∨ k = 106)) ∨ a = 287 ∨ a = 256
section
variable {s : zS} {w p p1 p2 will day : Int} {h0 : Int → Int} {s0 : zS}
theorem p217_16 (hm : mLand s0.1) (hw0 : 0 ≤ w) (hw1 : w < s0.1 242 6) (hp0 : 0 ≤ p) (hp1 : p < s0.1 242 5) (hh : ∀ q, 0 ≤ q → q < s0.1 242 5 → 0 ≤ h0 q ∧ h0 q ≤ 9) (hdd : s0.1 254 0 = day) (hd : inM day) (hi0 : 0 ≤ will) (hi1 : will ≤ 99) :
    ∀ (n i : Nat) (s : zS), i ≤ 31 → 31 - i < n → FrJ uFr s0 s → (∀ j : Nat, j < i → s.1 256 (j : Int) = (trP s0.1 w p p will day h0 j).1) →
      Ok (m217_16 n w p will (trP s0.1 w p p will day h0 i).1 ((trP s0.1 w p p will day h0 i).2 p) (trT s0.1 w p p will day h0 i) (i : Int) s) (fun r t => r = trT s0.1 w p p will day h0 31 ∧ (∀ j : Nat, j ≤ 30 → t.1 256 (j : Int) = (trP s0.1 w p p will day h0 j).1) ∧ FrJ uFr s0 t) := by
  have hq2 := (hm.2.2.1 w hw0 hw1)
  have hP : 0 < s0.1 242 4 := by omega
  have hw6 : w < 6 := by have := hm.1; omega
  intro n
  induction n with
  | zero => intro i s h1 h2; omega
  | succ n ih =>
    intro i s h1 h2 hs hpath
    rw [m217_16]
    by_cases hi : i = 31
    · subst hi
      exact k_p (by omega) (k_r ⟨rfl, fun j hj => hpath j (by omega), hs⟩)
    have tin := trP_in (will := will) (day := day) hm hP hw0 hw1 hp0 hp1 hp0 hp1 hh i
    refine k_q (by omega) (k_x (by omega) (by omega) (k_v (k_e (e191 hw0 (by omega)) ?_)))
    generalize hs4 : sI s 256 (i : Int) (trP s0.1 w p p will day h0 i).1 = s4
    have f4 : FrJ uFr s0 s4 := by rw [← hs4]; exact frj_trans hs (frj_I (by omega))
    have v : ∀ j : Nat, j < i + 1 → s4.1 256 (j : Int) = (trP s0.1 w p p will day h0 j).1 := by
      intro j hj
      by_cases e : j = i
      · subst e; rw [← hs4, sI_e]
      · rw [← hs4, sI_k (by omega)]; exact hpath j (by omega)
    rw [(f4.1 246 (20 + 3 * w) (by omega)).1]
    have eq4 : eqL s0.1 s4.1 := eqL_frj f4 (fun a k q => by omega)
    have w4 : s4.1 242 = s0.1 242 := eq4.1
    by_cases hg : (trP s0.1 w p p will day h0 i).1 = s0.1 246 (20 + 3 * w)
    · have e' : trP s0.1 w p p will day h0 (i + 1) = trP s0.1 w p p will day h0 i := by
        show trStep _ _ _ _ _ _ _ = _
        unfold trStep
        rw [if_pos hg]
      have := ih (i + 1) s4 (by omega) (by omega) f4 v
      rw [e'] at this
      refine k_p hg (k_i (fun ht => ?_) (fun ht => ?_))
      · have et : trT s0.1 w p p will day h0 (i + 1) = (i : Int) := by
          show (if _ then _ else _) = _
          rw [if_pos ⟨ht, hg⟩]
        rw [et] at this
        exact k_z (by omega) (by omega) this
      · have et : trT s0.1 w p p will day h0 (i + 1) = trT s0.1 w p p will day h0 i := by
          show (if _ then _ else _) = _
          rw [if_neg (fun z => ht z.1)]
        rw [et] at this
        exact k_z (by omega) (by omega) this
    · refine k_q hg ?_
      have hd4 : s4.1 254 0 = day := by rw [(f4.1 254 0 (by omega)).1]; exact hdd
      refine k_c (p198 (w := w) (p := p) (s := s4) (mLand_eq eq4 hm) hw0 (by rw [w4]; exact hw1) hp0 (by rw [w4]; exact hp1) tin.1 (by rw [w4]; exact tin.2.1) (tin.2.2 p hp0 hp1).1 (tin.2.2 p hp0 hp1).2 (by omega) (by omega) hi0 hi1 (by rw [hd4]; exact hd)) ?_
      intro r t hr
      obtain ⟨y1, y2, y3⟩ := hr
      rw [hd4, legTo_eq eq4] at y1
      rw [hd4, legHb_eq eq4] at y2
      have e' : trP s0.1 w p p will day h0 (i + 1) = (legTo s0.1 w p (trP s0.1 w p p will day h0 i).1 ((trP s0.1 w p p will day h0 i).2 p) (i : Int) will day, fun r => if r = p then legHb s0.1 w p (trP s0.1 w p p will day h0 i).1 ((trP s0.1 w p p will day h0 i).2 p) (i : Int) will day else (trP s0.1 w p p will day h0 i).2 r) := by
        show trStep _ _ _ _ _ _ _ = _
        unfold trStep
        rw [if_neg hg, ite_self]
      have et : trT s0.1 w p p will day h0 (i + 1) = trT s0.1 w p p will day h0 i := by
        show (if _ then _ else _) = _
        rw [if_neg (fun z => hg z.2)]
      have := ih (i + 1) t (by omega) (by omega) (frj_trans f4 (frj_mono (fun a k z => by omega) y3)) (fun j hj => by rw [(y3.1 256 _ (by omega)).1]; exact v j hj)
      rw [et, e'] at this
      refine k_v (k_z (by omega) (by omega) ?_)
      rw [y1, y2]
      have e2 : (fun r => if r = p then legHb s0.1 w p (trP s0.1 w p p will day h0 i).1 ((trP s0.1 w p p will day h0 i).2 p) (i : Int) will day else (trP s0.1 w p p will day h0 i).2 r) p = legHb s0.1 w p (trP s0.1 w p p will day h0 i).1 ((trP s0.1 w p p will day h0 i).2 p) (i : Int) will day := if_pos rfl
      dsimp only at this
      rw [if_pos rfl] at this
      exact this
theorem p217 (hm : mLand s.1) (hh : ∀ q, 0 ≤ q → q < s.1 242 5 → 0 ≤ s.1 254 (2 + q) ∧ s.1 254 (2 + q) ≤ 9) (hd : inM (s.1 254 0)) (hw0 : 0 ≤ w) (hw1 : w < s.1 242 6) (hp0 : 0 ≤ p) (hp1 : p < s.1 242 5) (hi0 : 0 ≤ will) (hi1 : will ≤ 99) :
    Ok (m217 w p will s) (fun r t => r = trT s.1 w p p will (s.1 254 0) (fun q => s.1 254 (2 + q)) 31 ∧ (∀ j : Nat, j ≤ 30 → t.1 256 (j : Int) = (trP s.1 w p p will (s.1 254 0) (fun q => s.1 254 (2 + q)) j).1) ∧ FrJ uFr s t) := by
  unfold m217
  refine k_e (e187 hp0 (by have := hm.1; omega)) ?_
  exact p217_16 (h0 := fun q => s.1 254 (2 + q)) hm hw0 hw1 hp0 hp1 hh rfl hd hi0 hi1 zFu 0 s (by omega) (by unfold zFu; omega) frj_refl (fun j hj => by omega)
theorem p218 (hm : mLand s.1) (hh : ∀ q, 0 ≤ q → q < s.1 242 5 → 0 ≤ s.1 254 (2 + q) ∧ s.1 254 (2 + q) ≤ 9) (hd : inM (s.1 254 0)) (hw0 : 0 ≤ w) (hw1 : w < s.1 242 6) (hp0 : 0 ≤ p) (hp1 : p < s.1 242 5) :
    Ok (m218 w p s) (fun r t => r = trT s.1 w p p (s.1 246 (19 + 3 * w)) (s.1 254 0) (fun q => s.1 254 (2 + q)) 31 ∧ (∀ j : Nat, j ≤ 30 → t.1 256 (j : Int) = (trP s.1 w p p (s.1 246 (19 + 3 * w)) (s.1 254 0) (fun q => s.1 254 (2 + q)) j).1) ∧ FrJ uFr s t) := by
  have h6 := hm.1
  have := hm.2.2.1 w hw0 hw1
  unfold m218
  refine k_z (by omega) (by omega) (k_z (by omega) (by omega) (k_x (by omega) (by omega) (k_v ?_)))
  refine k_c (p217 hm hh hd hw0 hw1 hp0 hp1 (by omega) (by omega)) ?_
  intro r t h
  exact k_r h
/-- the reference's odd pair -/
theorem p222_51 (hm : mLand s0.1) (hw0 : 0 ≤ w) (hw1 : w < s0.1 242 6) (hp0 : 0 ≤ p1) (hp1 : p1 < s0.1 242 5) (hq0 : 0 ≤ p2) (hq1 : p2 < s0.1 242 5) (hne : p1 ≠ p2) (hh : ∀ q, 0 ≤ q → q < s0.1 242 5 → 0 ≤ h0 q ∧ h0 q ≤ 9) (hdd : s0.1 254 0 = day) (hd : inM day) (hww : will = s0.1 246 (19 + 3 * w)) (hi0 : 0 ≤ will) (hi1 : will ≤ 99) :
    ∀ (n i : Nat) (s : zS), i ≤ 31 → 31 - i < n → FrJ gFr s0 s → trT s0.1 w p1 p2 will day h0 i = -1 →
      Ok (m222_51 n w p1 p2 (trP s0.1 w p1 p2 will day h0 i).1 ((trP s0.1 w p1 p2 will day h0 i).2 p1) ((trP s0.1 w p1 p2 will day h0 i).2 p2) (i : Int) s) (fun r t => r = trT s0.1 w p1 p2 will day h0 31 ∧ FrJ gFr s0 t) := by
  have hq2 := (hm.2.2.1 w hw0 hw1)
  have hP : 0 < s0.1 242 4 := by omega
  have hw6 : w < 6 := by have := hm.1; omega
  -- once told it stays
  have keep : ∀ (i k : Nat) (v : Int), v ≠ -1 → trT s0.1 w p1 p2 will day h0 i = v → trT s0.1 w p1 p2 will day h0 (i + k) = v := by
    intro i k v hv e
    induction k with
    | zero => exact e
    | succ k ihk =>
      show (if _ then _ else _) = _
      rw [if_neg (fun z => hv (ihk.symm.trans z.1))]; exact ihk
  intro n
  induction n with
  | zero => intro i s h1 h2; omega
  | succ n ih =>
    intro i s h1 h2 hs ht
    rw [m222_51]
    by_cases hi : i = 31
    · subst hi
      exact k_p (by omega) (k_r ⟨ht.symm, hs⟩)
    have tin := trP_in (will := will) (day := day) hm hP hw0 hw1 hp0 hp1 hq0 hq1 hh i
    refine k_q (by omega) (k_e (e191 hw0 (by omega)) ?_)
    rw [(hs.1 246 (20 + 3 * w) (by omega)).1]
    refine k_i (fun hg => ?_) (fun hg => ?_)
    · have et : trT s0.1 w p1 p2 will day h0 (i + 1) = (i : Int) := by
        show (if _ then _ else _) = _
        rw [if_pos ⟨ht, hg⟩]
      have := keep (i + 1) (31 - (i + 1)) (i : Int) (by omega) et
      rw [show i + 1 + (31 - (i + 1)) = 31 by omega] at this
      exact k_r ⟨this.symm, hs⟩
    have et : trT s0.1 w p1 p2 will day h0 (i + 1) = -1 := by
      show (if _ then _ else _) = _
      rw [if_neg (fun z => hg z.2)]; exact ht
    have eq4 : eqL s0.1 s.1 := eqL_frj hs (fun a k q => by omega)
    have w4 : s.1 242 = s0.1 242 := eq4.1
    have hd4 : s.1 254 0 = day := by rw [(hs.1 254 0 (by omega)).1]; exact hdd
    have h246 : s.1 246 (19 + 3 * w) = will := by rw [(hs.1 246 _ (by omega)).1, hww]
    have leg : ∀ q, q = (if i % 2 = 0 then p1 else p2) → Ok (m198 w q (trP s0.1 w p1 p2 will day h0 i).1 ((trP s0.1 w p1 p2 will day h0 i).2 q) (i : Int) will s) (fun r t => r = (trP s0.1 w p1 p2 will day h0 (i + 1)).1 ∧ t.1 209 62 = (trP s0.1 w p1 p2 will day h0 (i + 1)).2 q ∧ FrJ gFr s0 t ∧ ∀ q', q' ≠ q → (trP s0.1 w p1 p2 will day h0 (i + 1)).2 q' = (trP s0.1 w p1 p2 will day h0 i).2 q') := by
      intro q hq
      have hqq : 0 ≤ q ∧ q < s0.1 242 5 := by rw [hq]; split <;> omega
      refine k_m (p198 (w := w) (p := q) (s := s) (mLand_eq eq4 hm) hw0 (by rw [w4]; exact hw1) hqq.1 (by rw [w4]; exact hqq.2) tin.1 (by rw [w4]; exact tin.2.1) (tin.2.2 q hqq.1 hqq.2).1 (tin.2.2 q hqq.1 hqq.2).2 (by omega) (by omega) hi0 hi1 (by rw [hd4]; exact hd)) ?_
      intro r t hr
      obtain ⟨y1, y2, y3⟩ := hr
      rw [hd4, legTo_eq eq4] at y1
      rw [hd4, legHb_eq eq4] at y2
      have e' : trP s0.1 w p1 p2 will day h0 (i + 1) = (legTo s0.1 w q (trP s0.1 w p1 p2 will day h0 i).1 ((trP s0.1 w p1 p2 will day h0 i).2 q) (i : Int) will day, fun r => if r = q then legHb s0.1 w q (trP s0.1 w p1 p2 will day h0 i).1 ((trP s0.1 w p1 p2 will day h0 i).2 q) (i : Int) will day else (trP s0.1 w p1 p2 will day h0 i).2 r) := by
        show trStep _ _ _ _ _ _ _ = _
        unfold trStep
        rw [if_neg hg, ← hq]
      rw [e']
      exact ⟨y1, y2.trans (if_pos rfl).symm, frj_trans hs y3, fun q' hq' => if_neg hq'⟩
    have em : Int.tmod (i : Int) 2 = ((i % 2 : Nat) : Int) := by rw [Int.tmod_eq_emod_of_nonneg (by omega)]; omega
    refine k_n (by decide) (k_v ?_)
    rw [em]
    by_cases ev : i % 2 = 0
    · refine k_p (by omega) ?_
      unfold m222_83
      refine k_q (by decide) ?_
      unfold m222_97
      refine k_q (by decide) ?_
      unfold m222_111
      refine k_z (by omega) (by omega) (k_z (by omega) (by omega) (k_x (by omega) (by omega) (k_v ?_)))
      rw [h246]
      refine k_c (leg p1 (by rw [if_pos ev])) ?_
      intro r t hr
      refine k_q (by decide) (k_v (k_z (by omega) (by omega) ?_))
      have := ih (i + 1) t (by omega) (by omega) hr.2.2.1 et
      rw [hr.1, hr.2.1, ← hr.2.2.2 p2 (fun z => hne z.symm)]
      exact this
    · refine k_q (by omega) ?_
      unfold m222_83
      refine k_p rfl ?_
      unfold m222_97
      refine k_p rfl ?_
      unfold m222_111
      refine k_z (by omega) (by omega) (k_z (by omega) (by omega) (k_x (by omega) (by omega) (k_v ?_)))
      rw [h246]
      refine k_c (leg p2 (by rw [if_neg ev])) ?_
      intro r t hr
      refine k_p rfl (k_v (k_z (by omega) (by omega) ?_))
      have := ih (i + 1) t (by omega) (by omega) hr.2.2.1 et
      rw [hr.1, hr.2.1, ← hr.2.2.2 p1 hne]
      exact this
end
section
variable {n : Nat} {s t : zS} {x y : Int}
theorem scr_t (h : R n s) (hf : Fr (tFr (s.2.2 1)) s t) : R n t := R_fr h (frj_of (fr_mono (fun a k q => by unfold Scr; omega) hf))
theorem scr_u (h : R n s) (hf : FrJ uFr s t) : R n t := R_fr h (frj_mono (fun a k q => by unfold Scr; omega) hf)
theorem e138 (h : R n s) : m138 x y s = some (if (0 ≤ x ∧ x < s.1 242 6) ∧ 0 ≤ y ∧ y < s.1 242 5 then 1 else 0, s) := by
  obtain ⟨b1, b2, b3, b4, b5, b6, b7, b8, b9, b10⟩ := R_cnt h
  unfold m138
  rw [oV_eq, e50, oC_some, b6]
  by_cases c : 0 ≤ x ∧ x < s.1 242 6
  · rw [if_pos c, if_neg (by decide), oV_eq, e50, oC_some, b4]
    by_cases d : 0 ≤ y ∧ y < s.1 242 5
    · rw [if_pos d, if_neg (by decide), if_pos ⟨c, d⟩]
    · rw [if_neg d, if_pos rfl, if_neg (fun z => d z.2)]
  · rw [if_neg c, if_pos rfl, if_neg (fun z => c z.1)]
/-- what the reference's trial needs -/
theorem R_hh (h : R n s) : ∀ q, 0 ≤ q → q < s.1 242 5 → 0 ≤ s.1 254 (2 + q) ∧ s.1 254 (2 + q) ≤ 9 := (R_now h).2.2.2.1
theorem R_dd (h : R n s) : inM (s.1 254 0) := by have : 0 ≤ s.1 254 0 ∧ s.1 254 0 ≤ 999 := (R_now h).2.1; omega
theorem R_ml (h : R n s) : mLand s.1 := mLand_of (R_land h)
theorem tFr_eqL (hLL : s.2.2 1 = 43 ∨ s.2.2 1 = 66) (h : Fr (tFr (s.2.2 1)) s t) : eqL s.1 t.1 := eqL_fr h (fun a k q => by omega)
theorem trT_eq {f g : Nat → Int → Int} (e : eqL f g) {w p1 p2 will day : Int} {h0 : Int → Int} : ∀ i, trP g w p1 p2 will day h0 i = trP f w p1 p2 will day h0 i ∧ trT g w p1 p2 will day h0 i = trT f w p1 p2 will day h0 i := by
  intro i
  induction i with
  | zero => exact ⟨rfl, rfl⟩
  | succ i ih =>
    refine ⟨?_, ?_⟩
    · show trStep _ _ _ _ _ _ _ = trStep _ _ _ _ _ _ _
      unfold trStep
      rw [ih.1, e.2.2.1]
      simp only [legTo_eq e, legHb_eq e]
    · show (if _ then _ else _) = (if _ then _ else _)
      rw [ih.1, ih.2, e.2.2.1]
end
theorem t113 : T113 := by
  intro n s x y hx hy hR hn
  obtain ⟨b1, b2, b3, b4, b5, b6, b7, b8, b9, b10⟩ := R_cnt hR
  have hLL := R_LL hR
  unfold Two m113
  refine k_e (e138 hR) ?_
  by_cases c : (0 ≤ x ∧ x < s.1 242 6) ∧ 0 ≤ y ∧ y < s.1 242 5
  · rw [if_pos c]
    have hw := (R_land hR).2.2.2.1 x c.1.1 c.1.2
    refine k_q (by decide) (k_v (k_x c.1.1 (by omega) (k_v ?_)))
    refine k_c (p99 hR c.1.1 c.1.2 c.2.1 c.2.2 c.2.1 c.2.2 (by omega) (by omega)) ?_
    intro r t hr
    obtain ⟨h1, h2, h3⟩ := hr
    have hRt := scr_t hR h3
    have eq := tFr_eqL hLL h3
    refine k_r ?_
    unfold m219
    refine k_e (e186 (by rw [eq.1]; omega) (by rw [eq.1]; omega)) ?_
    rw [eq.1, if_pos c.1]
    refine k_q (by decide) (k_e (e185 (by rw [eq.1]; omega) (by rw [eq.1]; omega)) ?_)
    rw [eq.1, if_pos c.2]
    refine k_q (by decide) (k_c (p218 (R_ml hRt) (R_hh hRt) (R_dd hRt) c.1.1 (by rw [eq.1]; exact c.1.2) c.2.1 (by rw [eq.1]; exact c.2.2)) ?_)
    intro r' t' hr'
    obtain ⟨g1, g2, g3⟩ := hr'
    refine k_r ⟨?_, R_up (scr_u hRt g3)⟩
    have e254 : t.1 254 = s.1 254 := funext fun k => h3.1 254 k (by omega)
    rw [h1, g1, (trT_eq eq 31).2, eq.2.2.1, e254, hw.2.1]
  · rw [if_neg c]
    refine k_p rfl (k_r ?_)
    unfold m219
    refine k_e (e186 (by omega) (by omega)) ?_
    by_cases c1 : 0 ≤ x ∧ x < s.1 242 6
    · rw [if_pos c1]
      refine k_q (by decide) (k_e (e185 (by omega) (by omega)) ?_)
      rw [if_neg (fun z => c ⟨c1, z⟩)]
      exact k_p rfl (k_r ⟨rfl, R_up hR⟩)
    · rw [if_neg c1]
      exact k_p rfl (k_r ⟨rfl, R_up hR⟩)
theorem t114 : T114 := by
  intro n s x y z hx hy hz hR hn
  obtain ⟨b1, b2, b3, b4, b5, b6, b7, b8, b9, b10⟩ := R_cnt hR
  have hLL := R_LL hR
  unfold Two m114
  refine k_e (e138 hR) ?_
  by_cases c : (0 ≤ x ∧ x < s.1 242 6) ∧ 0 ≤ y ∧ y < s.1 242 5
  · rw [if_pos c]
    have hw := (R_land hR).2.2.2.1 x c.1.1 c.1.2
    by_cases d : 0 ≤ z ∧ z ≤ 30
    · refine k_q (by decide) (k_q (by omega) (k_q (by omega) (k_v (k_x c.1.1 (by omega) (k_v ?_)))))
      refine k_c (p99 hR c.1.1 c.1.2 c.2.1 c.2.2 c.2.1 c.2.2 (by omega) (by omega)) ?_
      intro r t hr
      obtain ⟨h1, h2, h3⟩ := hr
      have hRt := scr_t hR h3
      have eq := tFr_eqL hLL h3
      refine k_x d.1 (by omega) (k_v (k_r ?_))
      unfold m220
      refine k_e (e186 (by rw [eq.1]; omega) (by rw [eq.1]; omega)) ?_
      rw [eq.1, if_pos c.1]
      refine k_q (by decide) (k_e (e185 (by rw [eq.1]; omega) (by rw [eq.1]; omega)) ?_)
      rw [eq.1, if_pos c.2]
      refine k_q (by decide) (k_e e150 ?_)
      rw [if_pos d]
      refine k_q (by decide) (k_c (p218 (R_ml hRt) (R_hh hRt) (R_dd hRt) c.1.1 (by rw [eq.1]; exact c.1.2) c.2.1 (by rw [eq.1]; exact c.2.2)) ?_)
      intro r' t' hr'
      obtain ⟨g1, g2, g3⟩ := hr'
      refine k_x d.1 (by omega) (k_v (k_r ⟨?_, R_up (scr_u hRt g3)⟩))
      have e254 : t.1 254 = s.1 254 := funext fun k => h3.1 254 k (by omega)
      have ez : z = (z.toNat : Int) := by omega
      rw [ez, h2 z.toNat (by omega), g2 z.toNat (by omega), (trT_eq eq z.toNat).1, eq.2.2.1, e254, hw.2.1]
    · refine k_q (by decide) ?_
      have : Ok (if z < 0 then some ((-1 : Int), s) else if (30 : Int) < z then some ((-1 : Int), s) else none) (fun r t => r = -1 ∧ t = s) := by
        by_cases c0 : z < 0
        · exact k_p c0 (k_r ⟨rfl, rfl⟩)
        · exact k_q c0 (k_p (by omega) (k_r ⟨rfl, rfl⟩))
      have fin : Ok (m220 x y z s) (fun r' s2 => -1 = r' ∧ R (n + 1) s2) := by
        unfold m220
        refine k_e (e186 (by omega) (by omega)) ?_
        rw [if_pos c.1]
        refine k_q (by decide) (k_e (e185 (by omega) (by omega)) ?_)
        rw [if_pos c.2]
        refine k_q (by decide) (k_e e150 ?_)
        rw [if_neg d]
        exact k_p rfl (k_r ⟨rfl, R_up hR⟩)
      by_cases c0 : z < 0
      · exact k_p c0 (k_r fin)
      · exact k_q c0 (k_p (by omega) (k_r fin))
  · rw [if_neg c]
    refine k_p rfl (k_r ?_)
    unfold m220
    refine k_e (e186 (by omega) (by omega)) ?_
    by_cases c1 : 0 ≤ x ∧ x < s.1 242 6
    · rw [if_pos c1]
      refine k_q (by decide) (k_e (e185 (by omega) (by omega)) ?_)
      rw [if_neg (fun z => c ⟨c1, z⟩)]
      exact k_p rfl (k_r ⟨rfl, R_up hR⟩)
    · rw [if_neg c1]
      exact k_p rfl (k_r ⟨rfl, R_up hR⟩)
theorem t116 : T116 := by
  intro n s x y z hx hy hz hR hn
  obtain ⟨b1, b2, b3, b4, b5, b6, b7, b8, b9, b10⟩ := R_cnt hR
  have hLL := R_LL hR
  unfold Two m116
  refine k_e (e138 hR) ?_
  by_cases c : (0 ≤ x ∧ x < s.1 242 6) ∧ 0 ≤ y ∧ y < s.1 242 5
  · rw [if_pos c]
    have hw := (R_land hR).2.2.2.1 x c.1.1 c.1.2
    refine k_q (by decide) (k_v (k_e e50 ?_))
    rw [b4]
    by_cases d : 0 ≤ z ∧ z < s.1 242 5
    · rw [if_pos d]
      refine k_q (by decide) (k_i (fun e => ?_) (fun e => ?_))
      · refine k_r ?_
        unfold m222
        refine k_e (e186 (by omega) (by omega)) ?_
        rw [if_pos c.1]
        refine k_q (by decide) (k_e (e185 (by omega) (by omega)) ?_)
        rw [if_pos c.2]
        refine k_q (by decide) (k_e (e185 (by omega) (by omega)) ?_)
        rw [if_pos d]
        exact k_q (by decide) (k_p e (k_r ⟨rfl, R_up hR⟩))
      refine k_v (k_x c.1.1 (by omega) (k_v ?_))
      refine k_c (p99 hR c.1.1 c.1.2 c.2.1 c.2.2 d.1 d.2 (by omega) (by omega)) ?_
      intro r t hr
      obtain ⟨h1, h2, h3⟩ := hr
      have hRt := scr_t hR h3
      have eq := tFr_eqL hLL h3
      refine k_r ?_
      unfold m222
      refine k_e (e186 (by rw [eq.1]; omega) (by rw [eq.1]; omega)) ?_
      rw [eq.1, if_pos c.1]
      refine k_q (by decide) (k_e (e185 (by rw [eq.1]; omega) (by rw [eq.1]; omega)) ?_)
      rw [eq.1, if_pos c.2]
      refine k_q (by decide) (k_e (e185 (by rw [eq.1]; omega) (by rw [eq.1]; omega)) ?_)
      rw [eq.1, if_pos d]
      refine k_q (by decide) (k_q e (k_e (e187 c.2.1 (by omega)) (k_e (e187 d.1 (by omega)) ?_)))
      have e254 : t.1 254 = s.1 254 := funext fun k => h3.1 254 k (by omega)
      refine k_m (p222_51 (s0 := t) (w := x) (p1 := y) (p2 := z) (will := t.1 246 (19 + 3 * x)) (day := t.1 254 0) (h0 := fun q => t.1 254 (2 + q)) (R_ml hRt) c.1.1 (by rw [eq.1]; exact c.1.2) c.2.1 (by rw [eq.1]; exact c.2.2) d.1 (by rw [eq.1]; exact d.2) e (R_hh hRt) rfl (R_dd hRt) rfl (by rw [eq.2.2.1]; omega) (by rw [eq.2.2.1]; omega) zFu 0 t (by omega) (by unfold zFu; omega) frj_refl rfl) ?_
      intro r' t' hr'
      refine ⟨?_, R_up (scr_u hRt (frj_mono (fun a k q => by omega) hr'.2))⟩
      rw [h1, hr'.1, (trT_eq eq 31).2, eq.2.2.1, e254, hw.2.1]
    · rw [if_neg d]
      refine k_p rfl (k_r ?_)
      unfold m222
      refine k_e (e186 (by omega) (by omega)) ?_
      rw [if_pos c.1]
      refine k_q (by decide) (k_e (e185 (by omega) (by omega)) ?_)
      rw [if_pos c.2]
      refine k_q (by decide) (k_e (e185 (by omega) (by omega)) ?_)
      rw [if_neg d]
      exact k_p rfl (k_r ⟨rfl, R_up hR⟩)
  · rw [if_neg c]
    refine k_p rfl (k_r ?_)
    unfold m222
    refine k_e (e186 (by omega) (by omega)) ?_
    by_cases c1 : 0 ≤ x ∧ x < s.1 242 6
    · rw [if_pos c1]
      refine k_q (by decide) (k_e (e185 (by omega) (by omega)) ?_)
      rw [if_neg (fun z => c ⟨c1, z⟩)]
      exact k_p rfl (k_r ⟨rfl, R_up hR⟩)
    · rw [if_neg c1]
      exact k_p rfl (k_r ⟨rfl, R_up hR⟩)
/-- the least will by which he is there, from will on -/
def fmT (g : Int → Int) : Nat → Int → Int
  | 0, _ => -1
  | n + 1, k => if g k = -1 then fmT g n (k + 1) else k
theorem fmT_t {g : Int → Int} {j : Nat} {k : Int} (h : g k = -1) : fmT g (j + 1) k = fmT g j (k + 1) := if_pos h
theorem fmT_f {g : Int → Int} {j : Nat} {k : Int} (h : g k ≠ -1) : fmT g (j + 1) k = k := if_neg h
theorem p115 {n : Nat} {s0 : zS} {x y : Int} (hR : R n s0) (hx0 : 0 ≤ x) (hx1 : x < s0.1 242 6) (hy0 : 0 ≤ y) (hy1 : y < s0.1 242 5) : ∀ (m j : Nat) (k : Int) (s : zS), k = 100 - (j : Int) → j ≤ 100 → j < m → Fr (tFr (s0.2.2 1)) s0 s → Ok (m115_13 m x y k s) (fun r t => r = fmT (fun will => trT s0.1 x y y will (s0.1 254 0) (fun q => s0.1 254 (2 + q)) 31) j k ∧ Fr (tFr (s0.2.2 1)) s0 t) := by
  have hLL := R_LL hR
  intro m
  induction m with
  | zero => intro j k s h1 h2 h3; omega
  | succ m ih =>
    intro j k s h1 h2 h3 hs
    rw [m115_13]
    have hRs := scr_t hR hs
    have eq := tFr_eqL hLL hs
    have e254 : s.1 254 = s0.1 254 := funext fun q => hs.1 254 q (by omega)
    cases j with
    | zero => exact k_p (by omega) (k_r ⟨rfl, hs⟩)
    | succ j =>
      refine k_q (by omega) (k_c (p99 hRs hx0 (by rw [eq.1]; exact hx1) hy0 (by rw [eq.1]; exact hy1) hy0 (by rw [eq.1]; exact hy1) (by omega) (by omega)) ?_)
      intro r t hr
      obtain ⟨q1, q2, q3⟩ := hr
      rw [hs.2.2] at q3
      rw [(trT_eq eq 31).2, e254] at q1
      have ft := fr_trans hs q3
      refine k_i (fun c => ?_) (fun c => ?_)
      · rw [fmT_t (g := fun will => trT s0.1 x y y will (s0.1 254 0) (fun q => s0.1 254 (2 + q)) 31) (q1.symm.trans c)]
        exact k_z (by omega) (by omega) (ih j (k + 1) t (by omega) (by omega) (by omega) ft)
      · rw [fmT_f (g := fun will => trT s0.1 x y y will (s0.1 254 0) (fun q => s0.1 254 (2 + q)) 31) (fun z => c (q1.trans z))]
        exact k_r ⟨rfl, ft⟩
theorem p221 {s0 : zS} {x y : Int} (hm : mLand s0.1) (hh : ∀ q, 0 ≤ q → q < s0.1 242 5 → 0 ≤ s0.1 254 (2 + q) ∧ s0.1 254 (2 + q) ≤ 9) (hd : inM (s0.1 254 0)) (hx0 : 0 ≤ x) (hx1 : x < s0.1 242 6) (hy0 : 0 ≤ y) (hy1 : y < s0.1 242 5) : ∀ (m j : Nat) (k : Int) (s : zS), k = 100 - (j : Int) → j ≤ 100 → j < m → FrJ uFr s0 s → Ok (m221_20 m x y k s) (fun r t => r = fmT (fun will => trT s0.1 x y y will (s0.1 254 0) (fun q => s0.1 254 (2 + q)) 31) j k ∧ FrJ uFr s0 t) := by
  intro m
  induction m with
  | zero => intro j k s h1 h2 h3; omega
  | succ m ih =>
    intro j k s h1 h2 h3 hs
    rw [m221_20]
    have eq : eqL s0.1 s.1 := eqL_frj hs (fun a k q => by omega)
    have e254 : s.1 254 = s0.1 254 := funext fun q => (hs.1 254 q (by omega)).1
    cases j with
    | zero => exact k_p (by omega) (k_r ⟨rfl, hs⟩)
    | succ j =>
      refine k_q (by omega) (k_c (p217 (mLand_eq eq hm) (by rw [eq.1, e254]; exact hh) (by rw [e254]; exact hd) hx0 (by rw [eq.1]; exact hx1) hy0 (by rw [eq.1]; exact hy1) (by omega) (by omega)) ?_)
      intro r t hr
      obtain ⟨q1, q2, q3⟩ := hr
      rw [(trT_eq eq 31).2, e254] at q1
      have ft := frj_trans hs q3
      refine k_i (fun c => ?_) (fun c => ?_)
      · rw [fmT_t (g := fun will => trT s0.1 x y y will (s0.1 254 0) (fun q => s0.1 254 (2 + q)) 31) (q1.symm.trans c)]
        exact k_z (by omega) (by omega) (ih j (k + 1) t (by omega) (by omega) (by omega) ft)
      · rw [fmT_f (g := fun will => trT s0.1 x y y will (s0.1 254 0) (fun q => s0.1 254 (2 + q)) 31) (fun z => c (q1.trans z))]
        exact k_r ⟨rfl, ft⟩
theorem t115 : T115 := by
  intro n s x y hx hy hR hn
  obtain ⟨b1, b2, b3, b4, b5, b6, b7, b8, b9, b10⟩ := R_cnt hR
  have hLL := R_LL hR
  unfold Two m115
  refine k_e (e138 hR) ?_
  by_cases c : (0 ≤ x ∧ x < s.1 242 6) ∧ 0 ≤ y ∧ y < s.1 242 5
  · rw [if_pos c]
    refine k_q (by decide) (k_m (p115 hR c.1.1 c.1.2 c.2.1 c.2.2 zFu 100 0 s (by omega) (by omega) (by unfold zFu; omega) fr_refl) ?_)
    intro r t hr
    have hRt := scr_t hR hr.2
    have eq := tFr_eqL hLL hr.2
    have e254 : t.1 254 = s.1 254 := funext fun q => hr.2.1 254 q (by omega)
    unfold m221
    refine k_e (e186 (by rw [eq.1]; omega) (by rw [eq.1]; omega)) ?_
    rw [eq.1, if_pos c.1]
    refine k_q (by decide) (k_e (e185 (by rw [eq.1]; omega) (by rw [eq.1]; omega)) ?_)
    rw [eq.1, if_pos c.2]
    refine k_q (by decide) (k_m (p221 (R_ml hRt) (R_hh hRt) (R_dd hRt) c.1.1 (by rw [eq.1]; exact c.1.2) c.2.1 (by rw [eq.1]; exact c.2.2) zFu 100 0 t (by omega) (by omega) (by unfold zFu; omega) frj_refl) ?_)
    intro r' t' hr'
    refine ⟨?_, R_up (scr_u hRt hr'.2)⟩
    rw [hr.1, hr'.1, e254]
    simp only [(trT_eq eq 31).2]
  · rw [if_neg c]
    refine k_p rfl (k_r ?_)
    unfold m221
    refine k_e (e186 (by omega) (by omega)) ?_
    by_cases c1 : 0 ≤ x ∧ x < s.1 242 6
    · rw [if_pos c1]
      refine k_q (by decide) (k_e (e185 (by omega) (by omega)) ?_)
      rw [if_neg (fun z => c ⟨c1, z⟩)]
      exact k_p rfl (k_r ⟨rfl, R_up hR⟩)
    · rw [if_neg c1]
      exact k_p rfl (k_r ⟨rfl, R_up hR⟩)
