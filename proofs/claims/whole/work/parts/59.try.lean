/-! ===== one who is tried ===== -/
/-- a leg of one who is tried: where he is, how strong each habit is -/
def trStep (f : Nat → Int → Int) (w q n will day : Int) (x : Int × (Int → Int)) : Int × (Int → Int) := if x.1 = f 246 (20 + 3 * w) then x else (legTo f w q x.1 (x.2 q) n will day, fun r => if r = q then legHb f w q x.1 (x.2 q) n will day else x.2 r)
def trP (f : Nat → Int → Int) (w p1 p2 will day : Int) (h0 : Int → Int) : Nat → Int × (Int → Int)
  | 0 => (0, h0)
  | n + 1 => trStep f w (if n % 2 = 0 then p1 else p2) (n : Int) will day (trP f w p1 p2 will day h0 n)
/-- in how many legs he is there, of those before n -/
def trT (f : Nat → Int → Int) (w p1 p2 will day : Int) (h0 : Int → Int) : Nat → Int
  | 0 => -1
  | n + 1 => if trT f w p1 p2 will day h0 n = -1 ∧ (trP f w p1 p2 will day h0 n).1 = f 246 (20 + 3 * w) then (n : Int) else trT f w p1 p2 will day h0 n
section
variable {f : Nat → Int → Int} {w p1 p2 will day : Int} {h0 : Int → Int}
theorem trT_there : ∀ n, trT f w p1 p2 will day h0 n ≠ -1 → (trP f w p1 p2 will day h0 n).1 = f 246 (20 + 3 * w) := by
  intro n
  induction n with
  | zero => intro h; exact absurd rfl h
  | succ n ih =>
    intro h
    unfold trT at h
    have key : (trP f w p1 p2 will day h0 n).1 = f 246 (20 + 3 * w) := by
      split at h
      · rename_i c; exact c.2
      · exact ih h
    show (trStep _ _ _ _ _ _ _).1 = _
    unfold trStep
    rw [if_pos key]; exact key
theorem lgTo_in {wt pt place pv sv m : Int} (h1 : 0 ≤ place) (h2 : place < m) (h3 : -1 ≤ wt) (h4 : wt < m) (h5 : -1 ≤ pt) (h6 : pt < m) : 0 ≤ lgTo wt pt place pv sv ∧ lgTo wt pt place pv sv < m := by
  unfold lgTo
  split
  · split <;> omega
  · split
    · omega
    · omega
theorem lgHb_in {wt pt hb pv sv : Int} (h1 : 0 ≤ hb) (h2 : hb ≤ 9) : 0 ≤ lgHb wt pt hb pv sv ∧ lgHb wt pt hb pv sv ≤ 9 := by
  unfold lgHb
  repeat' split
  all_goals omega
theorem leg_in {p place hb wk : Int} (hL : mLand f) (hw0 : 0 ≤ w) (hw1 : w < f 242 6) (hp0 : 0 ≤ p) (hp1 : p < f 242 5) (hl0 : 0 ≤ place) (hl1 : place < f 242 4) (hh0 : 0 ≤ hb) (hh1 : hb ≤ 9) : 0 ≤ legTo f w p place hb wk will day ∧ legTo f w p place hb wk will day < f 242 4 ∧ 0 ≤ legHb f w p place hb wk will day ∧ legHb f w p place hb wk will day ≤ 9 := by
  obtain ⟨_, b, c, d, _⟩ := hL
  have q1 := b p hp0 hp1
  have q2 := c w hw0 hw1
  have n1 := d place (f 246 (20 + 3 * w)) hl0 hl1 (by omega) (by omega)
  have n2 := d place (f 245 (25 + 3 * p)) hl0 hl1 (by omega) (by omega)
  have a1 := lgTo_in (pv := legPv f w p hb wk will day) (sv := legSv f w p hb wk will day) hl0 hl1 n1.1 n1.2.1 n2.1 n2.2.1
  have a2 := lgHb_in (wt := f 253 (7 * place + f 246 (20 + 3 * w))) (pt := f 253 (7 * place + f 245 (25 + 3 * p))) (pv := legPv f w p hb wk will day) (sv := legSv f w p hb wk will day) hh0 hh1
  exact ⟨a1.1, a1.2, a2.1, a2.2⟩
theorem trP_in (hL : mLand f) (hP : 0 < f 242 4) (hw0 : 0 ≤ w) (hw1 : w < f 242 6) (hp0 : 0 ≤ p1) (hp1 : p1 < f 242 5) (hq0 : 0 ≤ p2) (hq1 : p2 < f 242 5) (hh : ∀ q, 0 ≤ q → q < f 242 5 → 0 ≤ h0 q ∧ h0 q ≤ 9) : ∀ n, 0 ≤ (trP f w p1 p2 will day h0 n).1 ∧ (trP f w p1 p2 will day h0 n).1 < f 242 4 ∧ ∀ q, 0 ≤ q → q < f 242 5 → 0 ≤ (trP f w p1 p2 will day h0 n).2 q ∧ (trP f w p1 p2 will day h0 n).2 q ≤ 9 := by
  intro n
  induction n with
  | zero => exact ⟨by show (0 : Int) ≤ 0; omega, hP, hh⟩
  | succ n ih =>
    obtain ⟨i1, i2, i3⟩ := ih
    show 0 ≤ (trStep _ _ _ _ _ _ _).1 ∧ (trStep _ _ _ _ _ _ _).1 < _ ∧ ∀ q, 0 ≤ q → q < _ → 0 ≤ (trStep _ _ _ _ _ _ _).2 q ∧ (trStep _ _ _ _ _ _ _).2 q ≤ 9
    have hq : ∀ z : Int, z = (if n % 2 = 0 then p1 else p2) → 0 ≤ z ∧ z < f 242 5 := by intro z e; rw [e]; split <;> omega
    generalize hz : (if n % 2 = 0 then p1 else p2) = z
    obtain ⟨z0, z1⟩ := hq z hz.symm
    unfold trStep
    split
    · exact ⟨i1, i2, i3⟩
    · have := leg_in (will := will) (day := day) (wk := (n : Int)) hL hw0 hw1 z0 z1 i1 i2 (i3 z z0 z1).1 (i3 z z0 z1).2
      refine ⟨this.1, this.2.1, fun q q0 q1 => ?_⟩
      show 0 ≤ (if q = z then _ else _) ∧ (if q = z then _ else _) ≤ 9
      split
      · exact this.2.2
      · exact i3 q q0 q1
theorem trT_in : ∀ n : Nat, -1 ≤ trT f w p1 p2 will day h0 n ∧ trT f w p1 p2 will day h0 n < (n : Int) := by
  intro n
  induction n with
  | zero => exact ⟨by show (-1 : Int) ≤ -1; omega, by show (-1 : Int) < 0; omega⟩
  | succ n ih => unfold trT; split <;> omega
end
section
variable {A B L : Nat} {s : zS}
/-- a State set from another one -/
theorem p56 (hd : A + 5 < B ∨ B + 5 < A) : Ok (m56 A B s) (fun _ t => (∀ k, 0 ≤ k → k < 8 → t.1 (A + 1) k = s.1 (B + 1) k) ∧ (∀ k, 0 ≤ k → k < 6 → t.1 (A + 2) k = s.1 (B + 2) k ∧ t.1 (A + 3) k = s.1 (B + 3) k ∧ t.1 (A + 4) k = s.1 (B + 4) k) ∧ (∀ k, 0 ≤ k → k < 8 → t.1 (A + 5) k = s.1 (B + 5) k) ∧ t.1 A 5 = s.1 B 5 ∧ t.1 A 6 = s.1 B 6 ∧ t.1 A 7 = s.1 B 7 ∧ Fr (fun a _ => A ≤ a ∧ a ≤ A + 5) s t) := by
  unfold m56
  refine k_y (by omega) (by omega) (by omega) (by omega) (by omega) (k_v ?_)
  refine k_y (by omega) (by omega) (by omega) (by omega) (by omega) (k_v ?_)
  refine k_y (by omega) (by omega) (by omega) (by omega) (by omega) (k_v ?_)
  refine k_y (by omega) (by omega) (by omega) (by omega) (by omega) (k_v ?_)
  refine k_y (by omega) (by omega) (by omega) (by omega) (by omega) (k_v (k_v (k_v (k_v (k_v (k_v (k_v (k_r ?_))))))))
  refine ⟨fun k k1 k2 => ?_, fun k k1 k2 => ⟨?_, ?_, ?_⟩, fun k k1 k2 => ?_, ?_, ?_, ?_, ?_⟩
  · rw [sI_a (by omega), sI_a (by omega), sI_a (by omega), sC_a (by omega), sC_a (by omega), sC_a (by omega), sC_a (by omega), sC_i (by omega) (by omega), show (0 : Int) + (k - 0) = k by omega]
  · rw [sI_a (by omega), sI_a (by omega), sI_a (by omega), sC_a (by omega), sC_a (by omega), sC_a (by omega), sC_i (by omega) (by omega), sC_a (by omega), show (0 : Int) + (k - 0) = k by omega]
  · rw [sI_a (by omega), sI_a (by omega), sI_a (by omega), sC_a (by omega), sC_a (by omega), sC_i (by omega) (by omega), sC_a (by omega), sC_a (by omega), show (0 : Int) + (k - 0) = k by omega]
  · rw [sI_a (by omega), sI_a (by omega), sI_a (by omega), sC_a (by omega), sC_i (by omega) (by omega), sC_a (by omega), sC_a (by omega), sC_a (by omega), show (0 : Int) + (k - 0) = k by omega]
  · rw [sI_a (by omega), sI_a (by omega), sI_a (by omega), sC_i (by omega) (by omega), sC_a (by omega), sC_a (by omega), sC_a (by omega), sC_a (by omega), show (0 : Int) + (k - 0) = k by omega]
  · rw [sI_k (by omega), sI_k (by omega), sI_e, sC_a (by omega), sC_a (by omega), sC_a (by omega), sC_a (by omega), sC_a (by omega)]
  · rw [sI_k (by omega), sI_e, sI_a (by omega), sC_a (by omega), sC_a (by omega), sC_a (by omega), sC_a (by omega), sC_a (by omega)]
  · rw [sI_e, sI_a (by omega), sI_a (by omega), sC_a (by omega), sC_a (by omega), sC_a (by omega), sC_a (by omega), sC_a (by omega)]
  · exact fr_trans (fr_C fun k _ _ => by omega) (fr_trans (fr_C fun k _ _ => by omega) (fr_trans (fr_C fun k _ _ => by omega) (fr_trans (fr_C fun k _ _ => by omega) (fr_trans (fr_C fun k _ _ => by omega) (fr_trans (fr_I (by omega)) (fr_trans (fr_I (by omega)) (fr_I (by omega))))))))
theorem e5 {w : Int} (h1 : 0 ≤ w) (h2 : w < 6) (hM : s.2.2 3 = L) : m5 A w s = some (if s.1 (A + 3) w = s.1 (L + 15) w then 1 else 0, s) := by
  unfold m5
  simp only [oV_eq, hM]
  rw [oX_pos h1 (by omega), oX_pos h1 (by omega)]
  split <;> rfl
abbrev tFr (L : Nat) (a : Nat) (_ : Int) : Prop := a = 11 ∨ (13 ≤ a ∧ a ≤ 19) ∨ a = L + 19 ∨ a = L + 22
/-- the class's loop -/
theorem p99_34 {w p1 p2 will day : Int} {h0 : Int → Int} {s0 : zS} (hLL : L = 43 ∨ L = 66) (hL : rLand s0.1 s0.2.1 L) (hM : s0.2.2 3 = L) (hw0 : 0 ≤ w) (hw1 : w < s0.1 242 6) (hp0 : 0 ≤ p1) (hp1 : p1 < s0.1 242 5) (hq0 : 0 ≤ p2) (hq1 : p2 < s0.1 242 5) (hh : ∀ q, 0 ≤ q → q < s0.1 242 5 → 0 ≤ h0 q ∧ h0 q ≤ 9) (hd0 : 0 ≤ day) (hd1 : day ≤ 2000) (hi0 : 0 ≤ will) (hi1 : will ≤ 99) :
    ∀ (n i : Nat) (s : zS), i ≤ 31 → 31 - i < n → Fr (tFr L) s0 s → s.1 14 6 = day → s.1 17 w = (trP s0.1 w p1 p2 will day h0 i).1 → (∀ q, 0 ≤ q → q < s0.1 242 5 → s.1 15 q = (trP s0.1 w p1 p2 will day h0 i).2 q) → (trT s0.1 w p1 p2 will day h0 i = -1 → s.1 18 w = (i : Int)) → (∀ j : Nat, j < i → s.1 13 (j : Int) = (trP s0.1 w p1 p2 will day h0 j).1) →
      Ok (m99_34 n w p1 p2 will (trT s0.1 w p1 p2 will day h0 i) (i : Int) s) (fun r t => r = trT s0.1 w p1 p2 will day h0 31 ∧ (∀ j : Nat, j ≤ 30 → t.1 13 (j : Int) = (trP s0.1 w p1 p2 will day h0 j).1) ∧ Fr (tFr L) s0 t) := by
  have hm := mLand_of hL
  have hq2 := (hm.2.2.1 w hw0 hw1)
  have hP : 0 < s0.1 242 4 := by omega
  have hw6 : w < 6 := by have := hm.1; omega
  have hp8 : s0.1 242 5 ≤ 8 := by have := hm.1; omega
  have hgoal : s0.1 (L + 15) w = s0.1 246 (20 + 3 * w) := (hL.2.2.2.1 w hw0 hw1).2.2.1
  intro n
  induction n with
  | zero => intro i s h1 h2; omega
  | succ n ih =>
    intro i s h1 h2 hs hday hat hhb hwk hpath
    rw [m99_34]
    by_cases hi : i = 31
    · subst hi
      exact k_p (by omega) (k_r ⟨rfl, fun j hj => hpath j (by omega), hs⟩)
    refine k_q (by omega) (k_x hw0 (by omega) (k_v (k_x (by omega) (by omega) (k_v ?_))))
    -- the way is laid
    generalize hs4 : sI s 13 (i : Int) (s.1 17 w) = s4
    have f4 : Fr (tFr L) s0 s4 := by rw [← hs4]; exact fr_trans hs (fr_I (by omega))
    have v17 : s4.1 17 w = (trP s0.1 w p1 p2 will day h0 i).1 := by rw [← hs4, sI_a (by omega)]; exact hat
    have v15 : ∀ q, 0 ≤ q → q < s0.1 242 5 → s4.1 15 q = (trP s0.1 w p1 p2 will day h0 i).2 q := fun q a b => by rw [← hs4, sI_a (by omega)]; exact hhb q a b
    have v18 : trT s0.1 w p1 p2 will day h0 i = -1 → s4.1 18 w = (i : Int) := fun a => by rw [← hs4, sI_a (by omega)]; exact hwk a
    have v14 : s4.1 14 6 = day := by rw [← hs4, sI_a (by omega)]; exact hday
    have v13 : ∀ j : Nat, j < i + 1 → s4.1 13 (j : Int) = (trP s0.1 w p1 p2 will day h0 j).1 := by
      intro j hj
      by_cases e : j = i
      · subst e; rw [← hs4, sI_e]; exact hat
      · rw [← hs4, sI_k (by omega)]; exact hpath j (by omega)
    have hM4 : s4.2.2 3 = L := by rw [f4.2.2]; exact hM
    have e4 : m5 14 w s4 = some (if (trP s0.1 w p1 p2 will day h0 i).1 = s0.1 246 (20 + 3 * w) then 1 else 0, s4) := by
      rw [e5 hw0 hw6 hM4, v17, f4.1 (L + 15) w (by omega), hgoal]
    -- no leg more
    have stay : ∀ r, r ≠ -1 → r = trT s0.1 w p1 p2 will day h0 (i + 1) → (trP s0.1 w p1 p2 will day h0 i).1 = s0.1 246 (20 + 3 * w) → Ok (m99_82 (m99_34 n) w p1 p2 will r (i : Int) s4) (fun r t => r = trT s0.1 w p1 p2 will day h0 31 ∧ (∀ j : Nat, j ≤ 30 → t.1 13 (j : Int) = (trP s0.1 w p1 p2 will day h0 j).1) ∧ Fr (tFr L) s0 t) := by
      intro r hr er hg
      unfold m99_82
      refine k_q hr (k_z (by omega) (by omega) ?_)
      have e' : trP s0.1 w p1 p2 will day h0 (i + 1) = trP s0.1 w p1 p2 will day h0 i := by
        show trStep _ _ _ _ _ _ _ = _
        unfold trStep
        rw [if_pos hg]
      have := ih (i + 1) s4 (by omega) (by omega) f4 v14 (by rw [e']; exact v17) (by rw [e']; exact v15) (fun z => absurd (er.trans z) hr) v13
      rw [← er] at this
      exact this
    by_cases ht : trT s0.1 w p1 p2 will day h0 i = -1
    · refine k_p ht (k_e e4 ?_)
      by_cases hg : (trP s0.1 w p1 p2 will day h0 i).1 = s0.1 246 (20 + 3 * w)
      · rw [if_pos hg]
        refine k_q (by omega) ?_
        refine stay (i : Int) (by omega) ?_ hg
        show _ = (if _ then _ else _)
        rw [if_pos ⟨ht, hg⟩]
      · rw [if_neg hg]
        refine k_p rfl ?_
        rw [ht]
        unfold m99_82
        have et : trT s0.1 w p1 p2 will day h0 (i + 1) = -1 := by
          show (if _ then _ else _) = _
          rw [if_neg (fun z => hg z.2)]; exact ht
        have l4 := rLand_sfr hLL (fun a k q => by omega) f4 hL
        have eq4 : eqL s0.1 s4.1 := eqL_fr f4 (fun a k q => by omega)
        have tin := trP_in (will := will) (day := day) hm hP hw0 hw1 hp0 hp1 hq0 hq1 hh i
        -- the leg
        have leg : ∀ q, q = (if i % 2 = 0 then p1 else p2) → Ok (m8 14 w q will s4) (fun _ t => Ok (m99_34 n w p1 p2 will (-1) ((i : Int) + 1) t) (fun r t => r = trT s0.1 w p1 p2 will day h0 31 ∧ (∀ j : Nat, j ≤ 30 → t.1 13 (j : Int) = (trP s0.1 w p1 p2 will day h0 j).1) ∧ Fr (tFr L) s0 t)) := by
          intro q hq
          have hqq : 0 ≤ q ∧ q < s0.1 242 5 := by rw [hq]; split <;> omega
          have w4 : s4.1 242 = s0.1 242 := eq4.1
          have h15 := v15 q hqq.1 hqq.2
          have h15' := tin.2.2 q hqq.1 hqq.2
          refine k_m (p8 (A := 14) (L := L) (w := w) (p := q) (will := will) (s := s4) hLL (Or.inl rfl) l4 hM4 hw0 (by rw [w4]; exact hw1) hqq.1 (by rw [w4]; exact hqq.2) (by rw [v17]; exact tin.1) (by rw [v17, w4]; exact tin.2.1) (by rw [h15]; exact h15'.1) (by rw [h15]; exact h15'.2) (by rw [v18 ht]; omega) (by rw [v18 ht]; omega) (by rw [v14]; exact hd0) (by rw [v14]; exact hd1) hi0 hi1) ?_
          intro _ t hq8
          obtain ⟨y1, y2, y3, y4⟩ := hq8
          rw [show s4.1 (14 + 3) w = _ from v17, show s4.1 (14 + 1) q = _ from h15, show s4.1 (14 + 4) w = _ from v18 ht, v14, legTo_eq eq4] at y1
          rw [show s4.1 (14 + 3) w = _ from v17, show s4.1 (14 + 1) q = _ from h15, show s4.1 (14 + 4) w = _ from v18 ht, v14, legHb_eq eq4] at y2
          rw [show s4.1 (14 + 4) w = _ from v18 ht, if_pos (by omega)] at y3
          have e' : trP s0.1 w p1 p2 will day h0 (i + 1) = (legTo s0.1 w q (trP s0.1 w p1 p2 will day h0 i).1 ((trP s0.1 w p1 p2 will day h0 i).2 q) (i : Int) will day, fun r => if r = q then legHb s0.1 w q (trP s0.1 w p1 p2 will day h0 i).1 ((trP s0.1 w p1 p2 will day h0 i).2 q) (i : Int) will day else (trP s0.1 w p1 p2 will day h0 i).2 r) := by
            show trStep _ _ _ _ _ _ _ = _
            unfold trStep
            rw [if_neg hg, ← hq]
          have ft : Fr (tFr L) s0 t := fr_trans f4 (fr_mono (fun a k z => by omega) y4)
          have := ih (i + 1) t (by omega) (by omega) ft (by rw [y4.1 14 6 (by omega)]; exact v14) (by rw [e']; exact y1) (fun r r0 r1 => by
            rw [e']
            show t.1 15 r = (if r = q then _ else _)
            by_cases er : r = q
            · rw [if_pos er, er]; exact y2
            · rw [if_neg er, y4.1 15 r (by omega)]; exact v15 r r0 r1) (fun _ => y3.trans (by omega)) (fun j hj => by rw [y4.1 13 _ (by omega)]; exact v13 j hj)
          rw [et] at this
          exact this
        refine k_p rfl (k_n (by decide) (k_v ?_))
        have em : Int.tmod (i : Int) 2 = ((i % 2 : Nat) : Int) := by rw [Int.tmod_eq_emod_of_nonneg (by omega)]; omega
        rw [em]
        by_cases ev : i % 2 = 0
        · refine k_p (by omega) (k_c (leg p1 (by rw [if_pos ev])) ?_)
          intro _ t ht'
          exact k_z (by omega) (by omega) ht'
        · refine k_q (by omega) (k_c (leg p2 (by rw [if_neg ev])) ?_)
          intro _ t ht'
          exact k_z (by omega) (by omega) ht'
    · refine k_q ht ?_
      refine stay _ ht ?_ (trT_there i ht)
      show _ = (if _ then _ else _)
      rw [if_neg (fun z => ht z.1)]
/-- the class's trial from now on -/
theorem p99 {n : Nat} {w p1 p2 will : Int} (hR : R n s) (hw0 : 0 ≤ w) (hw1 : w < s.1 242 6) (hp0 : 0 ≤ p1) (hp1 : p1 < s.1 242 5) (hq0 : 0 ≤ p2) (hq1 : p2 < s.1 242 5) (hi0 : 0 ≤ will) (hi1 : will ≤ 99) :
    Ok (m99 28 w p1 p2 will s) (fun r t => r = trT s.1 w p1 p2 will (s.1 254 0) (fun q => s.1 254 (2 + q)) 31 ∧ (∀ j : Nat, j ≤ 30 → t.1 13 (j : Int) = (trP s.1 w p1 p2 will (s.1 254 0) (fun q => s.1 254 (2 + q)) j).1) ∧ Fr (tFr (s.2.2 1)) s t) := by
  have hLL := R_LL hR
  have hM := R_M3 hR
  have hL := R_land hR
  generalize hL1 : s.2.2 1 = L at *
  obtain ⟨hN, hI⟩ := R_now hR
  obtain ⟨b1, b2, b3, b4, b5, b6, b7, b8, b9, b10⟩ := hL.1
  have hday : s.1 28 6 = s.1 254 0 := hN.1
  have hdi : 0 ≤ s.1 254 0 ∧ s.1 254 0 ≤ 999 := hI.1
  unfold m99
  refine k_c (p56 (A := 14) (B := 28) (Or.inl (by omega))) ?_
  intro _ t ht
  obtain ⟨c1, c2, c3, c4, c5, c6, c7⟩ := ht
  refine k_x hw0 (by omega) (k_v (k_x hw0 (by omega) (k_v ?_)))
  generalize hu : sI (sI t 17 w 0) 18 w 0 = u
  have fu : Fr (tFr L) s u := by
    rw [← hu]
    exact fr_trans (fr_mono (fun a k q => by omega) c7) (fr_trans (fr_I (by omega)) (fr_I (by omega)))
  have := p99_34 (L := L) (w := w) (p1 := p1) (p2 := p2) (will := will) (day := s.1 254 0) (h0 := fun q => s.1 254 (2 + q)) (s0 := s) hLL hL hM hw0 hw1 hp0 hp1 hq0 hq1 (fun q q0 q1 => hI.2.2.1 q q0 q1) hdi.1 (by omega) hi0 hi1 zFu 0 u (by omega) (by unfold zFu; omega) fu
    (by rw [← hu, sI_a (by omega), sI_a (by omega), c5]; exact hday) (by rw [← hu, sI_a (by omega), sI_e]; rfl) (fun q q0 q1 => by rw [← hu, sI_a (by omega), sI_a (by omega), c1 q q0 (by omega)]; exact hN.2.2.1 q q0 q1) (fun _ => by rw [← hu, sI_e]; rfl) (fun j hj => by omega)
  exact this
end
