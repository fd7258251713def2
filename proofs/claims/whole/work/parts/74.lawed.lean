/-! ===== lawed ===== -/
/-- how many are there, from walker w on, j of them -/
def lwS (f : Nat → Int → Int) (law day : Int) (h0 : Int → Int) : Nat → Int → Int → (Int → Int) → Int
  | 0, _, a, _ => a
  | j + 1, w, a, N => if N (11 + 3 * w) = 0 ∧ 0 < N 28 then lwS f law day h0 j (w + 1) (if trT f w (N (29 + chc (fun k => tgt f w (N (29 + k))) law (N 28))) (N (29 + chc (fun k => tgt f w (N (29 + k))) law (N 28))) (f 246 (19 + 3 * w)) day h0 31 = -1 then a else a + 1) (exN N w (chc (fun k => tgt f w (N (29 + k))) law (N 28)) (N 28) 1) else lwS f law day h0 j (w + 1) a N
/-- by the habit of that pair alone -/
theorem trT_h {f : Nat → Int → Int} {w p will day b : Int} {h h' : Int → Int} (hh : ∀ q, 0 ≤ q → q < b → h q = h' q) (p0 : 0 ≤ p) (p1 : p < b) (n : Nat) : trT f w p p will day h n = trT f w p p will day h' n := by
  have key : ∀ n, (trP f w p p will day h n).1 = (trP f w p p will day h' n).1 ∧ (trP f w p p will day h n).2 p = (trP f w p p will day h' n).2 p ∧ trT f w p p will day h n = trT f w p p will day h' n := by
    intro n
    induction n with
    | zero => exact ⟨rfl, hh p p0 p1, rfl⟩
    | succ n ih =>
      obtain ⟨i1, i2, i3⟩ := ih
      refine ⟨?_, ?_, ?_⟩
      · show (trStep _ _ _ _ _ _ _).1 = (trStep _ _ _ _ _ _ _).1
        rw [ite_self]
        unfold trStep
        rw [i1]
        by_cases c : (trP f w p p will day h' n).1 = f 246 (20 + 3 * w)
        · rw [if_pos c, if_pos c]; exact i1
        · rw [if_neg c, if_neg c, i2]
      · show (trStep _ _ _ _ _ _ _).2 p = (trStep _ _ _ _ _ _ _).2 p
        rw [ite_self]
        unfold trStep
        rw [i1]
        by_cases c : (trP f w p p will day h' n).1 = f 246 (20 + 3 * w)
        · rw [if_pos c, if_pos c]; exact i2
        · rw [if_neg c, if_neg c, i2]
          dsimp only
          rw [if_pos rfl, if_pos rfl]
      · show (if _ then _ else _) = (if _ then _ else _)
        rw [i1, i3]
  exact (key n).2.2
abbrev kFr (L : Nat) (a : Nat) (_ : Int) : Prop := a = 11 ∨ (13 ≤ a ∧ a ≤ 19) ∨ (34 ≤ a ∧ a ≤ 39) ∨ a = L + 19 ∨ a = L + 22
theorem scr_k {L a : Nat} {k : Int} (h : kFr L a k) : Scr L a k := by
  rcases h with h | h | h | h | h
  · exact Or.inr (Or.inl (by omega))
  · exact Or.inr (Or.inl (by omega))
  · exact Or.inr (Or.inr (Or.inr (Or.inr (Or.inl h))))
  · exact Or.inr (Or.inr (Or.inr (Or.inr (Or.inr (Or.inl h)))))
  · exact Or.inr (Or.inr (Or.inr (Or.inr (Or.inr (Or.inr (Or.inl h))))))
theorem p118_26 {n0 : Nat} {s0 : zS} {law : Int} (hR : R n0 s0) : ∀ (n j : Nat) (w a : Int) (s : zS) (N : Int → Int), w = s0.1 242 6 - (j : Int) → 0 ≤ w → j < n → 0 ≤ a → a ≤ w → sRel s.1 34 N → nInv (s0.1 242 4) (s0.1 242 5) (s0.1 242 6) N → Fr (kFr (s0.2.2 1)) s0 s → Ok (m118_26 n law a w s) (fun r t => r = lwS s0.1 law (s0.1 254 0) (fun q => s0.1 254 (2 + q)) j w a N ∧ Fr (kFr (s0.2.2 1)) s0 t) := by
  have hLL := R_LL hR
  obtain ⟨b1, b2, b3, b4, b5, b6, b7, b8, b9, b10⟩ := R_cnt hR
  have hm := R_ml hR
  intro n
  induction n with
  | zero => intro j w a s N _ _ h; omega
  | succ n ih =>
    intro j w a s N hw w0 hj a0 a1 hS hI hs
    have hRs : R n0 s := R_fr hR (frj_of (fr_mono (fun a k z => scr_k z) hs))
    have hM : s.2.2 = s0.2.2 := hs.2.2
    have eqs : eqL s0.1 s.1 := eqL_fr hs (fun a k q => by omega)
    have e242 : s.1 242 = s0.1 242 := eqs.1
    have e254 : s.1 254 = s0.1 254 := funext fun k => hs.1 254 k (by omega)
    have c28 : N 28 = s0.1 242 5 - s0.1 242 6 := hI.2.2.2.2.1
    rw [m118_26]
    refine k_v (k_v ?_)
    rw [hM, hs.1 (s0.2.2 1 + 5) 0 (by omega), b6]
    cases j with
    | zero => exact k_q (by omega) (k_r ⟨rfl, hs⟩)
    | succ j =>
      have w1 : w < s0.1 242 6 := by omega
      have yw := hS.2.2.2.1 w w0 (by rw [e242]; exact w1)
      have hq := hI.2.2.2.1 w w0 w1
      have e37 : s.1 37 w = N (11 + 3 * w) - 1 := yw.2.1
      have e345 : s.1 34 5 = N 28 := hS.2.2.2.2.1
      have skip : ¬ (N (11 + 3 * w) = 0 ∧ 0 < N 28) → Ok (m118_26 n law a (w + 1) s) (fun r t => r = lwS s0.1 law (s0.1 254 0) (fun q => s0.1 254 (2 + q)) (j + 1) w a N ∧ Fr (kFr (s0.2.2 1)) s0 t) := by
        intro nc
        have := ih j (w + 1) a s N (by omega) (by omega) (by omega) a0 (by omega) hS hI hs
        refine k_m this (fun r t q => ⟨?_, q.2⟩)
        rw [q.1]
        show _ = (if N (11 + 3 * w) = 0 ∧ 0 < N 28 then _ else _)
        rw [if_neg nc]
      refine k_p w1 (k_x w0 (by omega) (k_v ?_))
      rw [e37]
      by_cases c1 : N (11 + 3 * w) = 0
      · refine k_p (by omega) (k_v ?_)
        rw [e345]
        by_cases c2 : 0 < N 28
        · refine k_p c2 (k_v ?_)
          have ls : rLand s.1 s.2.1 (s0.2.2 1) := by have := R_land hRs; rw [hM] at this; exact this
          refine k_c (p62 (A := 34) (L := s0.2.2 1) (w := w) (law := law) (N := N) (c := N 28) ls hS (by rw [e242]; exact hI) (by omega) w0 (by rw [e242]; exact w1) rfl (by omega)) ?_
          intro p u hu
          obtain ⟨u1, u2, u3⟩ := hu
          have etg : ∀ w p, tgt s.1 w p = tgt s0.1 w p := fun w p => by unfold tgt; rw [eqs.2.1, eqs.2.2.1]
          simp only [etg] at u1 u2
          have hin := chc_in (g := fun k => tgt s0.1 w (N (29 + k))) (law := law) (c := N 28) (by omega)
          generalize hk : chc (fun k => tgt s0.1 w (N (29 + k))) law (N 28) = kk at u1 u2 hin
          have hpr := hI.2.2.2.2.2.1 kk hin.1 (by omega)
          have fu : Fr (kFr (s0.2.2 1)) s0 u := fr_trans hs (fr_mono (fun a k z => by omega) u3)
          have hRu : R n0 u := R_fr hR (frj_of (fr_mono (fun a k z => scr_k z) fu))
          have equ : eqL s0.1 u.1 := eqL_fr fu (fun a k q => by omega)
          have u254 : u.1 254 = s0.1 254 := funext fun k => fu.1 254 k (by omega)
          have hMu : u.2.2 = s0.2.2 := fu.2.2
          have hwl := (R_land hR).2.2.2.1 w w0 w1
          refine k_v ?_
          rw [hMu]
          refine k_x w0 (by omega) (k_v ?_)
          rw [fu.1 (s0.2.2 1 + 14) w (by omega), hwl.2.1, u1]
          refine k_c (p99 hRu w0 (by rw [equ.1]; exact w1) hpr.1 (by rw [equ.1]; exact hpr.2) hpr.1 (by rw [equ.1]; exact hpr.2) (by omega) (by omega)) ?_
          intro r v hv
          obtain ⟨v1, v2, v3⟩ := hv
          rw [(trT_eq equ 31).2, u254] at v1
          rw [hMu] at v3
          have fv : Fr (kFr (s0.2.2 1)) s0 v := fr_trans fu (fr_mono (fun a k z => by omega) v3)
          have hSv : sRel v.1 34 (exN N w kk (N 28) 1) := by
            have x28 : exN N w kk (N 28) 1 28 = N 28 := exN_0 w0 (by omega) (by omega)
            refine sRel_eq (f := u.1) (v3.1 242 5 (by omega)) (v3.1 242 6 (by omega)) (fun a k z1 z2 => v3.1 a k (by omega)) (fun _ _ _ => rfl) (by rw [equ.1]; exact b5) (by rw [equ.1]; exact b8) (by rw [x28]; omega) u2
          have hIv := nInv_ex (N := N) (q := 1) b5 b8 w0 w1 c28 hin.1 (Or.inl hin.2) (by omega) (by have := hm.2.2.1 w w0 w1; omega) hI
          have fin : ∀ b, 0 ≤ b → b ≤ w + 1 → b = (if r = -1 then a else a + 1) → Ok (m118_26 n law b (w + 1) v) (fun r t => r = lwS s0.1 law (s0.1 254 0) (fun q => s0.1 254 (2 + q)) (j + 1) w a N ∧ Fr (kFr (s0.2.2 1)) s0 t) := by
            intro b b0' b1' eb
            have := ih j (w + 1) b v _ (by omega) (by omega) (by omega) b0' b1' hSv hIv fv
            refine k_m this (fun r' t q => ⟨?_, q.2⟩)
            rw [q.1, eb, v1, ← hk]
            show _ = (if N (11 + 3 * w) = 0 ∧ 0 < N 28 then _ else _)
            rw [if_pos (show N (11 + 3 * w) = 0 ∧ 0 < N 28 from ⟨c1, c2⟩)]
          refine k_i (fun c3 => ?_) (fun c3 => ?_)
          · exact k_z (by omega) (by omega) (fin a a0 (by omega) (by rw [if_pos c3]))
          · exact k_z (by omega) (by omega) (k_z (by omega) (by omega) (fin (a + 1) (by omega) (by omega) (by rw [if_neg c3])))
        · exact k_q c2 (k_z (by omega) (by omega) (skip (fun z => c2 z.2)))
      · exact k_q (by omega) (k_z (by omega) (by omega) (skip (fun z => c1 z.1)))
abbrev jFr (a : Nat) (k : Int) : Prop := a = 254 ∨ uFr a k
theorem p229_22 {s0 : zS} {law : Int} (hm : mLand s0.1) (hl : law ≤ 2) (h0 : Int → Int) (day : Int) (hd : inM day) : ∀ (n j : Nat) (w a : Int) (s : zS) (N : Int → Int), w = s0.1 242 6 - (j : Int) → 0 ≤ w → j < n → 0 ≤ a → a ≤ w → (∀ i, 0 ≤ i → i < 37 → s.1 254 i = N i) → nInv (s0.1 242 4) (s0.1 242 5) (s0.1 242 6) N → N 0 = day → (∀ q, 0 ≤ q → q < s0.1 242 5 → N (2 + q) = h0 q) → (∀ q, h0 q = s0.1 255 (2 + q)) → FrJ jFr s0 s → Ok (m229_22 n law a w s) (fun r t => r = lwS s0.1 law day h0 j w a N ∧ ∃ u, FrJ jFr s0 u ∧ (∀ i, 0 ≤ i → i < 37 → t.1 254 i = s0.1 255 i) ∧ Fr (fun a _ => a = 254) u t) := by
  obtain ⟨a1, a2, a3, a4, a5, a6⟩ := hm.1
  intro n
  induction n with
  | zero => intro j w a s N _ _ h; omega
  | succ n ih =>
    intro j w a s N hw w0 hj x0 x1 hN hI hN0 hNh hh hs
    have g : ∀ a k, a ≠ 209 → a ≠ 287 → a ≠ 254 → a ≠ 256 → s.1 a k = s0.1 a k := fun a k m1 m2 m3 m4 => (hs.1 a k (by omega)).1
    have eqs : eqL s0.1 s.1 := ⟨funext fun k => g 242 k (by omega) (by omega) (by omega) (by omega), funext fun k => g 245 k (by omega) (by omega) (by omega) (by omega), funext fun k => g 246 k (by omega) (by omega) (by omega) (by omega), funext fun k => g 248 k (by omega) (by omega) (by omega) (by omega), funext fun k => g 249 k (by omega) (by omega) (by omega) (by omega), funext fun k => g 250 k (by omega) (by omega) (by omega) (by omega), funext fun k => g 251 k (by omega) (by omega) (by omega) (by omega), funext fun k => g 253 k (by omega) (by omega) (by omega) (by omega)⟩
    have hIs : nInv (s0.1 242 4) (s0.1 242 5) (s0.1 242 6) (fun i => s.1 254 i) := nInv_eq (by omega) (by omega) (by omega) (fun i i0 i1 => hN i i0 i1) hI
    have c28 : N 28 = s0.1 242 5 - s0.1 242 6 := hI.2.2.2.2.1
    have h28 := hN 28 (by omega) (by omega)
    rw [m229_22]
    refine k_e e183 ?_
    rw [eqs.1]
    cases j with
    | zero =>
      refine k_q (by omega) (k_c p204 ?_)
      intro _ t ht
      exact k_r ⟨rfl, s, hs, fun i i0 i1 => by rw [ht.1 i i0 i1]; exact g 255 i (by omega) (by omega) (by omega) (by omega), ht.2⟩
    | succ j =>
      have w1 : w < s0.1 242 6 := by omega
      have h11 := hN (11 + 3 * w) (by omega) (by omega)
      have hq := hI.2.2.2.1 w w0 w1
      refine k_p w1 (k_e (e215m (by rw [eqs.1]; omega) (by rw [eqs.1]; omega) (fun v v0 v1 => by rw [eqs.1] at v1; have := hIs.2.2.2.1 v v0 v1; dsimp only at this; omega)) ?_)
      rw [eqs.1, h11, h28]
      by_cases c : N (11 + 3 * w) = 0 ∧ 0 < N 28
      · rw [if_pos (show ((0 ≤ w ∧ w < s0.1 242 6) ∧ N (11 + 3 * w) = 0) ∧ 0 < N 28 from ⟨⟨⟨w0, w1⟩, c.1⟩, c.2⟩)]
        refine k_q (by decide) (k_c (p228 (w := w) (law := law) (c := N 28) (mLand_eq eqs hm) (by rw [eqs.1]; exact hIs) w0 (by rw [eqs.1]; exact w1) h28 (by omega) hl) ?_)
        intro p u hu
        obtain ⟨u1, u2, u3⟩ := hu
        have etg : ∀ w p, tgt s.1 w p = tgt s0.1 w p := fun w p => by unfold tgt; rw [eqs.2.1, eqs.2.2.1]
        have echc : chc (fun k => tgt s.1 w (s.1 254 (29 + k))) law (N 28) = chc (fun k => tgt s0.1 w (N (29 + k))) law (N 28) := by
          unfold chc
          split
          · rfl
          · exact chs_congr (m := N 28) (fun k k0 k1 => by rw [etg, hN _ (by omega) (by omega)]) _ 0 1 (by omega) (by omega) (by omega)
        rw [echc] at u1 u2
        have hin := chc_in (g := fun k => tgt s0.1 w (N (29 + k))) (law := law) (c := N 28) (by omega)
        generalize hk : chc (fun k => tgt s0.1 w (N (29 + k))) law (N 28) = kk at u1 u2 hin
        rw [hN _ (by omega) (by omega)] at u1
        have hpr := hI.2.2.2.2.2.1 kk hin.1 (by omega)
        have fu : FrJ jFr s0 u := frj_trans hs (frj_mono (fun a k z => Or.inl z) (frj_of u3))
        have gu : ∀ a k, a ≠ 209 → a ≠ 287 → a ≠ 254 → a ≠ 256 → u.1 a k = s0.1 a k := fun a k m1 m2 m3 m4 => (fu.1 a k (by omega)).1
        have equ : eqL s0.1 u.1 := ⟨funext fun k => gu 242 k (by omega) (by omega) (by omega) (by omega), funext fun k => gu 245 k (by omega) (by omega) (by omega) (by omega), funext fun k => gu 246 k (by omega) (by omega) (by omega) (by omega), funext fun k => gu 248 k (by omega) (by omega) (by omega) (by omega), funext fun k => gu 249 k (by omega) (by omega) (by omega) (by omega), funext fun k => gu 250 k (by omega) (by omega) (by omega) (by omega), funext fun k => gu 251 k (by omega) (by omega) (by omega) (by omega), funext fun k => gu 253 k (by omega) (by omega) (by omega) (by omega)⟩
        have hIu := nInv_ex (N := N) (q := 1) a6 a4 w0 w1 c28 hin.1 (Or.inl hin.2) (by omega) (by have := hm.2.2.1 w w0 w1; omega) hI
        have eu : ∀ i, 0 ≤ i → i < 37 → u.1 254 i = exN N w kk (N 28) 1 i := by
          intro i i0 i1
          rw [u2 i i0 i1]
          unfold exN
          dsimp only
          rw [hN (29 + kk) (by omega) (by omega), hN (10 + 3 * w) (by omega) (by omega), hN i i0 i1]
          by_cases e4 : 29 ≤ i ∧ i < 29 + N 28
          · by_cases e5 : i < 28 + N 28
            · rw [hN (i + 1) (by omega) (by omega)]
            · rw [if_neg e5, if_neg e5]
          · rw [if_neg e4, if_neg e4]
        have n0 : exN N w kk (N 28) 1 0 = N 0 := exN_0 w0 (by omega) (by omega)
        have nh : ∀ q, 0 ≤ q → q < s0.1 242 5 → exN N w kk (N 28) 1 (2 + q) = h0 q := fun q q0 q1 => by rw [exN_0 w0 (by omega) (by omega)]; exact hNh q q0 q1
        rw [u1]
        refine k_c (p218 (mLand_eq equ hm) (fun q q0 q1 => by rw [equ.1] at q1; rw [eu _ (by omega) (by omega)]; exact hIu.2.2.1 q q0 q1) (by rw [eu 0 (by omega) (by omega), n0, hN0]; exact hd) w0 (by rw [equ.1]; exact w1) hpr.1 (by rw [equ.1]; exact hpr.2)) ?_
        intro r v hv
        obtain ⟨v1, v2, v3⟩ := hv
        have etr : trT u.1 w (N (29 + kk)) (N (29 + kk)) (u.1 246 (19 + 3 * w)) (u.1 254 0) (fun q => u.1 254 (2 + q)) 31 = trT s0.1 w (N (29 + kk)) (N (29 + kk)) (s0.1 246 (19 + 3 * w)) day h0 31 := by
          rw [(trT_eq equ 31).2, equ.2.2.1, eu 0 (by omega) (by omega), n0, hN0]
          exact trT_h (fun q q0 q1 => by rw [eu _ (by omega) (by omega)]; exact nh q q0 q1) hpr.1 hpr.2 31
        rw [etr] at v1
        have fv : FrJ jFr s0 v := frj_trans fu (frj_mono (fun a k z => Or.inr z) v3)
        have ev : ∀ i, 0 ≤ i → i < 37 → v.1 254 i = exN N w kk (N 28) 1 i := fun i i0 i1 => by rw [(v3.1 254 i (by omega)).1]; exact eu i i0 i1
        have fin : ∀ b, 0 ≤ b → b ≤ w + 1 → b = (if r = -1 then a else a + 1) → Ok (m229_22 n law b (w + 1) v) (fun r t => r = lwS s0.1 law day h0 (j + 1) w a N ∧ ∃ u, FrJ jFr s0 u ∧ (∀ i, 0 ≤ i → i < 37 → t.1 254 i = s0.1 255 i) ∧ Fr (fun a _ => a = 254) u t) := by
          intro b b0' b1' eb
          have := ih j (w + 1) b v _ (by omega) (by omega) (by omega) b0' b1' ev hIu (n0.trans hN0) nh hh fv
          refine k_m this (fun r' t q => ⟨?_, q.2⟩)
          rw [q.1, eb, v1, ← hk]
          show _ = (if N (11 + 3 * w) = 0 ∧ 0 < N 28 then _ else _)
          rw [if_pos c]
        refine k_i (fun c3 => ?_) (fun c3 => ?_)
        · exact k_z (by omega) (by omega) (fin a x0 (by omega) (by rw [if_pos c3]))
        · exact k_z (by omega) (by omega) (k_z (by omega) (by omega) (fin (a + 1) (by omega) (by omega) (by rw [if_neg c3])))
      · rw [if_neg (show ¬ (((0 ≤ w ∧ w < s0.1 242 6) ∧ N (11 + 3 * w) = 0) ∧ 0 < N 28) from fun z => c ⟨z.1.2, z.2⟩)]
        have := ih j (w + 1) a s N (by omega) (by omega) (by omega) x0 (by omega) hN hI hN0 hNh hh hs
        refine k_p rfl (k_z (by omega) (by omega) (k_m this (fun r t q => ⟨?_, q.2⟩)))
        rw [q.1]
        show _ = (if N (11 + 3 * w) = 0 ∧ 0 < N 28 then _ else _)
        rw [if_neg c]
theorem scr_j {L a : Nat} {k : Int} (h : jFr a k) : Scr L a k ∨ a = 254 := by
  rcases h with h | ⟨h, hk⟩ | h | h
  · exact Or.inr h
  · exact Or.inl (Or.inr (Or.inr (Or.inr (Or.inr (Or.inr (Or.inr (Or.inr (Or.inr (Or.inl ⟨h, by omega⟩)))))))))
  · exact Or.inl (Or.inr (Or.inr (Or.inr (Or.inr (Or.inr (Or.inr (Or.inr (Or.inr (Or.inr (Or.inr (Or.inr (by omega))))))))))))
  · exact Or.inl (Or.inr (Or.inr (Or.inr (Or.inr (Or.inr (Or.inr (Or.inr (Or.inr (Or.inr (Or.inl (by omega)))))))))))
theorem t118 : T118 := by
  intro n s x hx hR hn
  obtain ⟨b1, b2, b3, b4, b5, b6, b7, b8, b9, b10⟩ := R_cnt hR
  have hLL := R_LL hR
  have hI := (R_now hR).2
  have hm := R_ml hR
  by_cases c : 0 ≤ x ∧ x ≤ 2
  · unfold Two m118
    refine k_q (by omega) (k_q (by omega) (k_c (p56 (A := 34) (B := 28) (Or.inr (by omega))) ?_))
    intro _ s1 h1
    have hS1 := now34 hR h1
    have f1 : Fr (kFr (s.2.2 1)) s s1 := fr_mono (fun a k z => by omega) h1.2.2.2.2.2.2
    refine k_m (p118_26 (s0 := s) (law := x) hR zFu (s.1 242 6).toNat 0 0 s1 (fun i => s.1 254 i) (by omega) (by omega) (by unfold zFu; omega) (by omega) (by omega) hS1 hI f1) ?_
    intro r s2 h2
    obtain ⟨g1, g2⟩ := h2
    have hR2 : R n s2 := R_fr hR (frj_of (fr_mono (fun a k z => scr_k z) g2))
    have eq2 : eqL s.1 s2.1 := eqL_fr g2 (fun a k q => by omega)
    have e254 : s2.1 254 = s.1 254 := funext fun k => g2.1 254 k (by omega)
    unfold m229
    refine k_e e150 ?_
    rw [if_pos c]
    refine k_q (by decide) (k_c p203 ?_)
    intro _ t1 h3
    have eq3 : eqL s.1 t1.1 := eqL_trans eq2 (eqL_fr h3.2 (fun a k q => by omega))
    have t254 : t1.1 254 = s.1 254 := funext fun k => by rw [h3.2.1 254 k (by omega), e254]
    refine k_m (p229_22 (s0 := t1) (law := x) (mLand_eq eq3 hm) c.2 (fun q => t1.1 255 (2 + q)) (s.1 254 0) (R_dd hR) zFu (s.1 242 6).toNat 0 0 t1 (fun i => s.1 254 i) (by rw [eq3.1]; omega) (by omega) (by unfold zFu; omega) (by omega) (by omega) (fun i _ _ => by rw [t254]) (by rw [eq3.1]; exact hI) rfl (fun q q0 q1 => by rw [eq3.1] at q1; rw [h3.1 _ (by omega) (by omega), e254]) (fun q => rfl) frj_refl) ?_
    intro r' t h4
    obtain ⟨y1, u, y2, y3, y4⟩ := h4
    refine ⟨?_, R_tmp hR2 ⟨fun a k zz => ?_, ?_⟩ (fun i i0 i1 => ?_)⟩
    · have key : ∀ (j : Nat) (w a : Int) (N : Int → Int), 0 ≤ w → w + (j : Int) ≤ s.1 242 6 → nInv (s.1 242 4) (s.1 242 5) (s.1 242 6) N → lwS t1.1 x (s.1 254 0) (fun q => t1.1 255 (2 + q)) j w a N = lwS s.1 x (s.1 254 0) (fun q => s.1 254 (2 + q)) j w a N := by
        intro j
        induction j with
        | zero => intro w a N _ _ _; rfl
        | succ j ih =>
          intro w a N w0 w1 hN
          have etg : ∀ w p, tgt t1.1 w p = tgt s.1 w p := fun w p => by unfold tgt; rw [eq3.2.1, eq3.2.2.1]
          have c28 : N 28 = s.1 242 5 - s.1 242 6 := hN.2.2.2.2.1
          show (if N (11 + 3 * w) = 0 ∧ 0 < N 28 then _ else _) = (if N (11 + 3 * w) = 0 ∧ 0 < N 28 then _ else _)
          by_cases d : N (11 + 3 * w) = 0 ∧ 0 < N 28
          · rw [if_pos d, if_pos d]
            simp only [etg]
            have hin := chc_in (g := fun k => tgt s.1 w (N (29 + k))) (law := x) (c := N 28) (by omega)
            generalize chc (fun k => tgt s.1 w (N (29 + k))) x (N 28) = kk at hin
            have hpr := hN.2.2.2.2.2.1 kk hin.1 (by omega)
            rw [(trT_eq eq3 31).2, eq3.2.2.1, trT_h (b := s.1 242 5) (h' := fun q => s.1 254 (2 + q)) (fun q q0 q1 => by rw [h3.1 _ (by omega) (by omega), e254]) hpr.1 hpr.2 31]
            exact ih _ _ _ (by omega) (by omega) (nInv_ex b5 b8 w0 (by omega) c28 hin.1 (Or.inl hin.2) (by omega) (by have := hm.2.2.1 w w0 (by omega); omega) hN)
          · rw [if_neg d, if_neg d]
            exact ih _ _ _ (by omega) (by omega) hN
      rw [g1, y1, key _ 0 0 _ (by omega) (by omega) hI]
    · have w1 := y4.1 a k (fun q => zz (Or.inr q))
      have w2 := y2.1 a k (fun q => zz (scr_j q))
      have w3 := h3.2.1 a k (fun q => zz (scr_255 q))
      exact ⟨by rw [w1, w2.1, w3], by rw [y4.2.1, w2.2, h3.2.2.1]⟩
    · rw [y4.2.2, y2.2, h3.2.2.2]
    · rw [y3 i i0 i1, h3.1 i i0 i1]
  · have fin : Ok (m229 x s) (fun r' s2 => -1 = r' ∧ R (n + 1) s2) := by
      unfold m229
      refine k_e e150 ?_
      rw [if_neg c]
      exact k_p rfl (k_r ⟨rfl, R_up hR⟩)
    unfold Two m118
    by_cases c0 : x < 0
    · exact k_p c0 (k_r fin)
    · exact k_q c0 (k_p (by omega) (k_r fin))
