/-! ===== the reference: a new land whole; its telling ===== -/
def rFn (x : Int) (l : List Int) (t : zS) : Prop := (l = [] ∧ t.1 249 (2 + x) = -1) ∨ (l ≠ [] ∧ 0 ≤ t.1 249 (2 + x) ∧ t.1 250 (2 + x) = t.1 249 (2 + x) + (l.length : Int) ∧ t.1 250 (2 + x) ≤ 1600 ∧ ∀ i : Nat, i < l.length → t.1 251 (1600 + (t.1 249 (2 + x) + (i : Int))) = l.getD i 0)
def rNwL (D : dL) (s t : zS) : Prop := (∀ k, 0 ≤ k → k < 4 → t.1 242 (4 + k) = D.1 0 k) ∧ (∀ d i, 0 ≤ d → d < 3 → 0 ≤ i → i < D.1 0 d → t.2.1 243 (24 + 8 * d + i) = D.1 1 (8 * d + i)) ∧
  (∀ p, 0 ≤ p → p < D.1 0 1 → t.1 245 (24 + 3 * p) = D.1 3 (3 * p) ∧ t.1 245 (25 + 3 * p) = D.1 3 (3 * p + 1)) ∧
  (∀ w, 0 ≤ w → w < D.1 0 2 → t.1 246 (18 + 3 * w) = D.1 4 (3 * w) ∧ t.1 246 (19 + 3 * w) = D.1 4 (3 * w + 1) ∧ t.1 246 (20 + 3 * w) = D.1 4 (3 * w + 2)) ∧
  (t.1 248 4 = D.1 6 1 ∧ t.1 248 5 = D.1 6 2) ∧ (rFn 0 D.2.1 t ∧ rFn 1 D.2.2.1 t) ∧
  (rWy (D.1 0 0) (dWy D) t ∧ ∀ a b, 0 ≤ a → a < D.1 0 0 → 0 ≤ b → b < D.1 0 0 → t.1 253 (7 * a + b) = wNx (D.1 0 0) (dRd D) (dWy D) a b) ∧
  rS D t ∧ (t.1 209 74 = 0 ∧ t.1 209 67 = 0) ∧ FrJ (fun a k => (a = 209 ∧ (k = 67 ∨ k = 74)) ∨ (242 ≤ a ∧ a ≤ 254)) s t
abbrev nwF (a : Nat) (k : Int) : Prop := (a = 242 ∧ 4 ≤ k) ∨ ((a = 243 ∨ a = 245) ∧ 24 ≤ k) ∨ (a = 244 ∧ 49 ≤ k) ∨ (a = 246 ∧ 18 ≤ k) ∨ (a = 248 ∧ 3 ≤ k) ∨ ((a = 249 ∨ a = 250) ∧ 2 ≤ k) ∨ (a = 251 ∧ 1600 ≤ k) ∨ a = 254
section
variable {g : Int → Int} {e : Int} {D : dL} {s t u : zS} {x : Int} {l : List Int} {P : Int → zS → Prop}
theorem rFn_of {c c' c'' : Int → Int} {n : Int} (h : rFm x l c c' c'' n) (n16 : n ≤ 1600) (e1 : t.1 249 (2 + x) = c x) (e2 : t.1 250 (2 + x) = c' x) (e3 : ∀ k, 0 ≤ k → k < n → t.1 251 (1600 + k) = c'' k) : rFn x l t := by
  rcases h with ⟨h1, h2⟩ | ⟨h1, h2, h3, h4, h5⟩
  · exact Or.inl ⟨h1, by rw [e1]; exact h2⟩
  · refine Or.inr ⟨h1, by rw [e1]; exact h2, by rw [e1, e2]; exact h3, by rw [e2]; omega, fun i hi => ?_⟩
    rw [e1, e3 _ (by omega) (by omega)]
    exact h5 i hi
set_option maxHeartbeats 4000000 in
theorem p178 (hr : rD D s) (hI : dInv D) (hln : dLn D ≤ 1600) : Ok (m178 s) (fun r t => r = 0 ∧ rNwL D s t) := by
  have h0 := hI.1
  obtain ⟨⟨r1, r2⟩, r3, r4, r5, r6, ⟨r7, r8⟩, r9, _⟩ := hr
  have hln0 : 0 ≤ dLn D := by unfold dLn; omega
  unfold m178
  refine p178_2 (s0 := s) (fun t1 a1 f1 => ?_) zFu 4 0 s (by omega) (by omega) (by unfold zFu; omega) (fun k k0 k1 => by omega) frj_refl
  have o1 : FrJ nwF s t1 := frj_mono (fun a k z => by omega) f1
  refine p178_29 (s0 := t1) (fun t2 a2 f2 => ?_) zFu 24 0 t1 (by omega) (by omega) (by unfold zFu; omega) (fun k k0 k1 => by omega) frj_refl
  have o2 : FrJ nwF s t2 := frj_trans o1 (frj_mono (fun a k z => by omega) f2)
  refine p178_73 (s0 := t2) (fun t3 a3 f3 => ?_) zFu 49 0 t2 (by omega) (by omega) (by unfold zFu; omega) (fun k k0 k1 => by omega) frj_refl
  have o3 : FrJ nwF s t3 := frj_trans o2 (frj_mono (fun a k z => by omega) f3)
  refine p178_102 (s0 := t3) (fun t4 a4 f4 => ?_) zFu 18 0 t3 (by omega) (by omega) (by unfold zFu; omega) (fun k k0 k1 => by omega) frj_refl
  have o4 : FrJ nwF s t4 := frj_trans o3 (frj_mono (fun a k z => by omega) f4)
  refine p178_131 (s0 := t4) (fun t5 a5 f5 => ?_) zFu 3 0 t4 (by omega) (by omega) (by unfold zFu; omega) (fun k k0 k1 => by omega) frj_refl
  have o5 : FrJ nwF s t5 := frj_trans o4 (frj_mono (fun a k z => by omega) f5)
  refine p178_158 (s0 := t5) (fun t6 a6 f6 => ?_) zFu 2 0 t5 (by omega) (by omega) (by unfold zFu; omega) (fun k k0 k1 => by omega) frj_refl
  have o6 : FrJ nwF s t6 := frj_trans o5 (frj_mono (fun a k z => by omega) f6)
  refine p178_199 (s0 := t6) (b := dLn D) (by rw [(o6.1 209 51 (by omega)).1]; exact r9) hln (fun t7 a7 f7 => ?_) zFu (dLn D).toNat 0 t6 (by omega) (by omega) (by unfold zFu; omega) (fun k k0 k1 => by omega) frj_refl
  have o7 : FrJ nwF s t7 := frj_trans o6 (frj_mono (fun a k z => by omega) f7)
  refine p178_231 (s0 := t7) (fun t8 a8 f8 => ?_) zFu 37 0 t7 (by omega) (by omega) (by unfold zFu; omega) (fun k k0 k1 => by omega) frj_refl
  have o8 : FrJ nwF s t8 := frj_trans o7 (frj_mono (fun a k z => by omega) f8)
  refine p178_264 (s0 := t8) (b := D.1 0 1) (by rw [(o8.1 242 1 (by omega)).1]; exact r1 1 (by omega) (by omega)) (by omega) (fun t9 a9 f9 => ?_) zFu (D.1 0 1).toNat 0 t8 (by omega) (by omega) (by unfold zFu; omega) (fun k k0 k1 => by omega) frj_refl
  have o9 : FrJ nwF s t9 := frj_trans o8 (frj_mono (fun a k z => by omega) f9)
  refine p178_300 (s0 := t9) (c := D.1 0 2) (by rw [(o9.1 242 2 (by omega)).1]; exact r1 2 (by omega) (by omega)) (by omega) (fun t10 a10 f10 => ?_) zFu (D.1 0 2).toNat 0 t9 (by omega) (by omega) (by unfold zFu; omega) (fun k k0 k1 => by omega) frj_refl
  have o10 : FrJ nwF s t10 := frj_trans o9 (frj_mono (fun a k z => by have := z.1; omega) f10)
  have w10 : ∀ w, 0 ≤ w → w < D.1 0 2 → t10.1 254 (10 + 3 * w) = D.1 5 w := fun w w0 w1 => by rw [a10 w w0 w1, (o9.1 247 w (by omega)).1]; exact (r5 w w0 w1).2.2.2
  have z28 : t10.1 254 28 = 0 := by
    rw [(f10.1 254 28 (fun z => by obtain ⟨_, w, _, _, h⟩ := z; omega)).1, (f9.1 254 28 (by omega)).1, a8 28 (by omega) (by omega), if_neg (by decide)]
  have c6 : t10.1 242 6 = D.1 0 2 := by
    rw [(f10.1 242 6 (fun z => absurd z.1 (by decide))).1, (f9.1 242 6 (by omega)).1, (f8.1 242 6 (by omega)).1, (f7.1 242 6 (by omega)).1, (f6.1 242 6 (by omega)).1, (f5.1 242 6 (by omega)).1, (f4.1 242 6 (by omega)).1, (f3.1 242 6 (by omega)).1, (f2.1 242 6 (by omega)).1]
    have := a1 2 (by omega) (by omega)
    rw [show (4 : Int) + 2 = 6 by decide] at this
    rw [this]
    exact r1 2 (by omega) (by omega)
  refine p178_335 (s0 := t10) (W := D.1 5) (b := D.1 0 1) (c := D.1 0 2) (by rw [(o10.1 242 1 (by omega)).1]; exact r1 1 (by omega) (by omega)) (by omega) c6 (by omega) (by omega) w10 (fun t11 a11 b11 f11 => ?_) zFu (D.1 0 1).toNat 0 t10 (by omega) (by unfold zFu; omega) z28 (fun k k0 k1 => by have k1 : k < 0 := k1; omega) frj_refl
  -- from each to the last
  have k7 : FrJ (fun a _ => a = 254) t7 t11 := frj_trans f8 (frj_trans (frj_mono (fun a k z => z.1) f9) (frj_trans (frj_mono (fun a k z => z.1) f10) (frj_mono (fun a k z => z.1) f11)))
  have k6 : FrJ (fun a _ => a = 251 ∨ a = 254) t6 t11 := frj_trans (frj_mono (fun a k z => by omega) f7) (frj_mono (fun a k z => by omega) k7)
  have k5 : FrJ (fun a _ => 249 ≤ a ∧ a ≤ 254) t5 t11 := frj_trans (frj_mono (fun a k z => by omega) f6) (frj_mono (fun a k z => by omega) k6)
  have k4 : FrJ (fun a _ => 248 ≤ a ∧ a ≤ 254) t4 t11 := frj_trans (frj_mono (fun a k z => by omega) f5) (frj_mono (fun a k z => by omega) k5)
  have k3 : FrJ (fun a _ => 246 ≤ a ∧ a ≤ 254) t3 t11 := frj_trans (frj_mono (fun a k z => by omega) f4) (frj_mono (fun a k z => by omega) k4)
  have k2 : FrJ (fun a _ => a = 244 ∨ (246 ≤ a ∧ a ≤ 254)) t2 t11 := frj_trans (frj_mono (fun a k z => by omega) f3) (frj_mono (fun a k z => by omega) k3)
  have k1 : FrJ (fun a _ => 243 ≤ a ∧ a ≤ 254) t1 t11 := frj_trans (frj_mono (fun a k z => by omega) f2) (frj_mono (fun a k z => by omega) k2)
  have k0 : FrJ (fun a _ => 242 ≤ a ∧ a ≤ 254) s t11 := frj_trans (frj_mono (fun a k z => by omega) f1) (frj_mono (fun a k z => by omega) k1)
  have q1 : ∀ k, 0 ≤ k → k < 4 → t11.1 242 (4 + k) = D.1 0 k := fun k k0 k4 => by rw [(k1.1 242 _ (by omega)).1, a1 k k0 k4]; exact r1 k k0 k4
  have q2 : ∀ d i, 0 ≤ d → d < 3 → 0 ≤ i → i < D.1 0 d → t11.2.1 243 (24 + 8 * d + i) = D.1 1 (8 * d + i) := fun d i d0 d3 i0 i1 => by
    have hd : D.1 0 d ≤ 8 := by
      have : d = 0 ∨ d = 1 ∨ d = 2 := by omega
      rcases this with rfl | rfl | rfl <;> omega
    rw [(k2.1 243 _ (by omega)).2, show 24 + 8 * d + i = 24 + (8 * d + i) by omega, (a2 _ (by omega) (by omega)).1, (o1.1 243 _ (by omega)).2]
    exact r2 d i d0 d3 i0 i1
  have q5 : ∀ k, 0 ≤ k → k < 24 → t11.1 245 (24 + k) = s.1 245 k := fun k k0 k1 => by rw [(k2.1 245 _ (by omega)).1, (a2 k k0 k1).2, (o1.1 245 _ (by omega)).1]
  have q6 : ∀ k, 0 ≤ k → k < 18 → t11.1 246 (18 + k) = s.1 246 k := fun k k0 k1 => by rw [(k4.1 246 _ (by omega)).1, a4 k k0 k1, (o3.1 246 _ (by omega)).1]
  have q4 : ∀ k, 0 ≤ k → k < 49 → t11.1 244 (49 + k) = D.1 2 k := fun k k0 k1 => by rw [(k3.1 244 _ (by omega)).1, a3 k k0 k1, (o2.1 244 _ (by omega)).1]; exact r3 k k0 k1
  have q8 : ∀ k, 0 ≤ k → k < 3 → t11.1 248 (3 + k) = s.1 248 k := fun k k0 k1 => by rw [(k5.1 248 _ (by omega)).1, a5 k k0 k1, (o4.1 248 _ (by omega)).1]
  have q9 : ∀ k, 0 ≤ k → k < 2 → t11.1 249 (2 + k) = s.1 249 k ∧ t11.1 250 (2 + k) = s.1 250 k := fun k k0 k1 => by rw [(k6.1 249 _ (by omega)).1, (k6.1 250 _ (by omega)).1, (a6 k k0 k1).1, (a6 k k0 k1).2, (o5.1 249 _ (by omega)).1, (o5.1 250 _ (by omega)).1]; exact ⟨rfl, rfl⟩
  have q51 : ∀ k, 0 ≤ k → k < dLn D → t11.1 251 (1600 + k) = s.1 251 k := fun k k0 k1 => by rw [(k7.1 251 _ (by omega)).1, a7 k k0 k1, (o6.1 251 _ (by omega)).1]
  have hS : rS D t11 := by
    refine ⟨?_, ?_, fun p p0 p1 => ?_, fun w w0 w1 => ⟨?_, ?_, ?_⟩, a11, b11⟩
    · rw [(f11.1 254 0 (by omega)).1, (f10.1 254 0 (fun z => by obtain ⟨_, w, _, _, h⟩ := z; omega)).1, (f9.1 254 0 (by omega)).1, a8 0 (by omega) (by omega), if_neg (by decide)]
    · rw [(f11.1 254 1 (by omega)).1, (f10.1 254 1 (fun z => by obtain ⟨_, w, _, _, h⟩ := z; omega)).1, (f9.1 254 1 (by omega)).1, a8 1 (by omega) (by omega), if_pos rfl, (o7.1 248 0 (by omega)).1]
      exact r6.1
    · rw [(f11.1 254 _ (by omega)).1, (f10.1 254 _ (fun z => by obtain ⟨_, w, _, _, h⟩ := z; omega)).1, a9 p p0 p1, (o8.1 245 _ (by omega)).1]
      exact (r4 p p0 p1).2.2
    · rw [(f11.1 254 _ (by omega)).1]; exact w10 w w0 w1
    · rw [(f11.1 254 _ (by omega)).1, (f10.1 254 _ (fun z => by obtain ⟨_, w', _, _, h⟩ := z; omega)).1, (f9.1 254 _ (by omega)).1, a8 _ (by omega) (by omega), if_neg (by omega)]
    · rw [(f11.1 254 _ (by omega)).1, (f10.1 254 _ (fun z => by obtain ⟨_, w', _, _, h⟩ := z; omega)).1, (f9.1 254 _ (by omega)).1, a8 _ (by omega) (by omega), if_neg (by omega)]
  clear a1 a2 a3 a4 a5 a6 a7 a8 a9 a10 a11 b11 f1 f2 f3 f4 f5 f6 f7 f8 f9 f10 f11 o1 o2 o3 o4 o5 o6 o7 o8 o9 o10 k1 k2 k3 k4 k5 k6 k7 w10 z28 c6
  have hw := p180 (s := t11) (n := D.1 0 0) (R := dRd D) (by omega) (by omega) (q1 0 (by omega) (by omega)) (fun a b a0 a1 b0 b1 => by
    rw [show 49 + 7 * a + b = 49 + (7 * a + b) by omega, q4 _ (by omega) (by omega)]
    exact (hI.2.1 a b a0 (by omega) b0 (by omega)).2.1) (fun a b a0 a1 b0 b1 => by
    rw [show 49 + 7 * a + b = 49 + (7 * a + b) by omega, q4 _ (by omega) (by omega)]
    rfl)
  refine k_c hw ?_
  rintro _ v ⟨v1, v2, v3⟩
  refine k_v (k_v (k_r ⟨rfl, ?_⟩))
  have e1 : ∀ a k, a ≠ 209 → a ≠ 252 → a ≠ 253 → (sI (sI v 209 74 0) 209 67 0).1 a k = t11.1 a k := fun a k h1 h2 h3 => by rw [sI_a h1, sI_a h1]; exact v3.1 a k (by omega)
  have e2 : (sI (sI v 209 74 0) 209 67 0).2.1 = t11.2.1 := v3.2.1
  have e74 : (sI (sI v 209 74 0) 209 67 0).1 209 74 = 0 := by rw [sI_k (by decide), sI_e]
  have e67 : (sI (sI v 209 74 0) 209 67 0).1 209 67 = 0 := sI_e
  have e52 : ∀ a k, a ≠ 209 → (sI (sI v 209 74 0) 209 67 0).1 a k = v.1 a k := fun a k h1 => by rw [sI_a h1, sI_a h1]
  have fv : FrJ (fun a k => (a = 209 ∧ (k = 67 ∨ k = 74)) ∨ (242 ≤ a ∧ a ≤ 254)) s (sI (sI v 209 74 0) 209 67 0) := frj_trans (frj_mono (fun a k z => Or.inr z) k0) (frj_trans (frj_of (fr_mono (fun a k z => by omega) v3)) (frj_trans (frj_I (by omega)) (frj_I (by omega))))
  generalize sI (sI v 209 74 0) 209 67 0 = z at *
  refine ⟨fun k k0 k4 => ?_, fun d i d0 d3 i0 i1 => ?_, fun p p0 p1 => ?_, fun w w0 w1 => ?_, ⟨?_, ?_⟩, ⟨?_, ?_⟩, ⟨fun a b a0 a1 b0 b1 => ?_, fun a b a0 a1 b0 b1 => ?_⟩, ?_, ⟨e74, e67⟩, fv⟩
  · rw [e1 _ _ (by decide) (by decide) (by decide)]; exact q1 k k0 k4
  · rw [e2]; exact q2 d i d0 d3 i0 i1
  · rw [e1 _ _ (by decide) (by decide) (by decide), e1 _ _ (by decide) (by decide) (by decide), show 25 + 3 * p = 24 + (3 * p + 1) by omega, q5 _ (by omega) (by omega), q5 _ (by omega) (by omega)]
    exact ⟨(r4 p p0 p1).1, (r4 p p0 p1).2.1⟩
  · rw [e1 _ _ (by decide) (by decide) (by decide), e1 _ _ (by decide) (by decide) (by decide), e1 _ _ (by decide) (by decide) (by decide), show 19 + 3 * w = 18 + (3 * w + 1) by omega, show 20 + 3 * w = 18 + (3 * w + 2) by omega, q6 _ (by omega) (by omega), q6 _ (by omega) (by omega), q6 _ (by omega) (by omega)]
    exact ⟨(r5 w w0 w1).1, (r5 w w0 w1).2.1, (r5 w w0 w1).2.2.1⟩
  · have := q8 1 (by omega) (by omega)
    rw [e1 _ _ (by decide) (by decide) (by decide)]
    exact this.trans r6.2.1
  · have := q8 2 (by omega) (by omega)
    rw [e1 _ _ (by decide) (by decide) (by decide)]
    exact this.trans r6.2.2
  · exact rFn_of r7 (by omega) (by rw [e1 _ _ (by decide) (by decide) (by decide)]; exact (q9 0 (by omega) (by omega)).1) (by rw [e1 _ _ (by decide) (by decide) (by decide)]; exact (q9 0 (by omega) (by omega)).2) (fun k k0 k1 => by rw [e1 _ _ (by decide) (by decide) (by decide)]; exact q51 k k0 (by omega))
  · exact rFn_of r8 (by omega) (by rw [e1 _ _ (by decide) (by decide) (by decide)]; exact (q9 1 (by omega) (by omega)).1) (by rw [e1 _ _ (by decide) (by decide) (by decide)]; exact (q9 1 (by omega) (by omega)).2) (fun k k0 k1 => by rw [e1 _ _ (by decide) (by decide) (by decide)]; exact q51 k k0 (by omega))
  · rw [e52 _ _ (by decide)]; exact v1 a b a0 a1 b0 b1
  · rw [e52 _ _ (by decide)]; exact v2 a b a0 a1 b0 b1
  · obtain ⟨y1, y2, y3, y4, y5, y6⟩ := hS
    refine ⟨?_, ?_, fun p p0 p1 => ?_, fun w w0 w1 => ?_, ?_, fun k k0 k1 => ?_⟩
    · rw [e1 _ _ (by decide) (by decide) (by decide)]; exact y1
    · rw [e1 _ _ (by decide) (by decide) (by decide)]; exact y2
    · rw [e1 _ _ (by decide) (by decide) (by decide)]; exact y3 p p0 p1
    · rw [e1 _ _ (by decide) (by decide) (by decide), e1 _ _ (by decide) (by decide) (by decide), e1 _ _ (by decide) (by decide) (by decide)]; exact y4 w w0 w1
    · rw [e1 _ _ (by decide) (by decide) (by decide)]; exact y5
    · rw [e1 _ _ (by decide) (by decide) (by decide)]; exact y6 k k0 k1
end
