/-! ===== what goes together in a new land ===== -/
section
variable {n : Nat} {s t v : zS} {L : Nat} {D : dL}
theorem wNx_in {m a b : Int} {R M : Int → Int → Int} (m0 : 0 ≤ m) : -1 ≤ wNx m R M a b ∧ wNx m R M a b < m ∧ (a = b → wNx m R M a b = -1) := by
  unfold wNx wNj
  by_cases c : a = b
  · rw [if_pos c]; exact ⟨by omega, by omega, fun _ => rfl⟩
  · rw [if_neg c]
    by_cases d : M a b < 1000
    · rw [if_pos d]
      rcases fnd_in (g := fun i => R a i + M i b) (p := M a b) m.toNat 0 with h | h
      · exact ⟨by omega, by omega, fun z => absurd z c⟩
      · exact ⟨by omega, by omega, fun z => absurd z c⟩
    · rw [if_neg d]; exact ⟨by omega, by omega, fun z => absurd z c⟩
theorem rCode_new {b : Nat} {w df : Int} {l : List Int} (hf : cFd b l df t) (hr : rFn w l t) (hw : l = [] ∨ wfL l 0 1) : rCode t.1 b w df := by
  unfold rCode
  rcases hf with ⟨h1, h2, h3⟩ | ⟨h1, h2, h3⟩
  · rcases hr with ⟨_, r2⟩ | ⟨r1, _⟩
    · exact ⟨by omega, by omega, Or.inl ⟨r2, h2, h3⟩⟩
    · exact absurd h1 r1
  · rcases hr with ⟨r1, _⟩ | ⟨_, r2, r3, r4, r5⟩
    · exact absurd r1 h1
    · have hl : l.length ≠ 0 := fun z => h1 (List.length_eq_zero_iff.mp z)
      refine ⟨by omega, by omega, Or.inr ⟨r2, by rw [r3, h2], r4, fun i i0 i1 => ?_, ?_⟩⟩
      · have e : i = ((i.toNat : Nat) : Int) := by omega
        rw [e, h3 i.toNat (by omega), r5 i.toNat (by omega)]
      · rw [h2, Int.toNat_natCast]
        have q := wfL_lWf (c := fun i => t.1 251 (1600 + (t.1 249 (2 + w) + i))) l 0 1 0 rfl (fun i hi => by rw [Nat.zero_add]; exact r5 i hi) (hw.resolve_left h1)
        rw [Nat.zero_add] at q
        exact ⟨q.1, fun i hi => q.2 i (by omega) hi⟩
theorem rLand_new (hI : dInv D) (hB : cB L D t) (hW : cWd L D t) (hN : rNwL D v t) : rLand t.1 t.2.1 L ∧ D.1 0 2 ≤ D.1 0 1 := by
  obtain ⟨u, hu, hc⟩ := hB
  obtain ⟨w1, w2, w3, w4⟩ := hW
  obtain ⟨n1, n2, n3, n4, ⟨n5, n5'⟩, ⟨n6, n6'⟩, ⟨n7, n7'⟩, n8, n9, n10⟩ := hN
  obtain ⟨⟨⟨u1, u2, u3, u4, u5⟩, _⟩, ⟨m1, m2, m3⟩, _, up, uw, ⟨us0, us1, us2⟩, _⟩ := hu
  obtain ⟨i0, i1, i2, i3, i4, i5, i6, i7⟩ := hI
  have q0 : t.1 242 4 = D.1 0 0 := n1 0 (by omega) (by omega)
  have q1 : t.1 242 5 = D.1 0 1 := n1 1 (by omega) (by omega)
  have q2 : t.1 242 6 = D.1 0 2 := n1 2 (by omega) (by omega)
  have q3 : t.1 242 7 = D.1 0 3 := n1 3 (by omega) (by omega)
  have hle : D.1 0 2 ≤ D.1 0 1 := by
    have e := uwN_eq (f := D.1 5) (b := (D.1 0 1).toNat) (D.1 0 2).toNat (fun w w0 w1 => by have := i3 w w0 (by omega); omega) (fun a b a0 ab b1 => i4 a b a0 ab (by omega))
    have := uwN_in (f := D.1 5) (c := (D.1 0 2).toNat) (D.1 0 1).toNat
    omega
  have rd : wRd (D.1 0 0) (dRd D) := dRd_ok ⟨i0, i1, i2, i3, i4, i5, i6, i7⟩
  have hM := wFl_ok (wDg_ln rd) (D.1 0 0).toNat (by omega)
  refine ⟨⟨?_, ?_, ?_, ?_, ?_, ?_, ?_, Or.inl (rCode_new w1 n6 i6), Or.inl (rCode_new w2 n6' i7)⟩, hle⟩
  · unfold rCount
    rw [hc (L + 1) 0 (by omega) (by omega) (by omega) (by omega), hc (L + 3) 0 (by omega) (by omega) (by omega) (by omega), hc (L + 5) 0 (by omega) (by omega) (by omega) (by omega), hc L 16 (by omega) (by omega) (by omega) (by omega), q0, q1, q2, q3]
    exact ⟨u1, by omega, by omega, u2, by omega, u3, by omega, by omega, hle, u4⟩
  · intro d w d0 d3 w0 wl
    have e : d = 0 ∨ d = 1 ∨ d = 2 := by omega
    rcases e with rfl | rfl | rfl
    · have wl : w < D.1 0 0 := by rw [← q0]; exact wl
      rw [show (fun k => t.1 (L + 2 + 2 * (0 : Int).toNat) (6 * w + k)) = (fun k => u.1 (L + 2) (6 * w + k)) from funext fun k => hc (L + 2) _ (by omega) (by omega) (by omega) (by omega), n2 0 w (by omega) (by omega) w0 wl]
      exact m1 w w0 wl
    · have wl : w < D.1 0 1 := by rw [← q1]; exact wl
      rw [show (fun k => t.1 (L + 2 + 2 * (1 : Int).toNat) (6 * w + k)) = (fun k => u.1 (L + 4) (6 * w + k)) from funext fun k => hc (L + 4) _ (by omega) (by omega) (by omega) (by omega), n2 1 w (by omega) (by omega) w0 wl]
      exact m2 w w0 wl
    · have wl : w < D.1 0 2 := by rw [← q2]; exact wl
      rw [show (fun k => t.1 (L + 2 + 2 * (2 : Int).toNat) (6 * w + k)) = (fun k => u.1 (L + 6) (6 * w + k)) from funext fun k => hc (L + 6) _ (by omega) (by omega) (by omega) (by omega), n2 2 w (by omega) (by omega) w0 wl]
      exact m3 w w0 wl
  · intro p p0 p1
    rw [q1] at p1
    have a := up p p0 p1
    have b := n3 p p0 p1
    have c := i2 p p0 p1
    rw [hc (L + 10) p (by omega) (by omega) (by omega) (by omega), hc (L + 11) p (by omega) (by omega) (by omega) (by omega), a.1, a.2.1, b.1, b.2, q0]
    exact ⟨rfl, rfl, c.1, c.2.1, c.2.2.1, c.2.2.2.1⟩
  · intro w w0 w1
    rw [q2] at w1
    have a := uw w w0 w1
    have b := n4 w w0 w1
    have c := i3 w w0 w1
    rw [hc (L + 13) w (by omega) (by omega) (by omega) (by omega), hc (L + 14) w (by omega) (by omega) (by omega) (by omega), hc (L + 15) w (by omega) (by omega) (by omega) (by omega), a.1, a.2.1, a.2.2.1, b.1, b.2.1, b.2.2, q0]
    exact ⟨rfl, rfl, rfl, c.1, c.2.1, c.2.2.1, c.2.2.2.1, c.2.2.2.2.1, c.2.2.2.2.2.1⟩
  · intro a b a0 a1 b0 b1
    rw [q0] at a1 b1
    have e := hM.1 a b a0 a1 b0 b1
    have x := wNx_in (m := D.1 0 0) (a := a) (b := b) (R := dRd D) (M := dWy D) (by omega)
    rw [n7 a b a0 a1 b0 b1, w3 a b a0 a1 b0 b1, w4 a b a0 a1 b0 b1, n7' a b a0 a1 b0 b1, q0]
    exact ⟨rfl, e.1, e.2, rfl, x.1, x.2.1, x.2.2⟩
  · rw [hc L 18 (by omega) (by omega) (by omega) (by omega), us1, n5]
    exact ⟨rfl, i5.2.1.1, i5.2.1.2⟩
  · rw [hc L 19 (by omega) (by omega) (by omega) (by omega), us2, n5']
    exact ⟨rfl, i5.2.2.1, i5.2.2.2⟩
theorem rNow_new (hI : dInv D) (hS : sS D t) (hN : rNwL D v t) : rNow t.1 := by
  obtain ⟨n1, _, _, _, _, _, _, ⟨r0, r1, r2, r3, r4, r5⟩, _⟩ := hN
  obtain ⟨c0, c1, c2, c3, c4, c5⟩ := hS
  obtain ⟨i0, i1, i2, i3, i4, i5, i6, i7⟩ := hI
  have q0 : t.1 242 4 = D.1 0 0 := n1 0 (by omega) (by omega)
  have q1 : t.1 242 5 = D.1 0 1 := n1 1 (by omega) (by omega)
  have q2 : t.1 242 6 = D.1 0 2 := n1 2 (by omega) (by omega)
  have en := uwN_eq (f := D.1 5) (b := (D.1 0 1).toNat) (D.1 0 2).toNat (fun w w0 w1 => by have := i3 w w0 (by omega); omega) (fun a b a0 ab b1 => i4 a b a0 ab (by omega))
  have sin := uwS_in (f := D.1 5) (c := (D.1 0 2).toNat) (D.1 0 1).toNat
  have slt := uwS_lt (f := D.1 5) (c := (D.1 0 2).toNat) (D.1 0 1).toNat
  generalize hn : uwN (D.1 5) (D.1 0 2).toNat (D.1 0 1).toNat = N at *
  generalize uwS (D.1 5) (D.1 0 2).toNat (D.1 0 1).toNat = S at *
  refine ⟨⟨?_, ?_, fun p p0 p1 => ?_, fun w w0 w1 => ?_, ?_, fun k k0 k1 => ?_⟩, ?_⟩
  · show t.1 28 6 = t.1 254 0; rw [c0, r0]
  · show t.1 28 7 = t.1 254 1; rw [c1, r1]
  · rw [q1] at p1; show t.1 (28 + 1) p = t.1 254 (2 + p); rw [c5 p p0 p1, r2 p p0 p1]
  · rw [q2] at w1
    show t.1 (28 + 2) w = t.1 254 (10 + 3 * w) ∧ t.1 (28 + 3) w = t.1 254 (11 + 3 * w) - 1 ∧ t.1 (28 + 4) w = t.1 254 (12 + 3 * w)
    have a := c2 w w0 w1
    have b := r3 w w0 w1
    rw [a.1, a.2.1, a.2.2, b.1, b.2.1, b.2.2]
    exact ⟨rfl, rfl, rfl⟩
  · show t.1 28 5 = t.1 254 28; rw [c3, r4]
  · have k1 : k < t.1 254 28 := k1
    rw [r4] at k1
    show t.1 (28 + 5) k = t.1 254 (29 + k)
    rw [c4 k k0 k1, r5 k k0 k1]
  · rw [q0, q1, q2]
    refine ⟨?_, ?_, fun p p0 p1 => ?_, fun w w0 w1 => ?_, ?_, fun k k0 k1 => ?_, fun a b a0 ab b1 => ?_, fun j k j0 jk k1 => ?_, fun w k w0 w1 k0 k1 => ?_⟩
    · show 0 ≤ t.1 254 0 ∧ t.1 254 0 ≤ 999; rw [r0]; omega
    · show 0 ≤ t.1 254 1 ∧ t.1 254 1 ≤ 2; rw [r1]; exact i5.1
    · show 0 ≤ t.1 254 (2 + p) ∧ t.1 254 (2 + p) ≤ 9; rw [r2 p p0 p1]; have := i2 p p0 p1; omega
    · show 0 ≤ t.1 254 (10 + 3 * w) ∧ t.1 254 (10 + 3 * w) < D.1 0 1 ∧ 0 ≤ t.1 254 (11 + 3 * w) ∧ t.1 254 (11 + 3 * w) ≤ D.1 0 0 ∧ 0 ≤ t.1 254 (12 + 3 * w) ∧ t.1 254 (12 + 3 * w) ≤ 999
      have b := r3 w w0 w1
      have := i3 w w0 w1
      rw [b.1, b.2.1, b.2.2]
      omega
    · show t.1 254 28 = D.1 0 1 - D.1 0 2; rw [r4, en]; omega
    · show 0 ≤ t.1 254 (29 + k) ∧ t.1 254 (29 + k) < D.1 0 1
      rw [r5 k k0 (by omega)]
      have := sin k k0 (by omega)
      omega
    · show t.1 254 (10 + 3 * a) ≠ t.1 254 (10 + 3 * b)
      rw [(r3 a a0 (by omega)).1, (r3 b (by omega) b1).1]
      exact i4 a b a0 ab b1
    · show t.1 254 (29 + j) ≠ t.1 254 (29 + k)
      rw [r5 j j0 (by omega), r5 k (by omega) (by omega)]
      have := slt j k j0 jk (by omega)
      omega
    · show t.1 254 (10 + 3 * w) ≠ t.1 254 (29 + k)
      rw [(r3 w w0 w1).1, r5 k k0 (by omega)]
      exact fnd_none (D.1 0 2).toNat 0 (by omega) (sin k k0 (by omega)).2.2 w (by omega) (by omega)
/-- a land that is told -/
theorem R_nwl (h : R n s) (hL : s.2.2 2 = L) (hI : dInv D) (hr : t.2.2 1 = L ∧ t.2.2 2 = s.2.2 1 ∧ t.2.2 3 = L) (hT : rTape t.1) (h24 : t.1 24 0 = 0) (h17 : t.1 0 17 = 0) (hB : cB L D t) (hW : cWd L D t) (hS : sS D t) (hN : rNwL D v t) (h76 : t.2.1 209 76 = s.2.1 209 76) (g : ∀ a k, ¬ (clG L a k ∨ (a = 1 ∧ k = 2) ∨ (a = 24 ∧ k = 0) ∨ (a = 0 ∧ k = 17) ∨ (28 ≤ a ∧ a ≤ 33) ∨ (a = 209 ∧ ((1 ≤ k ∧ k ≤ 8) ∨ k = 40 ∨ (51 ≤ k ∧ k ≤ 53) ∨ k = 67 ∨ k = 74 ∨ k = 100 ∨ (102 ≤ k ∧ k ≤ 104))) ∨ (242 ≤ a ∧ a ≤ 254) ∨ a = 285 ∨ a = 286) → t.1 a k = s.1 a k) : R (n + 1) t := by
  have hRf := R_refs h
  have hLL : L = 43 ∨ L = 66 := by
    have := hRf.1
    rw [hL] at this
    omega
  have lo : ∀ a k, a ≠ 1 → a ≠ 3 → a ≠ 8 → a < 43 → ¬ (a = 24 ∧ k = 0) → ¬ (a = 0 ∧ k = 17) → ¬ (28 ≤ a ∧ a ≤ 33) → t.1 a k = s.1 a k := fun a k h1 h2 h3 h4 h5 h6 h7 => g a k (by omega)
  refine R_up (n := n) ⟨?_, hT, ?_, ?_, ?_, ?_, ?_, ?_, rNow_new hI hS hN, ?_, ?_⟩
  · unfold rRefs at hRf ⊢
    rw [hr.1, hr.2.1, hr.2.2]
    rw [hL] at hRf
    omega
  · intro k k1 k2
    rw [lo 41 k (by omega) (by omega) (by omega) (by omega) (by omega) (by omega) (by omega), g 211 k (by omega)]
    exact R_refu h k k1 k2
  · refine ⟨fun b b1 b2 => ?_, fun e he i hi => ?_⟩
    · rw [lo 4 b (by omega) (by omega) (by omega) (by omega) (by omega) (by omega) (by omega)]; exact (R_words h).1 b b1 b2
    · have := wTab_at e he
      rw [g e.1 _ (by omega)]; exact (R_words h).2 e he i hi
  · have := R_seed h
    unfold rSeed at this ⊢
    rw [lo 0 18 (by omega) (by omega) (by omega) (by omega) (by omega) (by omega) (by omega), h76]; exact this
  · obtain ⟨q1, q2, q3, q4⟩ := R_img h
    unfold rImg
    rw [lo 0 15 (by omega) (by omega) (by omega) (by omega) (by omega) (by omega) (by omega), g 209 110 (by omega)]
    refine ⟨q1, q2, q3, fun k k1 k2 => ?_⟩
    rw [lo 42 k (by omega) (by omega) (by omega) (by omega) (by omega) (by omega) (by omega), g 288 k (by omega)]; exact q4 k k1 k2
  · unfold rRows
    rw [h24, hN.2.2.2.2.2.2.2.2.1.2]
    exact ⟨rfl, by omega, by omega, fun k k0 k1 => by omega⟩
  · rw [hr.1]; exact (rLand_new hI hB hW hN).1
  · obtain ⟨q1, q2, q3, q4, q5, q6, q7, _⟩ := R_past h
    unfold rPast
    rw [h17, hN.2.2.2.2.2.2.2.2.1.1, lo 0 16 (by omega) (by omega) (by omega) (by omega) (by omega) (by omega) (by omega), g 209 75 (by omega)]
    exact ⟨q1, q2, by omega, by omega, rfl, q6, q7, fun j j0 j1 => by omega⟩
  · have := R_most h
    unfold rMost at this ⊢
    rw [g 44 1 (by omega), g 46 1 (by omega), g 48 1 (by omega), g 67 1 (by omega), g 69 1 (by omega), g 71 1 (by omega)]
    exact this
end
