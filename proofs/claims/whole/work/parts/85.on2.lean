/-! ===== on: the class reads, the reference tests ===== -/
section
variable {s0 : zS} {nP nS nW : Int} {L : Nat}
/-- what is left of the test from the walkers on -/
def onF (b : Int → Int) (nP nS nW w : Int) : Prop := (∀ v, w ≤ v → v < nW → wOk b nP nS v) ∧ ∀ q, 0 ≤ q → q < nS → ∃ k, 0 ≤ k ∧ k < nS ∧ prA b nS nW k = q
theorem p67_147 (hL : L = 43 ∨ L = 66) (hP : s0.1 (L + 1) 0 = nP) (hp0 : 0 ≤ nP) (hb : ∀ k, 0 ≤ k → k < 1600 → 0 ≤ s0.1 2 k ∧ s0.1 2 k ≤ 255) (hl : s0.1 1 2 = 4 + nS + 4 * nW + (nS - nW)) (hw0 : 0 ≤ nW) (hw6 : nW ≤ 6) (hws : nW ≤ nS) (hs8 : nS ≤ 8) : ∀ (n j : Nat) (w : Int) (s : zS), w = nW - (j : Int) → 0 ≤ w → j < n → s.1 34 5 = nS - nW → s.1 34 6 = 256 * s0.1 2 0 + s0.1 2 1 → s.1 34 7 = s0.1 2 2 → (∀ p, 0 ≤ p → p < nS → s.1 35 p = s0.1 2 (3 + p)) → (∀ v, 0 ≤ v → v < w → s.1 36 v = s0.1 2 (3 + nS + 4 * v) ∧ s.1 37 v = s0.1 2 (3 + nS + 4 * v + 1) - 1 ∧ s.1 38 v = 256 * s0.1 2 (3 + nS + 4 * v + 2) + s0.1 2 (3 + nS + 4 * v + 3)) → Fr oFr s0 s → Ok (m67_147 n 34 L nS nW w s) (fun r t => Fr oFr s0 t ∧ ((onF (fun i => s0.1 2 i) nP nS nW w ∧ r = 1 ∧ onC (fun i => s0.1 2 i) nS nW t) ∨ (¬ onF (fun i => s0.1 2 i) nP nS nW w ∧ r = 0))) := by
  intro n
  induction n with
  | zero => intro j w s _ _ h; omega
  | succ n ih =>
    intro j w s hw w0 hj h5 h6 h7 hh hr hs
    rw [m67_147]
    cases j with
    | zero =>
      refine k_q (by omega) (k_m (p67_190 hl hw0 hw6 hws hs8 zFu (nS - nW).toNat 0 s (by omega) (by omega) (by unfold zFu; omega) h5 h6 h7 hh (fun v v0 v1 => hr v v0 (by omega)) (fun i i0 i1 => by omega) hs) (fun r t q => ⟨q.1, ?_⟩))
      rcases q.2 with ⟨q1, q2, q3⟩ | ⟨q1, q2⟩
      · exact Or.inl ⟨⟨fun v v0 v1 => by omega, q1⟩, q2, q3⟩
      · exact Or.inr ⟨fun z => q1 z.2, q2⟩
    | succ j =>
      have e12 : s.1 1 2 = s0.1 1 2 := hs.1 1 2 (by omega)
      have e2 : ∀ q, s.1 2 q = s0.1 2 q := fun q => hs.1 2 q (by omega)
      refine k_p (by omega) (k_z (by omega) (by omega) (k_z (by omega) (by omega) (k_z (by omega) (by omega) (k_v ?_))))
      rw [hs.1 (L + 1) 0 (by omega), hP]
      refine k_c (p70 (nP := nP) (w := w) (k := 3 + nS + 4 * w) (fun q a c => by rw [e2]; exact hb q a c) (by omega) (by omega) (by omega) w0 (by omega) hp0) ?_
      intro r t ht
      obtain ⟨t1, t2, t3, t4, t5⟩ := ht
      rw [e2] at t1
      rw [e2] at t2
      rw [e2, e2] at t3
      have ft : Fr oFr s0 t := fr_trans hs (fr_mono (fun a q z => by omega) t4)
      have tw : (s.1 2 (3 + nS + 4 * w + 1) ≤ nP ∧ 256 * s.1 2 (3 + nS + 4 * w + 2) + s.1 2 (3 + nS + 4 * w + 3) ≤ 999 ∧ (s.1 2 (3 + nS + 4 * w + 1) = 0 → 256 * s.1 2 (3 + nS + 4 * w + 2) + s.1 2 (3 + nS + 4 * w + 3) = 0)) ↔ wOk (fun i => s0.1 2 i) nP nS w := by
        unfold wOk
        rw [e2, e2, e2]
      rcases t5 with ⟨t5, t6⟩ | ⟨t5, t6⟩
      · rw [t6]
        refine k_q (by decide) (k_z (by omega) (by omega) (k_m (ih j (w + 1) t (by omega) (by omega) (by omega) (by rw [t4.1 34 5 (by omega)]; exact h5) (by rw [t4.1 34 6 (by omega)]; exact h6) (by rw [t4.1 34 7 (by omega)]; exact h7) (fun p p0 p1 => by rw [t4.1 35 p (by omega)]; exact hh p p0 p1) (fun v v0 v1 => ?_) ft) (fun r t q => ⟨q.1, ?_⟩)))
        · by_cases e : v = w
          · subst e; exact ⟨t1, t2, t3⟩
          · rw [t4.1 36 v (by omega), t4.1 37 v (by omega), t4.1 38 v (by omega)]; exact hr v v0 (by omega)
        · rcases q.2 with ⟨q1, q2, q3⟩ | ⟨q1, q2⟩
          · refine Or.inl ⟨⟨fun v v0 v1 => ?_, q1.2⟩, q2, q3⟩
            by_cases e : v = w
            · rw [e]; exact tw.mp t5
            · exact q1.1 v (by omega) v1
          · exact Or.inr ⟨fun z => q1 ⟨fun v v0 v1 => z.1 v (by omega) v1, z.2⟩, q2⟩
      · rw [t6]
        exact k_p rfl (k_r ⟨ft, Or.inr ⟨fun z => t5 (tw.mpr (z.1 w (by omega) (by omega))), rfl⟩⟩)
def onE (b : Int → Int) (nP nS nW p : Int) : Prop := (∀ q, p ≤ q → q < nS → b (3 + q) ≤ 9) ∧ onF b nP nS nW 0
theorem p67_103 (hL : L = 43 ∨ L = 66) (hP : s0.1 (L + 1) 0 = nP) (hp0 : 0 ≤ nP) (hb : ∀ k, 0 ≤ k → k < 1600 → 0 ≤ s0.1 2 k ∧ s0.1 2 k ≤ 255) (hl : s0.1 1 2 = 4 + nS + 4 * nW + (nS - nW)) (hw0 : 0 ≤ nW) (hw6 : nW ≤ 6) (hws : nW ≤ nS) (hs8 : nS ≤ 8) : ∀ (n j : Nat) (p : Int) (s : zS), p = nS - (j : Int) → 0 ≤ p → j < n → s.1 34 5 = nS - nW → s.1 34 6 = 256 * s0.1 2 0 + s0.1 2 1 → s.1 34 7 = s0.1 2 2 → (∀ q, 0 ≤ q → q < p → s.1 35 q = s0.1 2 (3 + q)) → Fr oFr s0 s → Ok (m67_103 n 34 L nS nW p s) (fun r t => Fr oFr s0 t ∧ ((onE (fun i => s0.1 2 i) nP nS nW p ∧ r = 1 ∧ onC (fun i => s0.1 2 i) nS nW t) ∨ (¬ onE (fun i => s0.1 2 i) nP nS nW p ∧ r = 0))) := by
  intro n
  induction n with
  | zero => intro j p s _ _ h; omega
  | succ n ih =>
    intro j p s hp p0 hj h5 h6 h7 hh hs
    rw [m67_103]
    cases j with
    | zero =>
      refine k_q (by omega) (k_m (p67_147 hL hP hp0 hb hl hw0 hw6 hws hs8 zFu nW.toNat 0 s (by omega) (by omega) (by unfold zFu; omega) h5 h6 h7 (fun q q0 q1 => hh q q0 (by omega)) (fun v v0 v1 => by omega) hs) (fun r t q => ⟨q.1, ?_⟩))
      rcases q.2 with ⟨q1, q2, q3⟩ | ⟨q1, q2⟩
      · exact Or.inl ⟨⟨fun v v0 v1 => by omega, q1⟩, q2, q3⟩
      · exact Or.inr ⟨fun z => q1 z.2, q2⟩
    | succ j =>
      have e12 : s.1 1 2 = s0.1 1 2 := hs.1 1 2 (by omega)
      have e2 : ∀ q, s.1 2 q = s0.1 2 q := fun q => hs.1 2 q (by omega)
      refine k_p (by omega) (k_z (by omega) (by omega) (k_e (e74 (by omega) (by omega) (by omega)) (k_x p0 (by omega) (k_v (k_x p0 (by omega) (k_v ?_))))))
      rw [e2]
      generalize hu : sI s (34 + 1) p (s0.1 2 (3 + p)) = u
      have u35 : u.1 (34 + 1) p = s0.1 2 (3 + p) := by rw [← hu]; exact sI_e
      have fu : Fr oFr s0 u := by rw [← hu]; exact fr_trans hs (fr_I (by omega))
      rw [u35]
      refine k_i (fun c => k_r ⟨fu, Or.inr ⟨fun z => ?_, rfl⟩⟩) (fun c => ?_)
      · have := z.1 p (by omega) (by omega); dsimp only at this; omega
      · refine k_z (by omega) (by omega) (k_m (ih j (p + 1) u (by omega) (by omega) (by omega) (by rw [← hu, sI_a (by omega)]; exact h5) (by rw [← hu, sI_a (by omega)]; exact h6) (by rw [← hu, sI_a (by omega)]; exact h7) (fun q q0 q1 => ?_) fu) (fun r t q => ⟨q.1, ?_⟩))
        · by_cases e : q = p
          · rw [e]; exact u35
          · rw [← hu, sI_k e]; exact hh q q0 (by omega)
        · rcases q.2 with ⟨q1, q2, q3⟩ | ⟨q1, q2⟩
          · refine Or.inl ⟨⟨fun v v0 v1 => ?_, q1.2⟩, q2, q3⟩
            by_cases e : v = p
            · rw [e]; show s0.1 2 (3 + p) ≤ 9; omega
            · exact q1.1 v (by omega) v1
          · exact Or.inr ⟨fun z => q1 ⟨fun v v0 v1 => z.1 v (by omega) v1, z.2⟩, q2⟩
/-- the class reads an image -/
theorem p67 (hL : L = 43 ∨ L = 66) (hP : s0.1 (L + 1) 0 = nP) (hS : s0.1 (L + 3) 0 = nS) (hW : s0.1 (L + 5) 0 = nW) (hp0 : 0 ≤ nP) (hb : ∀ k, 0 ≤ k → k < 1600 → 0 ≤ s0.1 2 k ∧ s0.1 2 k ≤ 255) (hl0 : 0 ≤ s0.1 1 2) (hl1 : s0.1 1 2 ≤ 1600) (hw0 : 0 ≤ nW) (hw6 : nW ≤ 6) (hws : nW ≤ nS) (hs8 : nS ≤ 8) : Ok (m67 34 L s0) (fun r t => Fr oFr s0 t ∧ ((onOk (fun i => s0.1 2 i) (s0.1 1 2) nP nS nW ∧ r = 1 ∧ onC (fun i => s0.1 2 i) nS nW t) ∨ (¬ onOk (fun i => s0.1 2 i) (s0.1 1 2) nP nS nW ∧ r = 0))) := by
  unfold m67
  refine k_v (k_v ?_)
  rw [hS, hW]
  refine k_z (by omega) (by omega) (k_v (k_z (by omega) (by omega) (k_z (by omega) (by omega) (k_z (by omega) (by omega) (k_v ?_)))))
  rw [sI_e]
  refine k_z (by omega) (by omega) (k_v ?_)
  rw [sI_a (by omega)]
  have f5 : Fr oFr s0 (sI s0 34 5 (nS - nW)) := fr_I (by omega)
  refine k_z (by omega) (by omega) (k_i (fun c => ?_) (fun c => k_r ⟨f5, Or.inr ⟨fun z => c (by have := z.1; omega), rfl⟩⟩))
  generalize hu : sI s0 34 5 (nS - nW) = u at f5
  have u2 : ∀ q, u.1 2 q = s0.1 2 q := fun q => f5.1 2 q (by omega)
  have u12 : u.1 1 2 = s0.1 1 2 := f5.1 1 2 (by omega)
  have fu2 : (fun i => u.1 2 i) = (fun i => s0.1 2 i) := funext u2
  have e68 : m68 (3 + nS + 4 * nW + (nS - nW)) u = some (if s0.1 2 (s0.1 1 2 - 1) = chkF (fun i => s0.1 2 i) (s0.1 1 2 - 1).toNat 0 103 then 1 else 0, u) := by
    unfold m68
    rw [e68_5 (by omega) (by omega) (fun k k0 k1 => by rw [u2]; exact hb k k0 k1) zFu (s0.1 1 2 - 1).toNat 0 103 (by omega) (by omega) (by unfold zFu; omega) (by omega) (by omega), fu2, u2, show 3 + nS + 4 * nW + (nS - nW) = s0.1 1 2 - 1 by omega]
  refine k_e e68 ?_
  by_cases d : s0.1 2 (s0.1 1 2 - 1) = chkF (fun i => s0.1 2 i) (s0.1 1 2 - 1).toNat 0 103
  · rw [if_pos d]
    refine k_q (by decide) (k_e (e69 (by omega) (fun k k0 k1 => by rw [u2]; exact hb k k0 k1) (by omega) (by omega)) (k_v ?_))
    rw [u2, u2, show (0 : Int) + 1 = 1 by omega]
    generalize hv : sI u 34 6 (256 * s0.1 2 0 + s0.1 2 1) = v
    have v12 : v.1 1 2 = s0.1 1 2 := by rw [← hv, sI_a (by omega)]; exact u12
    have v2 : ∀ q, v.1 2 q = s0.1 2 q := fun q => by rw [← hv, sI_a (by omega)]; exact u2 q
    refine k_e (e74 (by omega) (by omega) (by omega)) (k_v ?_)
    rw [v2]
    generalize ht : sI v 34 7 (s0.1 2 2) = t
    have ft : Fr oFr s0 t := by rw [← ht, ← hv]; exact fr_trans f5 (fr_trans (fr_I (by omega)) (fr_I (by omega)))
    have t5 : t.1 34 5 = nS - nW := by rw [← ht, sI_k (by omega), ← hv, sI_k (by omega), ← hu, sI_e]
    have t6 : t.1 34 6 = 256 * s0.1 2 0 + s0.1 2 1 := by rw [← ht, sI_k (by omega), ← hv, sI_e]
    have t7 : t.1 34 7 = s0.1 2 2 := by rw [← ht, sI_e]
    refine k_v ?_
    rw [t6]
    refine k_i (fun e => k_r ⟨ft, Or.inr ⟨fun z => by have := z.2.2.1; dsimp only at this; omega, rfl⟩⟩) (fun e => k_v ?_)
    rw [t7]
    refine k_i (fun g => k_r ⟨ft, Or.inr ⟨fun z => by have := z.2.2.2.1; dsimp only at this; omega, rfl⟩⟩) (fun g => ?_)
    refine k_m (p67_103 hL hP hp0 hb (by omega) hw0 hw6 hws hs8 zFu nS.toNat 0 t (by omega) (by omega) (by unfold zFu; omega) t5 t6 t7 (fun q q0 q1 => by omega) ft) (fun r w q => ⟨q.1, ?_⟩)
    rcases q.2 with ⟨q1, q2, q3⟩ | ⟨q1, q2⟩
    · exact Or.inl ⟨⟨by omega, d.symm, by show 256 * s0.1 2 0 + s0.1 2 1 ≤ 999; omega, by show s0.1 2 2 ≤ 2; omega, q1.1, q1.2.1, q1.2.2⟩, q2, q3⟩
    · exact Or.inr ⟨fun z => q1 ⟨z.2.2.2.2.1, z.2.2.2.2.2.1, z.2.2.2.2.2.2⟩, q2⟩
  · rw [if_neg d]
    exact k_p rfl (k_r ⟨f5, Or.inr ⟨fun z => d z.2.1.symm, rfl⟩⟩)
end
