/-! ===== on: the reference tests an image ===== -/
/-- from place x on each is a pair, told nowhere before -/
def prO (b : Int → Int) (nS nW x : Int) : Prop := ∀ k, x ≤ k → k < nS → (0 ≤ prA b nS nW k ∧ prA b nS nW k < nS) ∧ ∀ i, 0 ≤ i → i < k → prA b nS nW i ≠ prA b nS nW k
theorem prO_iff {b : Int → Int} {nS nW : Int} (h0 : 0 ≤ nS) : (∀ p, 0 ≤ p → p < nS → ∃ k, 0 ≤ k ∧ k < nS ∧ prA b nS nW k = p) ↔ prO b nS nW 0 := by
  have hn : ((nS.toNat : Nat) : Int) = nS := Int.toNat_of_nonneg h0
  constructor
  · intro h
    have := ph_surj nS.toNat (fun k => prA b nS nW (k : Int)) (fun p p0 p1 => by
      obtain ⟨k, k0, k1, k2⟩ := h p p0 (by omega)
      refine ⟨k.toNat, by omega, ?_⟩
      show prA b nS nW (k.toNat : Int) = p
      rw [Int.toNat_of_nonneg k0]; exact k2)
    obtain ⟨g1, g2⟩ := this
    intro k k0 k1
    refine ⟨?_, fun i i0 i1 z => ?_⟩
    · have := g1 k.toNat (by omega)
      rw [Int.toNat_of_nonneg k0, hn] at this; exact this
    · have := g2 i.toNat k.toNat (by omega) (by omega) (by rw [Int.toNat_of_nonneg k0, Int.toNat_of_nonneg i0]; exact z)
      omega
  · intro h p p0 p1
    obtain ⟨k, k1, k2⟩ := ph_inj nS.toNat (fun k => prA b nS nW (k : Int)) (fun k k1 => by
      rw [hn]; exact (h (k : Int) (by omega) (by omega)).1) (fun i j i1 j1 => (h (j : Int) (by omega) (by omega)).2 (i : Int) (by omega) (by omega)) p p0 (by omega)
    exact ⟨(k : Int), by omega, by omega, k2⟩
section
variable {s : zS} {nP nS nW : Int}
theorem e281 {k : Int} (hS : s.1 242 5 = nS) (hW : s.1 242 6 = nW) (hw0 : 0 ≤ nW) (hw6 : nW ≤ 6) (hws : nW ≤ nS) (hs8 : nS ≤ 8) (k0 : 0 ≤ k) (k1 : k < nS) : m281 k s = some (prA (fun i => s.1 210 i) nS nW k, s) := by
  unfold m281 prA
  by_cases e : k < nW
  · rw [e182, oC_some, hS, oZ_pos (by omega) (by omega), e183, oC_some, hW, if_pos e, oZ_pos (by omega) (by omega), oZ_pos (by omega) (by omega), oX_pos (by omega) (by omega), oV_eq, if_pos e]
  · rw [e182, oC_some, hS, oZ_pos (by omega) (by omega), e183, oC_some, hW, if_neg e, e183, oC_some, hW, oZ_pos (by omega) (by omega), oZ_pos (by omega) (by omega), oZ_pos (by omega) (by omega), oX_pos (by omega) (by omega), oV_eq, if_neg e]
theorem p282_26 {x : Int} {K : Int → zS → Option (Int × zS)} {P : Int → zS → Prop} (hS : s.1 242 5 = nS) (hW : s.1 242 6 = nW) (hw0 : 0 ≤ nW) (hw6 : nW ≤ 6) (hws : nW ≤ nS) (hs8 : nS ≤ 8) (x1 : x < nS) : ∀ (n j : Nat) (y : Int), y = x - (j : Int) → 0 ≤ y → j < n → ((∀ i, y ≤ i → i < x → prA (fun i => s.1 210 i) nS nW i ≠ prA (fun i => s.1 210 i) nS nW x) → Ok (K (x + 1) s) P) → ((¬ ∀ i, y ≤ i → i < x → prA (fun i => s.1 210 i) nS nW i ≠ prA (fun i => s.1 210 i) nS nW x) → P 0 s) → Ok (m282_26 K n x y s) P := by
  intro n
  induction n with
  | zero => intro j y _ _ h; omega
  | succ n ih =>
    intro j y hy y0 hj hk hn
    rw [m282_26]
    cases j with
    | zero => exact k_q (by omega) (k_z (by omega) (by omega) (hk (fun i i0 i1 => by omega)))
    | succ j =>
      refine k_p (by omega) (k_e (e281 hS hW hw0 hw6 hws hs8 y0 (by omega)) (k_e (e281 hS hW hw0 hw6 hws hs8 (by omega) x1) (k_i (fun c => k_r (hn (fun z => z y (by omega) (by omega) c))) (fun c => k_z (by omega) (by omega) (ih j (y + 1) (by omega) (by omega) (by omega) (fun z => hk (fun i i0 i1 => ?_)) (fun z => hn (fun w => z (fun i i0 i1 => w i (by omega) i1))))))))
      by_cases e : i = y
      · rw [e]; exact c
      · exact z i (by omega) i1
theorem p282_2 (hS : s.1 242 5 = nS) (hW : s.1 242 6 = nW) (hw0 : 0 ≤ nW) (hw6 : nW ≤ 6) (hws : nW ≤ nS) (hs8 : nS ≤ 8) : ∀ (n j : Nat) (x : Int), x = nS - (j : Int) → 0 ≤ x → j < n → Ok (m282_2 n x s) (fun r t => t = s ∧ ((prO (fun i => s.1 210 i) nS nW x ∧ r = 1) ∨ (¬ prO (fun i => s.1 210 i) nS nW x ∧ r = 0))) := by
  intro n
  induction n with
  | zero => intro j x _ _ h; omega
  | succ n ih =>
    intro j x hx x0 hj
    rw [m282_2]
    refine k_e e182 ?_
    rw [hS]
    cases j with
    | zero => exact k_q (by omega) (k_r ⟨rfl, Or.inl ⟨fun k k0 k1 => by omega, rfl⟩⟩)
    | succ j =>
      refine k_p (by omega) (k_e (e281 hS hW hw0 hw6 hws hs8 x0 (by omega)) (k_e (e185 (by omega) (by omega)) ?_))
      rw [hS]
      by_cases c : 0 ≤ prA (fun i => s.1 210 i) nS nW x ∧ prA (fun i => s.1 210 i) nS nW x < nS
      · rw [if_pos c]
        refine k_q (by decide) (p282_26 hS hW hw0 hw6 hws hs8 (by omega) zFu x.toNat 0 (by omega) (by omega) (by unfold zFu; omega) (fun z => ?_) (fun z => ⟨rfl, Or.inr ⟨fun y => z (y x (by omega) (by omega)).2, rfl⟩⟩))
        refine k_m (ih j (x + 1) (by omega) (by omega) (by omega)) (fun r t q => ⟨q.1, ?_⟩)
        rcases q.2 with ⟨q1, q2⟩ | ⟨q1, q2⟩
        · refine Or.inl ⟨fun k k0 k1 => ?_, q2⟩
          by_cases e : k = x
          · rw [e]; exact ⟨c, z⟩
          · exact q1 k (by omega) k1
        · exact Or.inr ⟨fun y => q1 (fun k k0 k1 => y k (by omega) k1), q2⟩
      · rw [if_neg c]
        exact k_p rfl (k_r ⟨rfl, Or.inr ⟨fun y => c (y x (by omega) (by omega)).1, rfl⟩⟩)
theorem p283_115 (hP : s.1 242 4 = nP) (hS : s.1 242 5 = nS) (hW : s.1 242 6 = nW) (hb : ∀ k, 0 ≤ k → k < 1600 → 0 ≤ s.1 210 k ∧ s.1 210 k ≤ 255) (hw0 : 0 ≤ nW) (hw6 : nW ≤ 6) (hws : nW ≤ nS) (hs8 : nS ≤ 8) : ∀ (n j : Nat) (w : Int), w = nW - (j : Int) → 0 ≤ w → j < n → Ok (m283_115 n (3 + nS) w s) (fun r t => t = s ∧ ((onF (fun i => s.1 210 i) nP nS nW w ∧ r = 1) ∨ (¬ onF (fun i => s.1 210 i) nP nS nW w ∧ r = 0))) := by
  intro n
  induction n with
  | zero => intro j w _ _ h; omega
  | succ n ih =>
    intro j w hw w0 hj
    rw [m283_115]
    refine k_e e183 ?_
    rw [hW]
    cases j with
    | zero =>
      refine k_q (by omega) ?_
      unfold m282
      refine k_c (p282_2 hS hW hw0 hw6 hws hs8 zFu nS.toNat 0 (by omega) (by omega) (by unfold zFu; omega)) ?_
      intro r t ht
      obtain ⟨t1, t2⟩ := ht
      rw [t1]
      refine k_d (by rcases t2 with q | q <;> omega) (k_r ⟨rfl, ?_⟩)
      rcases t2 with ⟨q1, q2⟩ | ⟨q1, q2⟩
      · exact Or.inl ⟨⟨fun v v0 v1 => by omega, (prO_iff (by omega)).mpr q1⟩, q2⟩
      · exact Or.inr ⟨fun z => q1 ((prO_iff (by omega)).mp z.2), q2⟩
    | succ j =>
      have b1 := hb (3 + nS + 4 * w + 1) (by omega) (by omega)
      have b2 := hb (3 + nS + 4 * w + 2) (by omega) (by omega)
      have b3 := hb (3 + nS + 4 * w + 3) (by omega) (by omega)
      have go : wOk (fun i => s.1 210 i) nP nS w → Ok (m283_115 n (3 + nS) (w + 1) s) (fun r t => t = s ∧ ((onF (fun i => s.1 210 i) nP nS nW w ∧ r = 1) ∨ (¬ onF (fun i => s.1 210 i) nP nS nW w ∧ r = 0))) := by
        intro ok
        refine k_m (ih j (w + 1) (by omega) (by omega) (by omega)) (fun r t q => ⟨q.1, ?_⟩)
        rcases q.2 with ⟨q1, q2⟩ | ⟨q1, q2⟩
        · refine Or.inl ⟨⟨fun v v0 v1 => ?_, q1.2⟩, q2⟩
          by_cases e : v = w
          · rw [e]; exact ok
          · exact q1.1 v (by omega) v1
        · exact Or.inr ⟨fun z => q1 ⟨fun v v0 v1 => z.1 v (by omega) v1, z.2⟩, q2⟩
      have no : ¬ wOk (fun i => s.1 210 i) nP nS w → ¬ onF (fun i => s.1 210 i) nP nS nW w := fun z y => z (y.1 w (by omega) (by omega))
      refine k_p (by omega) (k_z (by omega) (by omega) (k_z (by omega) (by omega) (k_z (by omega) (by omega) (k_x (by omega) (by omega) (k_v (k_z (by omega) (by omega) (k_z (by omega) (by omega) (k_x (by omega) (by omega) (k_v (k_z (by omega) (by omega) (k_z (by omega) (by omega) (k_x (by omega) (by omega) (k_v (k_e e181 ?_))))))))))))))
      rw [hP]
      refine k_i (fun c => k_r ⟨rfl, Or.inr ⟨no (fun z => ?_), rfl⟩⟩) (fun c => k_z (by omega) (by omega) (k_x (by omega) (by omega) (k_v (k_i (fun d => k_i (fun e => k_r ⟨rfl, Or.inr ⟨no (fun z => ?_), rfl⟩⟩) (fun e => k_z (by omega) (by omega) (go ?_))) (fun d => k_i (fun e => k_r ⟨rfl, Or.inr ⟨no (fun z => ?_), rfl⟩⟩) (fun e => k_z (by omega) (by omega) (go ?_)))))))
      · have := z.1; dsimp only at this; omega
      · have := z.2.2 d; dsimp only at this; omega
      · exact ⟨by dsimp only; omega, by dsimp only; omega, fun _ => by dsimp only; omega⟩
      · have := z.2.1; dsimp only at this; omega
      · exact ⟨by dsimp only; omega, by dsimp only; omega, fun z => absurd z d⟩
theorem p283_84 (hP : s.1 242 4 = nP) (hS : s.1 242 5 = nS) (hW : s.1 242 6 = nW) (hb : ∀ k, 0 ≤ k → k < 1600 → 0 ≤ s.1 210 k ∧ s.1 210 k ≤ 255) (hw0 : 0 ≤ nW) (hw6 : nW ≤ 6) (hws : nW ≤ nS) (hs8 : nS ≤ 8) : ∀ (n j : Nat) (p : Int), p = nS - (j : Int) → 0 ≤ p → j < n → Ok (m283_84 n (3 + nS) p s) (fun r t => t = s ∧ ((onE (fun i => s.1 210 i) nP nS nW p ∧ r = 1) ∨ (¬ onE (fun i => s.1 210 i) nP nS nW p ∧ r = 0))) := by
  intro n
  induction n with
  | zero => intro j p _ _ h; omega
  | succ n ih =>
    intro j p hp p0 hj
    rw [m283_84]
    refine k_e e182 ?_
    rw [hS]
    cases j with
    | zero =>
      refine k_q (by omega) (k_m (p283_115 hP hS hW hb hw0 hw6 hws hs8 zFu nW.toNat 0 (by omega) (by omega) (by unfold zFu; omega)) (fun r t q => ⟨q.1, ?_⟩))
      rcases q.2 with ⟨q1, q2⟩ | ⟨q1, q2⟩
      · exact Or.inl ⟨⟨fun v v0 v1 => by omega, q1⟩, q2⟩
      · exact Or.inr ⟨fun z => q1 z.2, q2⟩
    | succ j =>
      refine k_p (by omega) (k_z (by omega) (by omega) (k_x (by omega) (by omega) (k_v (k_i (fun c => k_r ⟨rfl, Or.inr ⟨fun z => ?_, rfl⟩⟩) (fun c => k_z (by omega) (by omega) (k_m (ih j (p + 1) (by omega) (by omega) (by omega)) (fun r t q => ⟨q.1, ?_⟩)))))))
      · have := z.1 p (by omega) (by omega); dsimp only at this; omega
      · rcases q.2 with ⟨q1, q2⟩ | ⟨q1, q2⟩
        · refine Or.inl ⟨⟨fun v v0 v1 => ?_, q1.2⟩, q2⟩
          by_cases e : v = p
          · rw [e]; show s.1 210 (3 + p) ≤ 9; omega
          · exact q1.1 v (by omega) v1
        · exact Or.inr ⟨fun z => q1 ⟨fun v v0 v1 => z.1 v (by omega) v1, z.2⟩, q2⟩
/-- the reference tests an image -/
theorem p283 {l : Int} (hP : s.1 242 4 = nP) (hS : s.1 242 5 = nS) (hW : s.1 242 6 = nW) (hb : ∀ k, 0 ≤ k → k < 1600 → 0 ≤ s.1 210 k ∧ s.1 210 k ≤ 255) (hw0 : 0 ≤ nW) (hw6 : nW ≤ 6) (hws : nW ≤ nS) (hs8 : nS ≤ 8) : Ok (m283 l s) (fun r t => t = s ∧ ((onOk (fun i => s.1 210 i) l nP nS nW ∧ r = 1) ∨ (¬ onOk (fun i => s.1 210 i) l nP nS nW ∧ r = 0))) := by
  unfold m283
  refine k_e e182 ?_
  rw [hS]
  refine k_z (by omega) (by omega) (k_e e183 ?_)
  rw [hW]
  refine k_z (by omega) (by omega) (k_z (by omega) (by omega) (k_e e182 ?_))
  rw [hS]
  refine k_z (by omega) (by omega) (k_z (by omega) (by omega) (k_i (fun c => ?_) (fun c => k_r ⟨rfl, Or.inr ⟨fun z => c (by have := z.1; omega), rfl⟩⟩)))
  have e277 : m277 1600 210 (l - 1) s = some (chkF (fun i => s.1 210 i) (l - 1).toNat 0 103, s) := by
    unfold m277
    rw [e277b (by omega) hb zFu (l - 1).toNat 0 103 (by omega) (by omega) (by unfold zFu; omega) (by omega) (by omega)]
  have h0 := hb 0 (by omega) (by omega)
  have h1 := hb 1 (by omega) (by omega)
  refine k_z (by omega) (by omega) (k_x (by omega) (by omega) (k_v (k_z (by omega) (by omega) (k_e e277 (k_i (fun d => ?_) (fun d => k_r ⟨rfl, Or.inr ⟨fun z => d z.2.1.symm, rfl⟩⟩))))))
  refine k_x (by omega) (by omega) (k_v (k_z (by omega) (by omega) (k_x (by omega) (by omega) (k_v (k_z (by omega) (by omega) (k_i (fun e => k_r ⟨rfl, Or.inr ⟨fun z => ?_, rfl⟩⟩) (fun e => k_x (by omega) (by omega) (k_v (k_i (fun g => k_r ⟨rfl, Or.inr ⟨fun z => ?_, rfl⟩⟩) (fun g => ?_))))))))))
  · have := z.2.2.1; dsimp only at this; omega
  · have := z.2.2.2.1; dsimp only at this; omega
  · refine k_m (p283_84 hP hS hW hb hw0 hw6 hws hs8 zFu nS.toNat 0 (by omega) (by omega) (by unfold zFu; omega)) (fun r w q => ⟨q.1, ?_⟩)
    rcases q.2 with ⟨q1, q2⟩ | ⟨q1, q2⟩
    · exact Or.inl ⟨⟨by omega, d.symm, by show 256 * s.1 210 0 + s.1 210 1 ≤ 999; omega, by show s.1 210 2 ≤ 2; omega, q1.1, q1.2.1, q1.2.2⟩, q2⟩
    · exact Or.inr ⟨fun z => q1 ⟨z.2.2.2.2.1, z.2.2.2.2.2.1, z.2.2.2.2.2.2⟩, q2⟩
end
