/-! ===== feed ===== -/
theorem bv_255 (i : Nat) (h : 8 ≤ i) : (255#32).getLsbD i = false := by
  rw [BitVec.getLsbD_ofNat]
  have : Nat.testBit 255 i = false := Nat.testBit_lt_two_pow (Nat.lt_of_lt_of_le (by decide : 255 < 2 ^ 8) (Nat.pow_le_pow_right (by decide) h))
  rw [this, Bool.and_false]
theorem bv_sh (b : BitVec 32) (k : Nat) (hk : k ≤ 24) : (b >>> k) &&& 255#32 = (b.sshiftRight k) &&& 255#32 := by
  apply BitVec.eq_of_getLsbD_eq
  intro i hi
  rw [BitVec.getLsbD_and, BitVec.getLsbD_and]
  by_cases h : i < 8
  · rw [BitVec.getLsbD_ushiftRight, BitVec.getLsbD_sshiftRight]
    have h1 : ¬ (32 ≤ i) := by omega
    have h2 : k + i < 32 := by omega
    simp [h1, h2]
  · rw [bv_255 i (by omega), Bool.and_false, Bool.and_false]
theorem z_ofz (x : Int32) : Int32.ofInt x.toInt = x := Int32.ofInt_toInt x
/-- the byte of a number that stands at a place -/
theorem by_sh {x : Int} (k : Nat) (y : Int32) (hk : k ≤ 24) (hy1 : (((y.toUInt32 &&& Int32.toUInt32 31).toBitVec % 32).toNat) = k) (hy2 : ((y &&& 31).toBitVec.smod 32).toNat = k) (hy : zR y.toInt) : zAnd (zUshr x y.toInt) 255 = zAnd (zShr x y.toInt) 255 := by
  unfold zAnd zUshr zShr
  rw [z_ofz, z_ofz, z_ofz]
  congr 1
  apply Int32.toBitVec_inj.mp
  show (((Int32.ofInt x).toBitVec >>> (((y.toUInt32 &&& Int32.toUInt32 31).toBitVec % 32))) &&& 255#32) = (((Int32.ofInt x).toBitVec.sshiftRight' ((y &&& 31).toBitVec.smod 32)) &&& 255#32)
  rw [BitVec.sshiftRight_eq', hy2, ← bv_sh _ k hk, BitVec.ushiftRight_eq', hy1]
theorem by_0 (x : Int) : zAnd (zUshr x 0) 255 = zAnd (zShr x 0) 255 := by_sh 0 0 (by omega) (by decide +kernel) (by decide +kernel) (by decide +kernel)
theorem by_8 (x : Int) : zAnd (zUshr x 8) 255 = zAnd (zShr x 8) 255 := by_sh 8 8 (by omega) (by decide +kernel) (by decide +kernel) (by decide +kernel)
theorem by_16 (x : Int) : zAnd (zUshr x 16) 255 = zAnd (zShr x 16) 255 := by_sh 16 16 (by omega) (by decide +kernel) (by decide +kernel) (by decide +kernel)
theorem by_24 (x : Int) : zAnd (zUshr x 24) 255 = zAnd (zShr x 24) 255 := by_sh 24 24 (by omega) (by decide +kernel) (by decide +kernel) (by decide +kernel)
theorem zAnd_255 (x : Int) : 0 ≤ zAnd x 255 ∧ zAnd x 255 ≤ 255 := by
  unfold zAnd
  have h1 : (Int32.ofInt x &&& Int32.ofInt 255).toInt = ((Int32.ofInt x).toBitVec &&& 255#32).toInt := rfl
  have h2 : ((Int32.ofInt x).toBitVec &&& 255#32).toNat ≤ 255 := by
    rw [BitVec.toNat_and]
    exact Nat.and_le_right
  rw [h1, BitVec.toInt_eq_toNat_of_lt (by omega)]
  omega
/-- byte k of five numbers -/
def fdW (a b c d e : Int) (k : Int) : Int := if k < 4 then a else if k < 8 then b else if k < 12 then c else if k < 16 then d else e
def fdB (a b c d e : Int) (k : Int) : Int := zAnd (zShr (fdW a b c d e k) (8 * (3 - k % 4))) 255
section
variable {s : zS}
/-- the class puts a number -/
theorem p73 {x l : Int} (h : s.1 1 2 = l) (h0 : 0 ≤ l) (h1 : l + 4 ≤ 1600) : Ok (m73 x s) (fun _ t => t.1 1 2 = l + 4 ∧ (∀ j : Int, 0 ≤ j → j < 4 → t.1 2 (l + j) = zAnd (zShr x (8 * (3 - j))) 255) ∧ (∀ a k, ¬ (a = 1 ∧ k = 2) → ¬ (a = 2 ∧ l ≤ k ∧ k < l + 4) → t.1 a k = s.1 a k) ∧ t.2 = s.2) := by
  unfold m73
  have step : ∀ (n : Nat) (sh l' : Int) (u : zS) {P : Int → zS → Prop}, 0 ≤ sh → sh ≤ 24 → u.1 1 2 = l' → 0 ≤ l' → l' < 1600 → Ok (m73_3 n x (sh - 8) (sI (sI u 2 l' (zAnd (zUshr x sh) 255)) 1 2 (l' + 1))) P → Ok (m73_3 (n + 1) x sh u) P := by
    intro n sh l' u P a1 a2 a3 a4 a5 hk
    rw [m73_3]
    refine k_q (by omega) (k_v ?_)
    rw [a3]
    refine k_p a5 (k_v (k_v (k_v (k_x (by omega) (by omega) (k_v (k_v ?_))))))
    rw [sI_a (by omega), a3]
    refine k_z (by omega) (by omega) (k_v (k_z (by omega) (by omega) ?_))
    rw [show sh + -8 = sh - 8 by omega]
    exact hk
  have hz : zFu = 999995 + 5 := rfl
  rw [hz]
  refine step 999999 24 l s (by omega) (by omega) h h0 (by omega) ?_
  generalize h1' : sI (sI s 2 l (zAnd (zUshr x 24) 255)) 1 2 (l + 1) = s1
  refine step 999998 (24 - 8) (l + 1) s1 (by omega) (by omega) (by rw [← h1', sI_e]) (by omega) (by omega) ?_
  generalize h2' : sI (sI s1 2 (l + 1) (zAnd (zUshr x (24 - 8)) 255)) 1 2 (l + 1 + 1) = s2
  refine step 999997 (24 - 8 - 8) (l + 1 + 1) s2 (by omega) (by omega) (by rw [← h2', sI_e]) (by omega) (by omega) ?_
  generalize h3' : sI (sI s2 2 (l + 1 + 1) (zAnd (zUshr x (24 - 8 - 8)) 255)) 1 2 (l + 1 + 1 + 1) = s3
  refine step 999996 (24 - 8 - 8 - 8) (l + 1 + 1 + 1) s3 (by omega) (by omega) (by rw [← h3', sI_e]) (by omega) (by omega) ?_
  generalize h4' : sI (sI s3 2 (l + 1 + 1 + 1) (zAnd (zUshr x (24 - 8 - 8 - 8)) 255)) 1 2 (l + 1 + 1 + 1 + 1) = s4
  rw [m73_3]
  refine k_p (by omega) (k_r ⟨by rw [← h4', sI_e]; omega, fun j j0 j1 => ?_, fun a k n1 n2 => ?_, by rw [← h4', ← h3', ← h2', ← h1']; rfl⟩)
  · have hj : j = 0 ∨ j = 1 ∨ j = 2 ∨ j = 3 := by omega
    rcases hj with rfl | rfl | rfl | rfl
    · rw [← h4', sI_a (by omega), sI_k (by omega), ← h3', sI_a (by omega), sI_k (by omega), ← h2', sI_a (by omega), sI_k (by omega), ← h1', sI_a (by omega), show l + 0 = l by omega, sI_e]
      exact by_24 x
    · rw [← h4', sI_a (by omega), sI_k (by omega), ← h3', sI_a (by omega), sI_k (by omega), ← h2', sI_a (by omega), sI_e]
      exact by_16 x
    · rw [← h4', sI_a (by omega), sI_k (by omega), ← h3', sI_a (by omega), show l + 2 = l + 1 + 1 by omega, sI_e]
      exact by_8 x
    · rw [← h4', sI_a (by omega), show l + 3 = l + 1 + 1 + 1 by omega, sI_e]
      exact by_0 x
  · rw [← h4', sI_if, if_neg n1, sI_if, if_neg (by omega), ← h3', sI_if, if_neg n1, sI_if, if_neg (by omega), ← h2', sI_if, if_neg n1, sI_if, if_neg (by omega), ← h1', sI_if, if_neg n1, sI_if, if_neg (by omega)]
theorem p151_81 {a b c d e y k l : Int} {K : Int → Int → Int → Int → Int → Int → zS → Option (Int × zS)} {P : Int → zS → Prop} (k0 : 0 ≤ k) (k1 : k < 20) (hl : s.1 209 1 = l) (l0 : 0 ≤ l) (l1 : l < 1600) (h : Ok (K a b c d e (k + 1) (sI (sI s 210 l (zAnd (zShr y (8 * (3 - k % 4))) 255)) 209 1 (l + 1))) P) : Ok (m151_81 K a b c d e k y s) P := by
  unfold m151_81
  refine k_v ?_
  rw [hl, Int.tmod_eq_emod_of_nonneg k0]
  refine k_n (by decide) (k_v (k_z (by omega) (by omega) (k_z (by omega) (by omega) (k_v (k_v (k_x (by omega) (by omega) (k_v (k_v ?_))))))))
  rw [sI_a (by omega), hl]
  exact k_z (by omega) (by omega) (k_v (k_z (by omega) (by omega) h))
/-- the reference puts twenty -/
theorem p151_28 {a b c d e l : Int} {s0 : zS} (l0 : 0 ≤ l) (l1 : l + 20 ≤ 1600) : ∀ (n j : Nat) (s : zS), j ≤ 20 → 20 - j < n → s.1 209 1 = l + (j : Int) → (∀ i : Int, 0 ≤ i → i < (j : Int) → s.1 210 (l + i) = fdB a b c d e i) → (∀ a k, ¬ (a = 209 ∧ k = 1) → ¬ (a = 210 ∧ l ≤ k ∧ k < l + 20) → s.1 a k = s0.1 a k) → s.2 = s0.2 → Ok (m151_28 n a b c d e (j : Int) s) (fun r t => r = l + 20 ∧ t.1 209 1 = l + 20 ∧ (∀ i : Int, 0 ≤ i → i < 20 → t.1 210 (l + i) = fdB a b c d e i) ∧ (∀ a k, ¬ (a = 209 ∧ k = 1) → ¬ (a = 210 ∧ l ≤ k ∧ k < l + 20) → t.1 a k = s0.1 a k) ∧ t.2 = s0.2) := by
  intro n
  induction n with
  | zero => intro j s h1 h2; omega
  | succ n ih =>
    intro j s h1 h2 hl hb hg hM
    rw [m151_28]
    by_cases hj : j = 20
    · subst hj
      refine k_q (by omega) (k_v (k_r ⟨hl, hl, hb, hg, hM⟩))
    refine k_p (by omega) ?_
    have nx : ∀ y, y = fdW a b c d e (j : Int) → Ok (m151_28 n a b c d e ((j : Int) + 1) (sI (sI s 210 (l + (j : Int)) (zAnd (zShr y (8 * (3 - (j : Int) % 4))) 255)) 209 1 (l + (j : Int) + 1))) (fun r t => r = l + 20 ∧ t.1 209 1 = l + 20 ∧ (∀ i : Int, 0 ≤ i → i < 20 → t.1 210 (l + i) = fdB a b c d e i) ∧ (∀ a k, ¬ (a = 209 ∧ k = 1) → ¬ (a = 210 ∧ l ≤ k ∧ k < l + 20) → t.1 a k = s0.1 a k) ∧ t.2 = s0.2) := by
      intro y hy
      refine ih (j + 1) _ (by omega) (by omega) (by rw [sI_e]; omega) (fun i i0 i1 => ?_) (fun a' k n1 n2 => ?_) hM
      · rw [sI_a (by omega)]
        by_cases e : i = (j : Int)
        · rw [e, sI_e, hy]; rfl
        · rw [sI_k (by omega)]; exact hb i i0 (by omega)
      · rw [sI_if, if_neg n1, sI_if, if_neg (by omega)]; exact hg a' k n1 n2
    refine k_i (fun c1 => ?_) (fun c1 => ?_)
    · exact p151_81 (by omega) (by omega) hl (by omega) (by omega) (nx a (by unfold fdW; rw [if_pos c1]))
    refine k_i (fun c2 => ?_) (fun c2 => ?_)
    · exact p151_81 (by omega) (by omega) hl (by omega) (by omega) (nx b (by unfold fdW; rw [if_neg c1, if_pos c2]))
    refine k_i (fun c3 => ?_) (fun c3 => ?_)
    · exact p151_81 (by omega) (by omega) hl (by omega) (by omega) (nx c (by unfold fdW; rw [if_neg c1, if_neg c2, if_pos c3]))
    refine k_i (fun c4 => ?_) (fun c4 => ?_)
    · exact p151_81 (by omega) (by omega) hl (by omega) (by omega) (nx d (by unfold fdW; rw [if_neg c1, if_neg c2, if_neg c3, if_pos c4]))
    · exact p151_81 (by omega) (by omega) hl (by omega) (by omega) (nx e (by unfold fdW; rw [if_neg c1, if_neg c2, if_neg c3, if_neg c4]))
end
theorem t101 : T101 := by
  intro n s a b c d e ha hb hc hd he hR hn
  obtain ⟨q1, q2, q3, q4, q5, q6⟩ := R_tape hR
  have hLL := R_LL hR
  by_cases hf : 1580 < s.1 1 2
  · refine two_ref (j := 0) (r := -1) hR hn (by omega) (by omega) ?_ (fun u hu h1 h2 => ?_)
    · unfold m101; rw [oV_eq, if_pos hf, e136 hR hn (by omega) (by omega), oC_some]
    · unfold m151; rw [oV_eq, hu 209 1 (by omega), oZ_pos (by omega) (by omega), if_pos (by omega), oX_pos (by omega) (by omega), oV_eq, oZ_pos (by omega) (by omega), oX_pos (by omega) (by omega), oV_eq]
  generalize hl : s.1 1 2 = l at *
  unfold Two m101
  refine k_v ?_
  rw [hl]
  refine k_q hf ?_
  refine k_c (p73 hl q2 (by omega)) ?_
  intro _ s1 h1
  refine k_c (p73 h1.1 (by omega) (by omega)) ?_
  intro _ s2 h2
  refine k_c (p73 h2.1 (by omega) (by omega)) ?_
  intro _ s3 h3
  refine k_c (p73 h3.1 (by omega) (by omega)) ?_
  intro _ s4 h4
  refine k_c (p73 h4.1 (by omega) (by omega)) ?_
  intro _ s5 h5
  refine k_v (k_r ?_)
  have fr : ∀ a k, ¬ (a = 1 ∧ k = 2) → ¬ (a = 2 ∧ l ≤ k ∧ k < l + 20) → s5.1 a k = s.1 a k := fun a k n1 n2 => by
    rw [h5.2.2.1 a k n1 (by omega), h4.2.2.1 a k n1 (by omega), h3.2.2.1 a k n1 (by omega), h2.2.2.1 a k n1 (by omega), h1.2.2.1 a k n1 (by omega)]
  have hM : s5.2 = s.2 := by rw [h5.2.2.2, h4.2.2.2, h3.2.2.2, h2.2.2.2, h1.2.2.2]
  have e5 : s5.1 1 2 = l + 20 := by rw [h5.1]; omega
  have by5 : ∀ i : Int, 0 ≤ i → i < 20 → s5.1 2 (l + i) = fdB a b c d e i := by
    intro i i0 i1
    unfold fdB fdW
    by_cases c1 : i < 4
    · rw [if_pos c1, h5.2.2.1 2 _ (by omega) (by omega), h4.2.2.1 2 _ (by omega) (by omega), h3.2.2.1 2 _ (by omega) (by omega), h2.2.2.1 2 _ (by omega) (by omega), h1.2.1 i i0 c1, show i % 4 = i by omega]
    rw [if_neg c1]
    by_cases c2 : i < 8
    · have := h2.2.1 (i - 4) (by omega) (by omega)
      rw [show l + 4 + (i - 4) = l + i by omega] at this
      rw [if_pos c2, h5.2.2.1 2 _ (by omega) (by omega), h4.2.2.1 2 _ (by omega) (by omega), h3.2.2.1 2 _ (by omega) (by omega), this, show i % 4 = i - 4 by omega]
    rw [if_neg c2]
    by_cases c3 : i < 12
    · have := h3.2.1 (i - 8) (by omega) (by omega)
      rw [show l + 4 + 4 + (i - 8) = l + i by omega] at this
      rw [if_pos c3, h5.2.2.1 2 _ (by omega) (by omega), h4.2.2.1 2 _ (by omega) (by omega), this, show i % 4 = i - 8 by omega]
    rw [if_neg c3]
    by_cases c4 : i < 16
    · have := h4.2.1 (i - 12) (by omega) (by omega)
      rw [show l + 4 + 4 + 4 + (i - 12) = l + i by omega] at this
      rw [if_pos c4, h5.2.2.1 2 _ (by omega) (by omega), this, show i % 4 = i - 12 by omega]
    · have := h5.2.1 (i - 16) (by omega) (by omega)
      rw [show l + 4 + 4 + 4 + 4 + (i - 16) = l + i by omega] at this
      rw [if_neg c4, this, show i % 4 = i - 16 by omega]
  unfold m151
  refine k_v ?_
  rw [fr 209 1 (by omega) (by omega), ← q1]
  refine k_z (by omega) (by omega) (k_q (by omega) ?_)
  refine k_m (p151_28 (l := l) (s0 := s5) q2 (by omega) zFu 0 s5 (by omega) (by unfold zFu; omega) (by rw [fr 209 1 (by omega) (by omega), ← q1]; omega) (fun i i0 i1 => by omega) (fun a k _ _ => rfl) rfl) ?_
  intro r t ht
  obtain ⟨w1, w2, w3, w4, w5⟩ := ht
  refine ⟨by rw [e5, w1], ?_⟩
  have g : ∀ a k, ¬ (a = 1 ∧ k = 2) → ¬ (a = 2 ∧ l ≤ k ∧ k < l + 20) → ¬ (a = 209 ∧ k = 1) → ¬ (a = 210 ∧ l ≤ k ∧ k < l + 20) → t.1 a k = s.1 a k := fun a k n1 n2 n3 n4 => by rw [w4 a k n3 n4, fr a k n1 n2]
  have hM' : t.2 = s.2 := w5.trans hM
  refine R_of (n := n) (s := s) hR (by rw [hM']) (fun a k q => ⟨by unfold Stt at q; exact g a k (by omega) (by omega) (by omega) (by omega), by rw [hM']⟩) ?_ ?_ ?_ ?_ ?_ ?_ ?_
  · have t12 : t.1 1 2 = l + 20 := by rw [w4 1 2 (by omega) (by omega)]; exact e5
    refine ⟨by rw [t12, w2], by rw [t12]; omega, by rw [t12]; omega, fun k k0 k1 => ?_, ?_, ?_⟩
    · by_cases hk : l ≤ k ∧ k < l + 20
      · have z1 := by5 (k - l) (by omega) (by omega)
        have z2 := w3 (k - l) (by omega) (by omega)
        rw [show l + (k - l) = k by omega] at z1 z2
        rw [w4 2 k (by omega) (by omega), z1, z2]
        have := zAnd_255 (zShr (fdW a b c d e (k - l)) (8 * (3 - (k - l) % 4)))
        exact ⟨rfl, this.1, this.2⟩
      · rw [g 2 k (by omega) (by omega) (by omega) (by omega), g 210 k (by omega) (by omega) (by omega) (by omega)]; exact q4 k k0 k1
    · rw [g 1 5 (by omega) (by omega) (by omega) (by omega), g 209 7 (by omega) (by omega) (by omega) (by omega)]; exact q5
    · rw [g 1 6 (by omega) (by omega) (by omega) (by omega), g 209 8 (by omega) (by omega) (by omega) (by omega)]; exact q6
  · exact rRefu_eq (fun k => g _ _ (by omega) (by omega) (by omega) (by omega)) (fun k => g _ _ (by omega) (by omega) (by omega) (by omega)) (R_refu hR)
  · exact rSeed_eq (g _ _ (by omega) (by omega) (by omega) (by omega)) (by rw [hM']) (R_seed hR)
  · exact rImg_eq (g _ _ (by omega) (by omega) (by omega) (by omega)) (g _ _ (by omega) (by omega) (by omega) (by omega)) (fun k => g _ _ (by omega) (by omega) (by omega) (by omega)) (fun k => g _ _ (by omega) (by omega) (by omega) (by omega)) (R_img hR)
  · exact rRows_eq (g _ _ (by omega) (by omega) (by omega) (by omega)) (g _ _ (by omega) (by omega) (by omega) (by omega)) (fun k => g _ _ (by omega) (by omega) (by omega) (by omega)) (fun k => g _ _ (by omega) (by omega) (by omega) (by omega)) (fun k => g _ _ (by omega) (by omega) (by omega) (by omega)) (g _ _ (by omega) (by omega) (by omega) (by omega)) (R_rows hR)
  · exact rNow_eq (R_cnt hR) (fun k => g _ _ (by omega) (by omega) (by omega) (by omega)) (fun a k q1 q2 => g _ _ (by omega) (by omega) (by omega) (by omega)) (fun k => g _ _ (by omega) (by omega) (by omega) (by omega)) (R_now hR)
  · exact rPast_eq (R_cnt hR) (fun k => g _ _ (by omega) (by omega) (by omega) (by omega)) (g _ _ (by omega) (by omega) (by omega) (by omega)) (g _ _ (by omega) (by omega) (by omega) (by omega)) (g _ _ (by omega) (by omega) (by omega) (by omega)) (g _ _ (by omega) (by omega) (by omega) (by omega)) (fun a k q1 q2 => g _ _ (by omega) (by omega) (by omega) (by omega)) (fun k => g _ _ (by omega) (by omega) (by omega) (by omega)) (R_past hR)
