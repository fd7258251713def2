/-! ===== chance ===== -/
def nxS (x : Int) : Int := (1103515245 * x + 12345) % 2147483648
section
variable {s : zS} {x z : Int}
theorem zAndJ_mod (h0 : 0 ≤ z) (h1 : z < 9223372036854775808) : zAndJ z 2147483647 = z % 2147483648 := by
  unfold zAndJ
  have e1 : (Int64.ofInt z &&& Int64.ofInt 2147483647).toInt = ((Int64.ofInt z).toBitVec &&& 2147483647#64).toInt := rfl
  have e2 : (Int64.ofInt z).toBitVec.toNat = z.toNat := by
    show (BitVec.ofInt 64 z).toNat = z.toNat
    rw [BitVec.toNat_ofInt]
    omega
  have e3 : ((Int64.ofInt z).toBitVec &&& 2147483647#64).toNat = z.toNat % 2147483648 := by
    rw [BitVec.toNat_and, e2]
    show z.toNat &&& 2147483647 = _
    have := Nat.and_two_pow_sub_one_eq_mod z.toNat 31
    exact this
  rw [e1, BitVec.toInt_eq_toNat_of_lt (by rw [e3]; omega), e3]
  omega
/-- the class draws -/
theorem e144 (h0 : 0 ≤ s.1 0 18) (h1 : s.1 0 18 ≤ 2147483647) : m144 100 s = some (nxS (s.1 0 18) / 64 % 100, sI s 0 18 (nxS (s.1 0 18))) := by
  have b : 0 ≤ nxS (s.1 0 18) ∧ nxS (s.1 0 18) < 2147483648 := by unfold nxS; omega
  unfold m144
  rw [oV_eq, oJ_pos (by omega) (by omega), oJ_pos (by omega) (by omega), oV_eq, zAndJ_mod (by omega) (by omega)]
  change oZ (nxS (s.1 0 18)) _ = _
  rw [oZ_pos (by omega) (by omega), oV_eq, if_pos (by omega), oV_eq, sI_e, oN_pos (by omega), Int.tdiv_eq_ediv_of_nonneg b.1, oZ_pos (by omega) (by omega), oN_pos (by omega), oV_eq, Int.tmod_eq_emod_of_nonneg (by omega)]
theorem e246 (h0 : 0 ≤ s.2.1 209 76) (h1 : s.2.1 209 76 ≤ 2147483647) : m246 100 s = some (nxS (s.2.1 209 76) / 64 % 100, sJ s 209 76 (nxS (s.2.1 209 76))) := by
  have b : 0 ≤ nxS (s.2.1 209 76) ∧ nxS (s.2.1 209 76) < 2147483648 := by unfold nxS; omega
  unfold m246
  rw [oV_eq, oJ_pos (by omega) (by omega), oJ_pos (by omega) (by omega), oN_pos (by omega), oV_eq, Int.tmod_eq_emod_of_nonneg (by omega)]
  change (oV (sJ s 209 76 (nxS (s.2.1 209 76))) _) = _
  rw [oV_eq, oV_eq, sJ_e, oN_pos (by omega), Int.tdiv_eq_ediv_of_nonneg b.1, oJ_pos (by omega) (by omega), oN_pos (by omega), oV_eq, Int.tmod_eq_emod_of_nonneg (by omega), oZ_pos (by omega) (by omega)]
end
/-- the seed ahead of walker k, j walkers from 0 on gone by -/
def sdA (N : Int → Int) (sd : Int) : Nat → Int
  | 0 => sd
  | j + 1 => if N (11 + 3 * (j : Int)) = 0 then sdA N sd j else nxS (sdA N sd j)
/-- for whom it rains -/
abbrev rnA (N : Int → Int) (sd rain : Int) (k : Int) : Prop := N (11 + 3 * k) ≠ 0 ∧ nxS (sdA N sd k.toNat) / 64 % 100 < rain
theorem sdA_in {N : Int → Int} {sd : Int} (h0 : 0 ≤ sd) (h1 : sd ≤ 2147483647) : ∀ j, 0 ≤ sdA N sd j ∧ sdA N sd j ≤ 2147483647 := by
  intro j
  induction j with
  | zero => exact ⟨h0, h1⟩
  | succ j ih =>
    unfold sdA
    split
    · exact ih
    · unfold nxS; omega
def zMb (m w v : Nat) : Bool := ((zAnd (zShr (zOr (m : Int) (zShl 1 (w : Int))) (v : Int)) 1 != 0) == (v == w || zAnd (zShr (m : Int) (v : Int)) 1 != 0)) && (decide (0 ≤ zOr (m : Int) (zShl 1 (w : Int))) && decide (zOr (m : Int) (zShl 1 (w : Int)) < 64))
theorem zMall : ((List.range 64).all fun m => (List.range 6).all fun w => (List.range 6).all fun v => zMb m w v) = true := by decide +kernel
theorem zMask {m w v : Nat} (hm : m < 64) (hw : w < 6) (hv : v < 6) : (zAnd (zShr (zOr (m : Int) (zShl 1 (w : Int))) (v : Int)) 1 ≠ 0 ↔ (v = w ∨ zAnd (zShr (m : Int) (v : Int)) 1 ≠ 0)) ∧ 0 ≤ zOr (m : Int) (zShl 1 (w : Int)) ∧ zOr (m : Int) (zShl 1 (w : Int)) < 64 := by
  have h1 := List.all_eq_true.mp zMall m (List.mem_range.mpr hm)
  have h2 := List.all_eq_true.mp h1 w (List.mem_range.mpr hw)
  have h3 := List.all_eq_true.mp h2 v (List.mem_range.mpr hv)
  unfold zMb at h3
  rw [Bool.and_eq_true, Bool.and_eq_true, decide_eq_true_eq, decide_eq_true_eq, beq_iff_eq] at h3
  obtain ⟨q1, q2, q3⟩ := h3
  refine ⟨?_, q2, q3⟩
  have e1 : (zAnd (zShr (zOr (m : Int) (zShl 1 (w : Int))) (v : Int)) 1 != 0) = true ↔ zAnd (zShr (zOr (m : Int) (zShl 1 (w : Int))) (v : Int)) 1 ≠ 0 := bne_iff_ne
  rw [← e1, q1, Bool.or_eq_true, beq_iff_eq, bne_iff_ne]
section
variable {L : Nat} {f : Nat → Int → Int}
/-- a day of one leaves where the others are -/
theorem dyN_11 {a b c : Int} {N : Int → Int} {w v : Int} (hb : b ≤ 8) (hI : nInv a b c N) (w0 : 0 ≤ w) (w1 : w < c) (v0 : 0 ≤ v) (ne : v ≠ w) : dyN f N w (11 + 3 * v) = N (11 + 3 * v) := by
  have := hI.2.2.2.1 w w0 w1
  exact dyN_o (by omega) (by omega) (by omega)
/-- the class's day in rain: what is left from walker k on -/
theorem p143_4 {s0 : zS} {N0 : Int → Int} {sd rain : Int} (hLL : L = 43 ∨ L = 66) (hL : rLand s0.1 s0.2.1 L) (hM3 : s0.2.2 3 = L) (hM1 : s0.2.2 1 = L) (hsd0 : 0 ≤ sd) (hsd1 : sd ≤ 2147483647) (hrain : rain = s0.1 248 5) : ∀ (n j : Nat) (k a : Int) (s : zS) (N : Int → Int), k = s0.1 242 6 - (j : Int) → 0 ≤ k → j < n → 0 ≤ a → a ≤ k → sRel s.1 28 N → nInv (s0.1 242 4) (s0.1 242 5) (s0.1 242 6) N → N 0 < 999 → (∀ v, k ≤ v → v < s0.1 242 6 → N (11 + 3 * v) = N0 (11 + 3 * v)) → s.1 0 18 = sdA N0 sd k.toNat → Fr (fun a q => dFr 28 L a q ∨ (a = 28 ∧ q = 6) ∨ (a = 0 ∧ q = 18)) s0 s → Ok (m143_4 n a k s) (fun r t => r = cn (fun v => if rnA N0 sd rain v then 1 else 0) j k a ∧ sRel t.1 28 (dayN (dysN s0.1 (rnA N0 sd rain) j k N)) ∧ t.1 0 18 = sdA N0 sd (s0.1 242 6).toNat ∧ Fr (fun a q => dFr 28 L a q ∨ (a = 28 ∧ q = 6) ∨ (a = 0 ∧ q = 18)) s0 t) := by
  have hm := mLand_of hL
  have h6 := hm.1
  have hw5 : s0.1 (L + 5) 0 = s0.1 242 6 := hL.1.2.2.2.2.2.1
  have hrn : s0.1 L 19 = s0.1 248 5 := hL.2.2.2.2.2.2.1.1
  intro n
  induction n with
  | zero => intro j k a s N _ _ h; omega
  | succ n ih =>
    intro j k a s N hk k0 hj a0 a1 hS hI h9 hsame hseed hs
    have hMs1 : s.2.2 1 = L := by rw [hs.2.2]; exact hM1
    have hMs3 : s.2.2 3 = L := by rw [hs.2.2]; exact hM3
    have eqs : eqL s0.1 s.1 := eqL_fr hs (fun a k q => by omega)
    have e242 : s.1 242 = s0.1 242 := eqs.1
    rw [m143_4]
    refine k_v (k_v ?_)
    rw [hMs1, hs.1 (L + 5) 0 (by omega), hw5]
    cases j with
    | zero =>
      have h0 : s.1 28 6 = N 0 := hS.1
      have hI0 := hI.1
      refine k_q (by omega) (k_v ?_)
      rw [h0]
      refine k_z (by omega) (by omega) (k_v (k_r ⟨rfl, ?_, ?_, fr_trans hs (fr_I (Or.inr (Or.inl ⟨rfl, rfl⟩)))⟩))
      · obtain ⟨z1, z2, z3, z4, z5, z6⟩ := hS
        have o : ∀ i, i ≠ 0 → dayN (dysN s0.1 (rnA N0 sd rain) 0 k N) i = N i := fun i hi => if_neg hi
        refine ⟨?_, ?_, ?_, ?_, ?_, ?_⟩
        · rw [sI_e]; rfl
        · rw [sI_k (by omega), o 1 (by omega)]; exact z2
        · intro p p0 p1; rw [sI_a (by omega)] at p1; rw [sI_a (by omega), o _ (by omega)]; exact z3 p p0 p1
        · intro v v0 v1; rw [sI_a (by omega)] at v1; rw [sI_a (by omega), sI_a (by omega), sI_a (by omega), o _ (by omega), o _ (by omega), o _ (by omega)]; exact z4 v v0 v1
        · rw [sI_k (by omega), o 28 (by omega)]; exact z5
        · intro q q0 q1; rw [o 28 (by omega)] at q1; rw [sI_a (by omega), o _ (by omega)]; exact z6 q q0 q1
      · rw [sI_a (by omega), hseed, show k = s0.1 242 6 by omega]
    | succ j =>
      have k1 : k < s0.1 242 6 := by omega
      have yk := hS.2.2.2.1 k k0 (by rw [e242]; exact k1)
      have e31 : s.1 31 k = N (11 + 3 * k) - 1 := yk.2.1
      have esm := hsame k (by omega) k1
      have ek : k.toNat + 1 = (k + 1).toNat := by omega
      have ekk : ((k.toNat : Nat) : Int) = k := by omega
      have sstep : sdA N0 sd (k + 1).toNat = if N0 (11 + 3 * k) = 0 then sdA N0 sd k.toNat else nxS (sdA N0 sd k.toNat) := by
        rw [← ek]; show (if N0 (11 + 3 * ((k.toNat : Nat) : Int)) = 0 then _ else _) = _; rw [ekk]
      have hsdk := sdA_in (N := N0) hsd0 hsd1 k.toNat
      refine k_p k1 (k_x k0 (by omega) (k_v ?_))
      rw [e31]
      -- the rest, by whether it rains for him
      have go : ∀ (b : Int) (t : zS) (N' : Int → Int), 0 ≤ b → b ≤ k + 1 → b = a + (if rnA N0 sd rain k then 1 else 0) → N' = (if rnA N0 sd rain k then N else dyN s0.1 N k) → sRel t.1 28 N' → nInv (s0.1 242 4) (s0.1 242 5) (s0.1 242 6) N' → N' 0 < 999 → t.1 0 18 = sdA N0 sd (k + 1).toNat → Fr (fun a q => dFr 28 L a q ∨ (a = 28 ∧ q = 6) ∨ (a = 0 ∧ q = 18)) s0 t → Ok (m143_4 n b (k + 1) t) (fun r t => r = cn (fun v => if rnA N0 sd rain v then 1 else 0) (j + 1) k a ∧ sRel t.1 28 (dayN (dysN s0.1 (rnA N0 sd rain) (j + 1) k N)) ∧ t.1 0 18 = sdA N0 sd (s0.1 242 6).toNat ∧ Fr (fun a q => dFr 28 L a q ∨ (a = 28 ∧ q = 6) ∨ (a = 0 ∧ q = 18)) s0 t) := by
        intro b t N' b0 b1 eb eN hSt hIt h9t hst hft
        have hs' : ∀ v, k + 1 ≤ v → v < s0.1 242 6 → N' (11 + 3 * v) = N0 (11 + 3 * v) := by
          intro v v0 v1
          rw [eN]
          split
          · exact hsame v (by omega) v1
          · rw [dyN_11 (by omega) hI k0 k1 (by omega) (by omega)]; exact hsame v (by omega) v1
        have := ih j (k + 1) b t N' (by omega) (by omega) (by omega) b0 b1 hSt hIt h9t hs' hst hft
        subst eb
        subst eN
        exact this
      by_cases c : N (11 + 3 * k) - 1 = -1
      · have hz : N0 (11 + 3 * k) = 0 := by omega
        have nr : ¬ rnA N0 sd rain k := fun z => z.1 hz
        have ed : dyN s0.1 N k = N := funext fun i => if_pos (by omega)
        refine k_p c (k_z (by omega) (by omega) (go a s N a0 (by omega) (by rw [if_neg nr]; omega) (by rw [if_neg nr, ed]) hS hI h9 (by rw [sstep, if_pos hz]; exact hseed) hs))
      · have hz : N0 (11 + 3 * k) ≠ 0 := by omega
        have h18 : 0 ≤ s.1 0 18 ∧ s.1 0 18 ≤ 2147483647 := by rw [hseed]; exact hsdk
        refine k_q c (k_e (e144 h18.1 h18.2) (k_v (k_v ?_)))
        rw [sI_22, hMs1, sI_a (by omega), hs.1 L 19 (by omega), hrn, hseed, ← hrain]
        generalize hu : sI s 0 18 (nxS (sdA N0 sd k.toNat)) = u
        have fu : Fr (fun a q => dFr 28 L a q ∨ (a = 28 ∧ q = 6) ∨ (a = 0 ∧ q = 18)) s0 u := by rw [← hu]; exact fr_trans hs (fr_I (Or.inr (Or.inr ⟨rfl, rfl⟩)))
        have u18 : u.1 0 18 = sdA N0 sd (k + 1).toNat := by rw [← hu, sI_e, sstep, if_neg hz]
        have hSu : sRel u.1 28 N := by
          obtain ⟨z1, z2, z3, z4, z5, z6⟩ := hS
          have o : ∀ a q, a ≠ 0 → u.1 a q = s.1 a q := fun a q h => by rw [← hu, sI_a h]
          refine ⟨by rw [o _ _ (by omega)]; exact z1, by rw [o _ _ (by omega)]; exact z2, fun p p0 p1 => ?_, fun v v0 v1 => ?_, by rw [o _ _ (by omega)]; exact z5, fun q q0 q1 => ?_⟩
          · rw [o _ _ (by omega)] at p1; rw [o _ _ (by omega)]; exact z3 p p0 p1
          · rw [o _ _ (by omega)] at v1; rw [o _ _ (by omega), o _ _ (by omega), o _ _ (by omega)]; exact z4 v v0 v1
          · rw [o _ _ (by omega)]; exact z6 q q0 q1
        refine k_i (fun d => ?_) (fun d => ?_)
        · have nr : rnA N0 sd rain k := ⟨hz, d⟩
          exact k_z (by omega) (by omega) (k_z (by omega) (by omega) (go (a + 1) u N (by omega) (by omega) (by rw [if_pos nr]) (by rw [if_pos nr]) hSu hI h9 u18 fu))
        · have nr : ¬ rnA N0 sd rain k := fun z => d z.2
          have equ : eqL s0.1 u.1 := eqL_fr fu (fun a k q => by omega)
          have lu := rLand_sfr (B := fun a q => dFr 28 L a q ∨ (a = 28 ∧ q = 6) ∨ (a = 0 ∧ q = 18)) hLL (fun a k q => by omega) fu hL
          have mu3 : u.2.2 3 = L := by rw [fu.2.2]; exact hM3
          refine k_c (p7 (A := 28) (L := L) (w := k) (N := N) hLL (Or.inl rfl) lu mu3 hSu (by rw [equ.1]; exact hI) k0 (by rw [equ.1]; exact k1)) ?_
          intro _ t ht
          rw [dyN_eq equ] at ht
          refine k_z (by omega) (by omega) (go a t (dyN s0.1 N k) a0 (by omega) (by rw [if_neg nr]; omega) (by rw [if_neg nr]) ht.1 (nInv_dy hm rfl rfl rfl hI k0 k1) ?_ ?_ (fr_trans fu (fr_mono (fun a q z => Or.inl z) ht.2)))
          · rw [dyN_0 k0 (hI.2.2.2.1 k k0 k1).1]; exact h9
          · rw [ht.2.1 0 18 (by omega)]; exact u18
end
/-- the reference's draws of a day -/
theorem p247_36 {s0 : zS} {N : Int → Int} {sd rain x d : Int} {K : Int → Int → Int → zS → Option (Int × zS)} {P : Int → zS → Prop} (hm : mLand s0.1) (hI : nInv (s0.1 242 4) (s0.1 242 5) (s0.1 242 6) N) (h9 : N 0 < 999) (hsd0 : 0 ≤ sd) (hsd1 : sd ≤ 2147483647) (hrain : rain = s0.1 248 5) (hd0 : 0 ≤ d) (hd1 : d < 200) : ∀ (n j : Nat) (k a mk : Int) (s : zS), k = s0.1 242 6 - (j : Int) → 0 ≤ k → j < n → 0 ≤ a → a ≤ 600 + k → (∀ i, s.1 254 i = N i) → s.2.1 209 76 = sdA N sd k.toNat → 0 ≤ mk → mk < 64 → (∀ v, 0 ≤ v → v < 6 → (zAnd (zShr mk v) 1 ≠ 0 ↔ (v < k ∧ rnA N sd rain v))) → FrJ (fun a k => nFr a k ∨ (a = 209 ∧ k = 76)) s0 s → (∀ t, (∀ i, t.1 254 i = dayN (dysN s0.1 (rnA N sd rain) (s0.1 242 6).toNat 0 N) i) → t.2.1 209 76 = sdA N sd (s0.1 242 6).toNat → FrJ (fun a k => nFr a k ∨ (a = 209 ∧ k = 76)) s0 t → Ok (K x (cn (fun v => if rnA N sd rain v then 1 else 0) j k a) (d + 1) t) P) → Ok (m247_36 K n x a d mk k s) P := by
  have h6 := hm.1
  intro n
  induction n with
  | zero => intro j k a mk s _ _ h; omega
  | succ n ih =>
    intro j k a mk s hk k0 hj a0 a1 hN hsd mk0 mk1 hmk hs hK
    have g : ∀ a k, a ≠ 209 → a ≠ 287 → a ≠ 254 → s.1 a k = s0.1 a k := fun a k m1 m2 m3 => (hs.1 a k (by omega)).1
    have eqs : eqL s0.1 s.1 := ⟨funext fun k => g 242 k (by omega) (by omega) (by omega), funext fun k => g 245 k (by omega) (by omega) (by omega), funext fun k => g 246 k (by omega) (by omega) (by omega), funext fun k => g 248 k (by omega) (by omega) (by omega), funext fun k => g 249 k (by omega) (by omega) (by omega), funext fun k => g 250 k (by omega) (by omega) (by omega), funext fun k => g 251 k (by omega) (by omega) (by omega), funext fun k => g 253 k (by omega) (by omega) (by omega)⟩
    rw [m247_36]
    refine k_e e183 ?_
    rw [eqs.1]
    cases j with
    | zero =>
      refine k_q (by omega) ?_
      unfold m201
      have := p201_2 (s0 := s) (mask := mk) (ab := rnA N sd rain) (mLand_eq eqs hm) (fun w w0 w1 => by rw [eqs.1] at w1; rw [hmk w w0 (by omega)]; exact ⟨fun z => ⟨by omega, z⟩, fun z => z.2⟩) zFu (s0.1 242 6).toNat 0 s N (by rw [eqs.1]; omega) (by omega) (by unfold zFu; omega) hN (by rw [eqs.1]; exact hI) h9 frj_refl
      refine k_c this ?_
      intro _ t ht
      rw [dysN_eq eqs] at ht
      refine k_z (by omega) (by omega) (hK t ht.1 ?_ (frj_trans hs (frj_mono (fun a k z => Or.inl z) ht.2)))
      rw [(ht.2.1 209 76 (by omega)).2, hsd, show k = s0.1 242 6 by omega]
    | succ j =>
      have k1 : k < s0.1 242 6 := by omega
      have hq := hI.2.2.2.1 k k0 k1
      have h11 := hN (11 + 3 * k)
      have ek : k.toNat + 1 = (k + 1).toNat := by omega
      have ekk : ((k.toNat : Nat) : Int) = k := by omega
      have sstep : sdA N sd (k + 1).toNat = if N (11 + 3 * k) = 0 then sdA N sd k.toNat else nxS (sdA N sd k.toNat) := by
        rw [← ek]; show (if N (11 + 3 * ((k.toNat : Nat) : Int)) = 0 then _ else _) = _; rw [ekk]
      have hsdk := sdA_in (N := N) hsd0 hsd1 k.toNat
      have go : ∀ (b mk' : Int) (t : zS), 0 ≤ b → b ≤ 600 + (k + 1) → b = a + (if rnA N sd rain k then 1 else 0) → (∀ i, t.1 254 i = N i) → t.2.1 209 76 = sdA N sd (k + 1).toNat → 0 ≤ mk' → mk' < 64 → (∀ v, 0 ≤ v → v < 6 → (zAnd (zShr mk' v) 1 ≠ 0 ↔ ((v = k ∧ rnA N sd rain k) ∨ zAnd (zShr mk v) 1 ≠ 0))) → FrJ (fun a k => nFr a k ∨ (a = 209 ∧ k = 76)) s0 t → Ok (m247_36 K n x b d mk' (k + 1) t) P := by
        intro b mk' t b0 b1 eb hNt hst m0 m1 hm' hft
        refine ih j (k + 1) b mk' t (by omega) (by omega) (by omega) b0 b1 hNt hst m0 m1 (fun v v0 v1 => ?_) hft (fun u u1 u2 u3 => ?_)
        · rw [hm' v v0 v1, hmk v v0 v1]
          constructor
          · intro z
            rcases z with z | z
            · rw [z.1]; exact ⟨by omega, z.2⟩
            · exact ⟨by omega, z.2⟩
          · intro z
            by_cases e : v = k
            · rw [e] at z; exact Or.inl ⟨e, z.2⟩
            · exact Or.inr ⟨by omega, z.2⟩
        · have := hK u u1 u2 u3
          subst eb
          exact this
      refine k_p k1 (k_e (e189 k0 (by omega) (by omega) (by omega)) ?_)
      rw [h11]
      by_cases c : N (11 + 3 * k) - 1 = -1
      · have hz : N (11 + 3 * k) = 0 := by omega
        have nr : ¬ rnA N sd rain k := fun z => z.1 hz
        refine k_p c (k_z (by omega) (by omega) (go a mk s a0 (by omega) (by rw [if_neg nr]; omega) hN (by rw [sstep, if_pos hz]; exact hsd) mk0 mk1 (fun v v0 v1 => ⟨fun z => Or.inr z, fun z => z.elim (fun z => absurd z.2 nr) id⟩) hs))
      · have hz : N (11 + 3 * k) ≠ 0 := by omega
        refine k_q c (k_e (e246 (by rw [hsd]; exact hsdk.1) (by rw [hsd]; exact hsdk.2)) (k_x (by omega) (by omega) (k_v ?_)))
        rw [hsd]
        generalize hu : sJ s 209 76 (nxS (sdA N sd k.toNat)) = u
        have u1 : u.1 = s.1 := by rw [← hu]; rfl
        have u76 : u.2.1 209 76 = sdA N sd (k + 1).toNat := by rw [← hu, sJ_e, sstep, if_neg hz]
        have fu : FrJ (fun a k => nFr a k ∨ (a = 209 ∧ k = 76)) s0 u := by rw [← hu]; exact frj_trans hs (frj_J (Or.inr ⟨rfl, rfl⟩))
        rw [u1, eqs.2.2.2.1, ← hrain]
        refine k_i (fun e => ?_) (fun e => ?_)
        · have nr : rnA N sd rain k := ⟨hz, e⟩
          have zm := fun (v : Int) (v0 : 0 ≤ v) (v1 : v < 6) => zMask (m := mk.toNat) (w := k.toNat) (v := v.toNat) (by omega) (by omega) (by omega)
          have emk : ((mk.toNat : Nat) : Int) = mk := by omega
          rw [emk, ekk] at zm
          have zb := zm 0 (by omega) (by omega)
          refine k_v (k_v (k_z (by omega) (by omega) (k_z (by omega) (by omega) (go (a + 1) _ u (by omega) (by omega) (by rw [if_pos nr]) (by rw [u1]; exact hN) u76 zb.2.1 zb.2.2 (fun v v0 v1 => ?_) fu))))
          have zv := (zm v v0 v1).1
          rw [show ((v.toNat : Nat) : Int) = v by omega] at zv
          rw [zv]
          constructor
          · intro z
            rcases z with z | z
            · exact Or.inl ⟨by omega, nr⟩
            · exact Or.inr z
          · intro z
            rcases z with z | z
            · exact Or.inl (by omega)
            · exact Or.inr z
        · have nr : ¬ rnA N sd rain k := fun z => e z.2
          exact k_z (by omega) (by omega) (go a mk u a0 (by omega) (by rw [if_neg nr]; omega) (by rw [u1]; exact hN) u76 mk0 mk1 (fun v v0 v1 => ⟨fun z => Or.inr z, fun z => z.elim (fun z => absurd z.2 nr) id⟩) fu)
