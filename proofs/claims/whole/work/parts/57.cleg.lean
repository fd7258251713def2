/-! ===== the class's leg ===== -/
theorem rLand_eq {f g j j' : Nat → Int → Int} {L : Nat} (h : ∀ a k, (L ≤ a ∧ a ≤ L + 21 ∧ a ≠ L + 19) ∨ (242 ≤ a ∧ a ≤ 253) → g a k = f a k) (hj : ∀ k, j' 243 k = j 243 k) (hl : rLand f j L) : rLand g j' L := by
  obtain ⟨a1, a2, a3, a4, a5, a6, a7, a8, a9⟩ := hl
  refine ⟨?_, ?_, ?_, ?_, ?_, ?_, ?_, ?_, ?_⟩
  · unfold rCount at a1 ⊢
    simp (disch := omega) only [h]
    exact a1
  · intro d w h1 h2 h3 h4
    rw [h 242 _ (by omega)] at h4
    have := a2 d w h1 h2 h3 h4
    rw [hj, show (fun k => g (L + 2 + 2 * d.toNat) (6 * w + k)) = (fun k => f (L + 2 + 2 * d.toNat) (6 * w + k)) from funext fun k => h _ _ (by omega)]
    exact this
  · unfold rPairs at a3 ⊢
    simp (disch := omega) only [h]
    exact a3
  · unfold rWalk at a4 ⊢
    simp (disch := omega) only [h]
    exact a4
  · unfold rWays at a5 ⊢
    simp (disch := omega) only [h]
    exact a5
  · simp (disch := omega) only [h]
    exact a6
  · simp (disch := omega) only [h]
    exact a7
  · unfold rCo rCode at a8 ⊢
    simp (disch := omega) only [h]
    exact a8
  · unfold rCo rCode at a9 ⊢
    simp (disch := omega) only [h]
    exact a9
abbrev sFr (L : Nat) (a : Nat) (_ : Int) : Prop := a = 11 ∨ a = L + 19 ∨ a = L + 22
section
variable {A L : Nat} {w p will : Int} {s : zS}
theorem rLand_sfr {t : zS} {B : Nat → Int → Prop} (hLL : L = 43 ∨ L = 66) (hB : ∀ a k, B a k → a < 40 ∨ a = L + 19 ∨ a = L + 22 ∨ (89 ≤ a ∧ a < 242) ∨ 254 ≤ a) (h : Fr B s t) (hl : rLand s.1 s.2.1 L) : rLand t.1 t.2.1 L := by
  refine rLand_eq (fun a k q => h.1 a k (fun z => ?_)) (fun k => by rw [h.2.1]) hl
  have := hB a k z
  omega
theorem e42 (hL : rLand s.1 s.2.1 L) (h1 : 0 ≤ w) (h2 : w < s.1 242 6) (h3 : 0 ≤ p) (h4 : p < s.1 242 5) : m42 L w p s = some (tgt s.1 w p, s) := by
  obtain ⟨⟨_, _, _, _, b5, _, _, b8, _, _⟩, _, c, d, _⟩ := hL
  have q1 := c p h3 h4
  have q2 := d w h1 h2
  unfold m42 tgt
  rw [oX_pos h3 (by omega), oV_eq, oX_pos h1 (by omega), oV_eq, oZ_pos (by omega) (by omega), e287 (by omega) (by omega), oC_some, q1.1, q2.1]
  congr 2
  split <;> split <;> omega
theorem p9 (hLL : L = 43 ∨ L = 66) (hA : A = 14 ∨ A = 28 ∨ A = 34) (hL : rLand s.1 s.2.1 L) (hM : s.2.2 3 = L) (hw0 : 0 ≤ w) (hw1 : w < s.1 242 6) (hp0 : 0 ≤ p) (hp1 : p < s.1 242 5) (hh0 : 0 ≤ s.1 (A + 1) p) (hh1 : s.1 (A + 1) p ≤ 9) (hk0 : 0 ≤ s.1 (A + 4) w) (hk1 : s.1 (A + 4) w ≤ 999) (hd0 : 0 ≤ s.1 A 6) (hd1 : s.1 A 6 ≤ 2000) (hi0 : 0 ≤ will) (hi1 : will ≤ 99) :
    Ok (m9 A w p will s) (fun r t => r = (if legSv s.1 w p (s.1 (A + 1) p) (s.1 (A + 4) w) will (s.1 A 6) < legPv s.1 w p (s.1 (A + 1) p) (s.1 (A + 4) w) will (s.1 A 6) then 1 else 0) ∧ Fr (sFr L) s t) := by
  have hcn := hL.1
  obtain ⟨b1, b2, b3, b4, b5, b6, b7, b8, b9, b10⟩ := hcn
  have hm := mLand_of hL
  have tin := tgt_in hm hw0 hw1 hp0 hp1
  have frI : ∀ (t : zS) (k v : Int), Fr (sFr L) s t → Fr (sFr L) s (sI t 11 k v) := fun t k v h => fr_trans h (fr_I (Or.inl rfl))
  unfold m9
  refine k_x (by omega) (by omega) (k_v (k_x (by omega) (by omega) (k_v ?_)))
  rw [sI_a (by omega)]
  refine k_x (by omega) (by omega) (k_v (k_v ?_))
  have f2 : Fr (sFr L) s (sI (sI s 11 2 will) 11 3 (s.1 (A + 1) p)) := frI _ _ _ (frI _ _ _ fr_refl)
  rw [show (sI (sI s 11 2 will) 11 3 (s.1 (A + 1) p)).2.2 3 = L from hM]
  have l2 := rLand_sfr hLL (fun a k q => by omega) f2 hL
  have q2 : eqL s.1 (sI (sI s 11 2 will) 11 3 (s.1 (A + 1) p)).1 := eqL_fr f2 (fun a k q => by omega)
  refine k_e (e42 l2 hw0 (by rw [q2.1]; exact hw1) hp0 (by rw [q2.1]; exact hp1)) ?_
  rw [show tgt (sI (sI s 11 2 will) 11 3 (s.1 (A + 1) p)).1 w p = tgt s.1 w p by unfold tgt; rw [q2.2.1, q2.2.2.1]]
  refine k_x (by omega) (by omega) (k_v (k_x (by omega) (by omega) (k_v ?_)))
  rw [sI_a (by omega), sI_a (by omega), sI_a (by omega)]
  refine k_x (by omega) (by omega) (k_v (k_v ?_))
  rw [sI_a (by omega), sI_a (by omega), sI_a (by omega), sI_a (by omega)]
  refine k_x (by omega) (by omega) (k_v (k_v (k_v ?_)))
  generalize hs6 : sI (sI (sI (sI (sI s 11 2 will) 11 3 (s.1 (A + 1) p)) 11 4 (tgt s.1 w p)) 11 5 (s.1 (A + 4) w)) 11 6 (s.1 A 6) = s6
  have f6 : Fr (sFr L) s s6 := by rw [← hs6]; exact frI _ _ _ (frI _ _ _ (frI _ _ _ f2))
  have hM6 : s6.2.2 3 = L := by rw [f6.2.2]; exact hM
  have l6 := rLand_sfr hLL (fun a k q => by omega) f6 hL
  have v3 : s6.1 11 3 = s.1 (A + 1) p := by rw [← hs6, sI_k (by omega), sI_k (by omega), sI_k (by omega), sI_e]
  have v4 : s6.1 11 4 = tgt s.1 w p := by rw [← hs6, sI_k (by omega), sI_k (by omega), sI_e]
  have v5 : s6.1 11 5 = s.1 (A + 4) w := by rw [← hs6, sI_k (by omega), sI_e]
  have v2 : s6.1 11 2 = will := by rw [← hs6, sI_k (by omega), sI_k (by omega), sI_k (by omega), sI_k (by omega), sI_e]
  have v6 : s6.1 11 6 = s.1 A 6 := by rw [← hs6, sI_e]
  have pin := lPt_in (h := s.1 (A + 1) p) (t := tgt s.1 w p) (k := s.1 (A + 4) w) (w := will) (d := s.1 A 6) (by omega) (by omega) (by omega) (by omega) (by omega)
  have eq6 : eqL s.1 s6.1 := eqL_fr f6 (fun a k q => by omega)
  rw [hM6]
  refine k_c (cVal (b := L + 17) (L := L) (w := 0) (dflt := 10003) (d := s.1 (A + 1) p) (pt := lPt (s.1 (A + 1) p) (tgt s.1 w p) (s.1 (A + 4) w) will (s.1 A 6)) (Or.inl ⟨rfl, rfl, rfl⟩) (rCo_of l6.2.2.2.2.2.2.2.1 (by rw [eq6.1]; omega)) (by have := l6.1; obtain ⟨z1, z2, z3, _⟩ := this; omega) (by omega) (by omega) (by omega) v3.symm v4.symm v5.symm v2.symm v6.symm pin) ?_
  intro r1 t1 h1
  have f7 : Fr (sFr L) s t1 := fr_trans f6 (fr_mono (fun a k q => by omega) h1.2)
  have hM7 : t1.2.2 3 = L := by rw [f7.2.2]; exact hM
  have l7 := rLand_sfr hLL (fun a k q => by omega) f7 hL
  have eq7 : eqL s.1 t1.1 := eqL_fr f7 (fun a k q => by omega)
  have g7 : ∀ k, t1.1 11 k = s6.1 11 k := fun k => h1.2.1 11 k (by omega)
  refine k_v (k_v ?_)
  rw [hM7]
  refine k_c (cVal (b := L + 20) (L := L) (w := 1) (dflt := 10002) (d := will) (pt := lPt (s.1 (A + 1) p) (tgt s.1 w p) (s.1 (A + 4) w) will (s.1 A 6)) (Or.inr ⟨rfl, rfl, rfl⟩) (rCo_of l7.2.2.2.2.2.2.2.2 (by rw [eq7.1]; omega)) (by have := l7.1; obtain ⟨z1, z2, z3, _⟩ := this; omega) (by omega) (by omega) (by omega) (by rw [g7]; exact v3.symm) (by rw [g7]; exact v4.symm) (by rw [g7]; exact v5.symm) (by rw [g7]; exact v2.symm) (by rw [g7]; exact v6.symm) pin) ?_
  intro r2 t2 h2
  have f8 : Fr (sFr L) s t2 := fr_trans f7 (fr_mono (fun a k q => by omega) h2.2)
  have er1 : r1 = legPv s.1 w p (s.1 (A + 1) p) (s.1 (A + 4) w) will (s.1 A 6) := by
    rw [h1.1]
    unfold legPv fVal
    rw [eq6.2.2.2.2.1, eq6.2.2.2.2.2.1, eq6.2.2.2.2.2.2.1]
  have er2 : r2 = legSv s.1 w p (s.1 (A + 1) p) (s.1 (A + 4) w) will (s.1 A 6) := by
    rw [h2.1]
    unfold legSv fVal
    rw [eq7.2.2.2.2.1, eq7.2.2.2.2.2.1, eq7.2.2.2.2.2.2.1]
  rw [← er1, ← er2]
  refine k_i (fun c => ?_) (fun c => ?_)
  · rw [if_pos c]; exact k_r ⟨rfl, f8⟩
  · rw [if_neg c]; exact k_r ⟨rfl, f8⟩
abbrev wFr (A L : Nat) (w p : Int) (a : Nat) (k : Int) : Prop := (a = A + 3 ∧ k = w) ∨ (a = A + 1 ∧ k = p) ∨ (a = A + 4 ∧ k = w) ∨ a = 11 ∨ a = L + 19 ∨ a = L + 22
theorem p8_169 (hw0 : 0 ≤ w) (hw1 : w < 6) (hk0 : 0 ≤ s.1 (A + 4) w) (hk1 : s.1 (A + 4) w ≤ 999) : m8_169 A w s = some (0, sI s (A + 4) w (if s.1 (A + 4) w < 999 then s.1 (A + 4) w + 1 else 999)) := by
  unfold m8_169
  rw [oX_pos hw0 (by omega), oV_eq, oZ_pos (by omega) (by omega), e290, oC_some, oX_pos hw0 (by omega), oV_eq]
  congr 3
  split <;> split <;> omega
theorem p8_113 {to : Int} (hw0 : 0 ≤ w) (hw1 : w < 6) (hp0 : 0 ≤ p) (hp1 : p < 8) (hh0 : 0 ≤ s.1 (A + 1) p) (hh1 : s.1 (A + 1) p ≤ 9) (hk0 : 0 ≤ s.1 (A + 4) w) (hk1 : s.1 (A + 4) w ≤ 999) :
    m8_113 A w p to s = some (0, sI (sI (sI s (A + 3) w to) (A + 1) p (if s.1 (A + 1) p < 9 then s.1 (A + 1) p + 1 else 9)) (A + 4) w (if s.1 (A + 4) w < 999 then s.1 (A + 4) w + 1 else 999)) := by
  unfold m8_113
  rw [oX_pos hw0 (by omega), oV_eq, oX_pos hp0 (by omega), oV_eq, sI_a (by omega), oZ_pos (by omega) (by omega), e290, oC_some, oX_pos hp0 (by omega), oV_eq]
  have e : (if s.1 (A + 1) p + 1 < 9 then s.1 (A + 1) p + 1 else 9) = (if s.1 (A + 1) p < 9 then s.1 (A + 1) p + 1 else 9) := by split <;> split <;> omega
  have e4 : (sI (sI s (A + 3) w to) (A + 1) p (if s.1 (A + 1) p < 9 then s.1 (A + 1) p + 1 else 9)).1 (A + 4) w = s.1 (A + 4) w := by rw [sI_a (by omega), sI_a (by omega)]
  rw [e, p8_169 hw0 hw1 (by rw [e4]; exact hk0) (by rw [e4]; exact hk1), e4]
/-- the class's leg -/
theorem p8 (hLL : L = 43 ∨ L = 66) (hA : A = 14 ∨ A = 28 ∨ A = 34) (hL : rLand s.1 s.2.1 L) (hM : s.2.2 3 = L) (hw0 : 0 ≤ w) (hw1 : w < s.1 242 6) (hp0 : 0 ≤ p) (hp1 : p < s.1 242 5) (hl0 : 0 ≤ s.1 (A + 3) w) (hl1 : s.1 (A + 3) w < s.1 242 4) (hh0 : 0 ≤ s.1 (A + 1) p) (hh1 : s.1 (A + 1) p ≤ 9) (hk0 : 0 ≤ s.1 (A + 4) w) (hk1 : s.1 (A + 4) w ≤ 999) (hd0 : 0 ≤ s.1 A 6) (hd1 : s.1 A 6 ≤ 2000) (hi0 : 0 ≤ will) (hi1 : will ≤ 99) :
    Ok (m8 A w p will s) (fun _ t => t.1 (A + 3) w = legTo s.1 w p (s.1 (A + 3) w) (s.1 (A + 1) p) (s.1 (A + 4) w) will (s.1 A 6) ∧ t.1 (A + 1) p = legHb s.1 w p (s.1 (A + 3) w) (s.1 (A + 1) p) (s.1 (A + 4) w) will (s.1 A 6) ∧ t.1 (A + 4) w = (if s.1 (A + 4) w < 999 then s.1 (A + 4) w + 1 else 999) ∧ Fr (wFr A L w p) s t) := by
  have hL0 := hL
  obtain ⟨⟨b1, b2, b3, b4, b5, b6, b7, b8, b9, b10⟩, _, c, d, e, _⟩ := hL
  have q1 := c p hp0 hp1
  have q2 := d w hw0 hw1
  have n1 := e (s.1 (A + 3) w) (s.1 (L + 15) w) hl0 hl1 (by omega) (by omega)
  have n2 := e (s.1 (A + 3) w) (s.1 (L + 11) p) hl0 hl1 (by omega) (by omega)
  have m1 : m48 L (s.1 (A + 3) w) (s.1 (L + 15) w) s = some (s.1 253 (7 * s.1 (A + 3) w + s.1 246 (20 + 3 * w)), s) := by
    rw [e48 (by omega), if_pos (by omega), n1.2.2.2.1, q2.2.2.1]
  have m2 : m48 L (s.1 (A + 3) w) (s.1 (L + 11) p) s = some (s.1 253 (7 * s.1 (A + 3) w + s.1 245 (25 + 3 * p)), s) := by
    rw [e48 (by omega), if_pos (by omega), n2.2.2.2.1, q1.2.1]
  unfold m8 legTo legHb
  refine k_v (k_v (k_x (by omega) (by omega) (k_v (k_v (k_x (by omega) (by omega) (k_v ?_))))))
  rw [hM]
  refine k_e m1 (k_v (k_x (by omega) (by omega) (k_v (k_v (k_x (by omega) (by omega) (k_v ?_))))))
  rw [hM]
  refine k_e m2 ?_
  generalize s.1 253 (7 * s.1 (A + 3) w + s.1 246 (20 + 3 * w)) = wt
  generalize s.1 253 (7 * s.1 (A + 3) w + s.1 245 (25 + 3 * p)) = pt
  have fr1 : ∀ (t : zS) (v : Int), Fr (wFr A L w p) s t → Fr (wFr A L w p) s (sI t (A + 3) w v) := fun t v h => fr_trans h (fr_I (by omega))
  have fr2 : ∀ (t : zS) (v : Int), Fr (wFr A L w p) s t → Fr (wFr A L w p) s (sI t (A + 1) p v) := fun t v h => fr_trans h (fr_I (by omega))
  have fr3 : ∀ (t : zS) (v : Int), Fr (wFr A L w p) s t → Fr (wFr A L w p) s (sI t (A + 4) w v) := fun t v h => fr_trans h (fr_I (by omega))
  -- a step with the habit as it is
  have stay : ∀ v, Ok (m8_169 A w (sI s (A + 3) w v)) (fun _ t => t.1 (A + 3) w = v ∧ t.1 (A + 1) p = s.1 (A + 1) p ∧ t.1 (A + 4) w = (if s.1 (A + 4) w < 999 then s.1 (A + 4) w + 1 else 999) ∧ Fr (wFr A L w p) s t) := by
    intro v
    have e4 : (sI s (A + 3) w v).1 (A + 4) w = s.1 (A + 4) w := sI_a (by omega)
    refine k_eq (p8_169 hw0 (by omega) (by rw [e4]; exact hk0) (by rw [e4]; exact hk1)) ?_
    rw [e4]
    exact ⟨by rw [sI_a (by omega), sI_e], by rw [sI_a (by omega), sI_a (by omega)], sI_e, fr3 _ _ (fr1 _ _ fr_refl)⟩
  -- by the pull
  have pull : ∀ (u : zS) (v : Int), Fr (sFr L) s u → Ok (m8_113 A w p v u) (fun _ t => t.1 (A + 3) w = v ∧ t.1 (A + 1) p = (if s.1 (A + 1) p < 9 then s.1 (A + 1) p + 1 else 9) ∧ t.1 (A + 4) w = (if s.1 (A + 4) w < 999 then s.1 (A + 4) w + 1 else 999) ∧ Fr (wFr A L w p) s t) := by
    intro u v hu
    have g1 : u.1 (A + 1) p = s.1 (A + 1) p := hu.1 _ _ (by omega)
    have g4 : u.1 (A + 4) w = s.1 (A + 4) w := hu.1 _ _ (by omega)
    have fu : Fr (wFr A L w p) s u := fr_mono (fun a k q => by omega) hu
    refine k_eq (p8_113 hw0 (by omega) hp0 (by omega) (by rw [g1]; exact hh0) (by rw [g1]; exact hh1) (by rw [g4]; exact hk0) (by rw [g4]; exact hk1)) ?_
    rw [g1, g4]
    exact ⟨by rw [sI_a (by omega), sI_a (by omega), sI_e], by rw [sI_a (by omega), sI_e], sI_e, fr3 _ _ (fr2 _ _ (fr1 _ _ fu))⟩
  unfold lgTo lgHb
  refine k_i (fun c0 => ?_) (fun c0 => ?_)
  · rw [if_pos c0, if_pos c0]
    refine k_i (fun c1 => ?_) (fun c1 => ?_)
    · rw [if_pos c1]
      exact k_x (by omega) (by omega) (k_v (k_x (by omega) (by omega) (k_v (stay _))))
    · rw [if_neg c1]
      exact k_x (by omega) (by omega) (k_v (stay _))
  rw [if_neg c0, if_neg c0]
  refine k_i (fun c1 => ?_) (fun c1 => ?_)
  · rw [if_pos (Or.inl c1), if_pos (Or.inl c1)]
    exact pull s _ fr_refl
  refine k_i (fun c2 => ?_) (fun c2 => ?_)
  · rw [if_pos (Or.inr (Or.inl c2)), if_pos (Or.inr (Or.inl c2))]
    exact pull s _ fr_refl
  refine k_c (p9 hLL hA hL0 hM hw0 hw1 hp0 hp1 hh0 hh1 hk0 hk1 hd0 hd1 hi0 hi1) ?_
  intro r u hu
  by_cases c3 : legSv s.1 w p (s.1 (A + 1) p) (s.1 (A + 4) w) will (s.1 A 6) < legPv s.1 w p (s.1 (A + 1) p) (s.1 (A + 4) w) will (s.1 A 6)
  · rw [if_pos c3] at hu
    rw [if_pos (Or.inr (Or.inr c3)), if_pos (Or.inr (Or.inr c3))]
    refine k_q (by omega) ?_
    exact pull u _ hu.2
  · rw [if_neg c3] at hu
    refine k_p hu.1 ?_
    have c4 : ¬ (wt = -1 ∨ wt = pt ∨ legSv s.1 w p (s.1 (A + 1) p) (s.1 (A + 4) w) will (s.1 A 6) < legPv s.1 w p (s.1 (A + 1) p) (s.1 (A + 4) w) will (s.1 A 6)) := by
      intro z
      rcases z with z | z | z
      · exact c1 z
      · exact c2 z
      · exact c3 z
    rw [if_neg c4, if_neg c4]
    have g1 : u.1 (A + 1) p = s.1 (A + 1) p := hu.2.1 _ _ (by omega)
    have g4 : u.1 (A + 4) w = s.1 (A + 4) w := hu.2.1 _ _ (by omega)
    have fu : Fr (wFr A L w p) s u := fr_mono (fun a k q => by omega) hu.2
    refine k_x (by omega) (by omega) (k_v (k_x (by omega) (by omega) (k_v ?_)))
    rw [sI_a (by omega), g1]
    refine k_z (by omega) (by omega) (k_e e288 (k_x (by omega) (by omega) (k_v ?_)))
    have e4 : ∀ v v', (sI (sI u (A + 3) w v) (A + 1) p v').1 (A + 4) w = s.1 (A + 4) w := fun v v' => by rw [sI_a (by omega), sI_a (by omega), g4]
    refine k_eq (p8_169 hw0 (by omega) (by rw [e4]; exact hk0) (by rw [e4]; exact hk1)) ?_
    rw [e4]
    refine ⟨by rw [sI_a (by omega), sI_a (by omega), sI_e], ?_, sI_e, fr3 _ _ (fr2 _ _ (fr1 _ _ fu))⟩
    rw [sI_a (by omega), sI_e]
    split <;> split <;> omega
end
