/-! ===== back, law, undo ===== -/
section
variable {n : Nat} {s s1 : zS}
/-- the class's cells behind its keeping -/
theorem keep_eq {sl : Int} (f1 : Fr (fun a q => (89 + 6 * sl.toNat ≤ a ∧ a ≤ 94 + 6 * sl.toNat) ∨ (a = 0 ∧ (q = 16 ∨ q = 17))) s s1) (h0 : 0 ≤ sl) (h1 : sl < 20) : (∀ a k, a ≠ 0 → ¬ (89 ≤ a ∧ a ≤ 208) → s1.1 a k = s.1 a k) ∧ s1.2 = s.2 := by
  exact ⟨fun a k z1 z2 => f1.1 a k (by omega), Prod.ext f1.2.1 f1.2.2⟩
end
theorem t125 : T125 := by
  intro n s x hx hR hn
  have hcn := R_cnt hR
  obtain ⟨b1, b2, b3, b4, b5, b6, b7, b8, b9, b10⟩ := R_cnt hR
  have hLL := R_LL hR
  have h28 := R_28 hR
  have hp := R_hp hR
  obtain ⟨q1, q2, q3, q4, q5, q6, q7, q8⟩ := R_past hR
  by_cases c : (0 ≤ x ∧ x < s.1 242 6) ∧ s.1 254 (11 + 3 * x) ≠ 0
  · have hw := R_w hR c.1.1 c.1.2
    unfold Two m125
    refine k_v (k_e e50 ?_)
    rw [b6, if_pos c.1]
    refine k_q (by decide) (k_x c.1.1 (by omega) (k_v ?_))
    rw [hw.2.1]
    refine k_q (by omega) (k_c (p145 hR) ?_)
    intro _ s1 h1
    have f1 := h1.2.2.2
    obtain ⟨e1, hM1⟩ := keep_eq f1 (by omega) (by omega)
    have e242 : s1.1 242 = s.1 242 := funext fun k => e1 242 k (by omega) (by omega)
    have hS1 : sRel s1.1 28 (fun i => s.1 254 i) := sRel_eq (by rw [e242]) (by rw [e242]) (fun a k z1 z2 => e1 a k (by omega) (by omega)) (fun _ _ _ => rfl) b5 b8 (by show s.1 254 28 ≤ 8; omega) (R_now hR).1
    have hc1 : rCount s1.1 (s.2.2 1) := (rLand_eq (g := s1.1) (j' := s.2.1) (fun a k z => e1 a k (by omega) (by omega)) (fun k => rfl) (R_land hR)).1
    refine k_c (p63 (A := 28) (L := s.2.2 1) (w := x) (N := fun i => s.1 254 i) (c := s.1 254 28) hS1 hc1 (by rw [e242]; exact (R_now hR).2) (by omega) c.1.1 (by rw [e242]; exact c.1.2) rfl) ?_
    intro r s2 h2
    obtain ⟨g1, g2, g3⟩ := h2
    refine k_r ?_
    have ref : ∀ a k, 209 ≤ a → s2.1 a k = s.1 a k := fun a k z => by rw [g3.1 a k (by omega)]; exact e1 a k (by omega) (by omega)
    have r242 : s2.1 242 = s.1 242 := funext fun k => ref 242 k (by omega)
    have r254 : s2.1 254 = s.1 254 := funext fun k => ref 254 k (by omega)
    unfold m242
    refine k_e (e186 (by rw [r242]; exact b7) (by rw [r242]; exact b8)) ?_
    rw [r242, if_pos c.1]
    refine k_q (by decide) (k_e (e189 c.1.1 (by omega) (by rw [r254]; omega) (by rw [r254]; omega)) ?_)
    rw [r254]
    refine k_q (by omega) (k_c (p239 (by rw [ref 209 75 (by omega)]; exact q6) (by rw [ref 209 75 (by omega)]; exact q7) (by rw [ref 209 74 (by omega)]; omega) (by rw [ref 209 74 (by omega)]; omega)) ?_)
    intro _ t1 h3
    have hr4 := h3.2.2.2.1
    have tref : ∀ a k, 242 ≤ a → a ≠ 262 → t1.1 a k = s.1 a k := fun a k z1 z2 => by rw [hr4 a k (by omega) (by omega)]; exact ref a k (by omega)
    have t254 : t1.1 254 = s.1 254 := funext fun k => tref 254 k (by omega) (by omega)
    have eqt : eqL s.1 t1.1 := ⟨funext fun k => tref 242 k (by omega) (by omega), funext fun k => tref 245 k (by omega) (by omega), funext fun k => tref 246 k (by omega) (by omega), funext fun k => tref 248 k (by omega) (by omega), funext fun k => tref 249 k (by omega) (by omega), funext fun k => tref 250 k (by omega) (by omega), funext fun k => tref 251 k (by omega) (by omega), funext fun k => tref 253 k (by omega) (by omega)⟩
    refine k_m (p242_x (s := t1) (w := x) (c := s.1 254 28) (mLand_eq eqt (R_ml hR)) (by rw [eqt.1, t254]; exact (R_now hR).2) c.1.1 (by rw [eqt.1]; exact c.1.2) (by rw [t254]) (fun z u => rfl)) ?_
    intro r' t h4
    obtain ⟨y1, y2, y3⟩ := h4
    rw [t254] at y1 y2
    refine ⟨by rw [g1, y1], ?_⟩
    have ka := keep_all hR h1 (frj_of g3) (fun a k z => by omega) h3 (frj_of y3) (fun a k z => Or.inl z)
    refine R_act hR ⟨fun a k z => ?_, ka.2.2⟩ ?_ ka.1
    · by_cases e0 : (a = 0 ∧ k = 18) ∨ (a = 209 ∧ k = 76)
      · have z1 := y3.1 a k (by omega)
        have z2 := hr4 a k (by omega) (by omega)
        have z3 := g3.1 a k (by omega)
        refine ⟨by rw [z1, z2, z3, f1.1 a k (by omega)], by rw [y3.2.1, h3.2.2.2.2, g3.2.1, hM1]⟩
      · exact ka.2.1 a k (fun w => w.elim z e0)
    · have tc : ∀ a k, a < 209 → t.1 a k = s2.1 a k := fun a k z => by rw [y3.1 a k (by omega), hr4 a k (by omega) (by omega)]
      have tt : ∀ k, t.1 242 k = s.1 242 k := fun k => by rw [y3.1 242 k (by omega)]; exact tref 242 k (by omega) (by omega)
      have x28 : exN (fun i => s.1 254 i) x 0 (s.1 254 28) 0 28 = s.1 254 28 := exN_0 c.1.1 (by omega) (by omega)
      refine ⟨sRel_eq2 (f := s2.1) (by rw [tt, r242]) (by rw [tt, r242]) (fun a k z1 z2 => tc a k (by omega)) (fun i i0 i1 i2 => y2 i i0 i1 (by rw [x28] at i2; exact i2)) (by rw [r242]; exact b5) (by rw [r242]; exact b8) (by rw [x28]; omega) (by rw [x28]; omega) g2, ?_⟩
      rw [tt, tt, tt]
      exact nInv_eq2 b5 b7 b8 b9 (fun i i0 i1 i2 => y2 i i0 i1 (by omega)) (nInv_ex b5 b8 c.1.1 c.1.2 h28 (by omega) (Or.inr rfl) (by omega) (by omega) (R_now hR).2)
  · refine two_ref (j := 2) (r := -1) hR hn (by omega) (by omega) ?_ (fun u hu h1 h2 => ?_)
    · unfold m125
      rw [oV_eq, e50, oC_some, b6]
      by_cases c1 : 0 ≤ x ∧ x < s.1 242 6
      · have hw := R_w hR c1.1 c1.2
        have : s.1 254 (11 + 3 * x) = 0 := Classical.byContradiction fun z => c ⟨c1, z⟩
        rw [if_pos c1, if_neg (by decide), oX_pos c1.1 (by omega), oV_eq, if_pos (by omega), e136 hR hn (by omega) (by omega), oC_some]
      · rw [if_neg c1, if_pos rfl, e136 hR hn (by omega) (by omega), oC_some]
    · have u242 : u.1 242 = s.1 242 := funext fun k => hu 242 k (by omega)
      have u254 : u.1 254 = s.1 254 := funext fun k => hu 254 k (by omega)
      unfold m242
      rw [e186 (by rw [u242]; exact b7) (by rw [u242]; exact b8), oC_some, u242]
      by_cases c1 : 0 ≤ x ∧ x < s.1 242 6
      · have hw := R_w hR c1.1 c1.2
        have : s.1 254 (11 + 3 * x) = 0 := Classical.byContradiction fun z => c ⟨c1, z⟩
        rw [if_pos c1, if_neg (by decide), e189 c1.1 (by omega) (by rw [u254]; omega) (by rw [u254]; omega), oC_some, u254, if_pos (by omega), e232 h1 h2 (by omega) (by omega), oC_some]
      · rw [if_neg c1, if_pos rfl, e232 h1 h2 (by omega) (by omega), oC_some]
theorem t126 : T126 := by
  intro n s x hx hR hn
  obtain ⟨b1, b2, b3, b4, b5, b6, b7, b8, b9, b10⟩ := R_cnt hR
  have hLL := R_LL hR
  have h28 := R_28 hR
  have h287 := R_287 hR
  obtain ⟨q1, q2, q3, q4, q5, q6, q7, q8⟩ := R_past hR
  by_cases c : (0 ≤ x ∧ x ≤ 2) ∧ s.1 254 1 ≠ x
  · unfold Two m126
    refine k_q (by omega) (k_q (by omega) (k_v (k_q (by omega) (k_c (p145 hR) ?_))))
    intro _ s1 h1
    have f1 := h1.2.2.2
    obtain ⟨e1, hM1⟩ := keep_eq f1 (by omega) (by omega)
    refine k_v (k_r ?_)
    generalize hs2 : sI s1 28 7 x = s2
    have g3 : Fr (fun a q => a = 28 ∧ q = 7) s1 s2 := by rw [← hs2]; exact fr_I ⟨rfl, rfl⟩
    have ref : ∀ a k, 209 ≤ a → s2.1 a k = s.1 a k := fun a k z => by rw [g3.1 a k (by omega)]; exact e1 a k (by omega) (by omega)
    unfold m243
    refine k_e e150 ?_
    rw [if_pos c.1]
    refine k_q (by decide) (k_x (by omega) (by omega) (k_v ?_))
    rw [ref 254 1 (by omega)]
    refine k_q c.2 (k_c (p239 (by rw [ref 209 75 (by omega)]; exact q6) (by rw [ref 209 75 (by omega)]; exact q7) (by rw [ref 209 74 (by omega)]; omega) (by rw [ref 209 74 (by omega)]; omega)) ?_)
    intro _ t1 h3
    have hr4 := h3.2.2.2.1
    have tref : ∀ a k, 242 ≤ a → a ≠ 262 → t1.1 a k = s.1 a k := fun a k z1 z2 => by rw [hr4 a k (by omega) (by omega)]; exact ref a k (by omega)
    refine k_x (by omega) (by omega) (k_v (k_r ⟨rfl, ?_⟩))
    generalize ht : sI t1 254 1 x = t
    have y3 : Fr (fun a q => a = 254 ∧ q = 1) t1 t := by rw [← ht]; exact fr_I ⟨rfl, rfl⟩
    have ka := keep_all hR h1 (frj_of g3) (fun a k z => by omega) h3 (frj_of y3) (fun a k z => Or.inl z.1)
    refine R_act hR ⟨fun a k z => ?_, ka.2.2⟩ ?_ ka.1
    · by_cases e0 : (a = 0 ∧ k = 18) ∨ (a = 209 ∧ k = 76)
      · have z1 := y3.1 a k (by omega)
        have z2 := hr4 a k (by omega) (by omega)
        have z3 := g3.1 a k (by omega)
        refine ⟨by rw [z1, z2, z3, f1.1 a k (by omega)], by rw [y3.2.1, h3.2.2.2.2, g3.2.1, hM1]⟩
      · exact ka.2.1 a k (fun w => w.elim z e0)
    · obtain ⟨⟨z1, z2, z3, z4, z5, z6⟩, hI⟩ := R_now hR
      have tc : ∀ a k, 28 ≤ a → a ≤ 33 → ¬ (a = 28 ∧ k = 7) → t.1 a k = s.1 a k := fun a k y1 y2 y3' => by
        rw [y3.1 a k (by omega), hr4 a k (by omega) (by omega), g3.1 a k (by omega)]; exact e1 a k (by omega) (by omega)
      have tt : ∀ a k, 242 ≤ a → a ≠ 262 → ¬ (a = 254 ∧ k = 1) → t.1 a k = s.1 a k := fun a k y1 y2 y3' => by rw [y3.1 a k (by omega)]; exact tref a k y1 y2
      have t287 : t.1 28 7 = x := by rw [y3.1 28 7 (by omega), hr4 28 7 (by omega) (by omega), ← hs2, sI_e]
      have t2541 : t.1 254 1 = x := by rw [← ht, sI_e]
      refine ⟨⟨?_, ?_, ?_, ?_, ?_, ?_⟩, ?_⟩
      · rw [tc 28 6 (by omega) (by omega) (by omega)]; show _ = t.1 254 0; rw [tt 254 0 (by omega) (by omega) (by omega)]; exact z1
      · rw [t287]; exact t2541.symm
      · intro p p0 p1
        rw [tt 242 5 (by omega) (by omega) (by omega)] at p1
        rw [tc _ _ (by omega) (by omega) (by omega)]; show _ = t.1 254 (2 + p); rw [tt 254 (2 + p) (by omega) (by omega) (by omega)]; exact z3 p p0 p1
      · intro v v0 v1
        rw [tt 242 6 (by omega) (by omega) (by omega)] at v1
        rw [tc _ _ (by omega) (by omega) (by omega), tc _ _ (by omega) (by omega) (by omega), tc _ _ (by omega) (by omega) (by omega)]
        show _ = t.1 254 (10 + 3 * v) ∧ _ = t.1 254 (11 + 3 * v) - 1 ∧ _ = t.1 254 (12 + 3 * v)
        rw [tt 254 _ (by omega) (by omega) (by omega), tt 254 _ (by omega) (by omega) (by omega), tt 254 _ (by omega) (by omega) (by omega)]; exact z4 v v0 v1
      · rw [tc 28 5 (by omega) (by omega) (by omega)]; show _ = t.1 254 28; rw [tt 254 28 (by omega) (by omega) (by omega)]; exact z5
      · intro k k0 k1
        have k1' : k < t.1 254 28 := k1
        rw [tt 254 28 (by omega) (by omega) (by omega)] at k1'
        rw [tc _ _ (by omega) (by omega) (by omega)]; show _ = t.1 254 (29 + k); rw [tt 254 (29 + k) (by omega) (by omega) (by omega)]; exact z6 k k0 k1'
      · rw [tt 242 4 (by omega) (by omega) (by omega), tt 242 5 (by omega) (by omega) (by omega), tt 242 6 (by omega) (by omega) (by omega)]
        have base : nInv (s.1 242 4) (s.1 242 5) (s.1 242 6) (fun i => if i = 1 then x else s.1 254 i) := by
          obtain ⟨w1, w2, w3, w4, w5, w6, w7, w8, w9⟩ := hI
          refine ⟨?_, ?_, ?_, ?_, ?_, ?_, ?_, ?_, ?_⟩
          · dsimp only; rw [if_neg (by omega)]; exact w1
          · dsimp only; rw [if_pos rfl]; exact c.1
          · intro p p0 p1; dsimp only; rw [if_neg (by omega)]; exact w3 p p0 p1
          · intro v v0 v1; dsimp only; rw [if_neg (by omega), if_neg (by omega), if_neg (by omega)]; exact w4 v v0 v1
          · dsimp only; rw [if_neg (by omega)]; exact w5
          · intro k k0 k1; dsimp only; rw [if_neg (by omega)]; exact w6 k k0 k1
          · intro v w v0 v1 v2; dsimp only; rw [if_neg (by omega), if_neg (by omega)]; exact w7 v w v0 v1 v2
          · intro j k v0 v1 v2; dsimp only; rw [if_neg (by omega), if_neg (by omega)]; exact w8 j k v0 v1 v2
          · intro v k v0 v1 v2 v3; dsimp only; rw [if_neg (by omega), if_neg (by omega)]; exact w9 v k v0 v1 v2 v3
        refine nInv_eq b5 b7 b8 (fun i i0 i1 => ?_) base
        by_cases e : i = 1
        · rw [if_pos e, e]; exact t2541
        · rw [if_neg e]; exact tt 254 i (by omega) (by omega) (by omega)
  · refine two_ref (j := 2) (r := 0) hR hn (by omega) (by omega) ?_ (fun u hu h1 h2 => ?_)
    · unfold m126
      by_cases c0 : x < 0
      · rw [if_pos c0, e136 hR hn (by omega) (by omega), oC_some]
      rw [if_neg c0]
      by_cases c1 : 2 < x
      · rw [if_pos c1, e136 hR hn (by omega) (by omega), oC_some]
      rw [if_neg c1, oV_eq, if_pos (by have : s.1 254 1 = x := Classical.byContradiction fun z => c ⟨by omega, z⟩; omega), e136 hR hn (by omega) (by omega), oC_some]
    · have e22' : m243_22 u = some (0, sI u 211 2 (u.1 211 2 + 1)) := by
        unfold m243_22
        rw [oX_pos (by omega) (by omega), oV_eq, oZ_pos (by omega) (by omega), oX_pos (by omega) (by omega), oV_eq]
      unfold m243
      rw [e150, oC_some]
      by_cases c1 : 0 ≤ x ∧ x ≤ 2
      · have : s.1 254 1 = x := Classical.byContradiction fun z => c ⟨c1, z⟩
        rw [if_pos c1, if_neg (by decide), oX_pos (by omega) (by omega), oV_eq, hu 254 1 (by omega), if_pos this, e22']
      · rw [if_neg c1, if_pos rfl, e22']
/-- the reference takes the last kept row back -/
theorem p240_21 {s0 : zS} {nw : Int} (n0 : 0 ≤ nw) (n1 : nw < 20) (hu0 : 1 ≤ s0.1 209 74) (hu1 : s0.1 209 74 ≤ 20) (hnw : s0.1 209 75 = nw) : ∀ (n j : Nat) (s : zS), j ≤ 37 → 37 - j < n → (∀ i, 0 ≤ i → i < (j : Int) → s.1 254 i = s0.1 262 (37 * nw + i)) → Fr (fun a _ => a = 254) s0 s → Ok (m240_21 n (j : Int) s) (fun r t => r = 1 ∧ t.1 209 75 = (nw + 19) % 20 ∧ t.1 209 74 = s0.1 209 74 - 1 ∧ (∀ i, 0 ≤ i → i < 37 → t.1 254 i = s0.1 262 (37 * nw + i)) ∧ Fr (fun a q => a = 254 ∨ (a = 209 ∧ (q = 74 ∨ q = 75))) s0 t) := by
  intro n
  induction n with
  | zero => intro j s h1 h2; omega
  | succ n ih =>
    intro j s h1 h2 hk hf
    have g : ∀ a q, a ≠ 254 → s.1 a q = s0.1 a q := fun a q z => hf.1 a q z
    rw [m240_21]
    by_cases hj : j = 37
    · subst hj
      refine k_q (by omega) (k_v ?_)
      rw [g 209 75 (by omega), hnw]
      refine k_z (by omega) (by omega) (k_z (by omega) (by omega) (k_n (by decide) (k_v (k_v (k_v ?_)))))
      rw [sI_k (by omega), g 209 74 (by omega), Int.tmod_eq_emod_of_nonneg (by omega)]
      refine k_z (by omega) (by omega) (k_v (k_r ⟨rfl, by rw [sI_k (by omega), sI_e]; omega, sI_e, fun i i0 i1 => by rw [sI_a (by omega), sI_a (by omega)]; exact hk i i0 i1, ?_⟩))
      exact fr_trans (fr_mono (fun a q z => Or.inl z) hf) (fr_trans (fr_I (by omega)) (fr_I (by omega)))
    · refine k_p (by omega) (k_v ?_)
      rw [g 209 75 (by omega), hnw]
      refine k_z (by omega) (by omega) (k_z (by omega) (by omega) (k_x (by omega) (by omega) (k_v (k_x (by omega) (by omega) (k_v (k_z (by omega) (by omega) ?_))))))
      refine ih (j + 1) _ (by omega) (by omega) (fun i i0 i1 => ?_) (fr_trans hf (fr_I rfl))
      by_cases e : i = (j : Int)
      · rw [e, sI_e]; exact g 262 _ (by omega)
      · rw [sI_k (by omega)]; exact hk i i0 (by omega)
theorem t129 : T129 := by
  intro n s hR hn
  obtain ⟨b1, b2, b3, b4, b5, b6, b7, b8, b9, b10⟩ := R_cnt hR
  have hLL := R_LL hR
  have hpast := R_past hR
  obtain ⟨q1, q2, q3, q4, q5, q6, q7, q8⟩ := R_past hR
  by_cases c : s.1 0 17 = 0
  · refine two_ref (j := 4) (r := 0) hR hn (by omega) (by omega) ?_ (fun u hu h1 h2 => ?_)
    · unfold m129; rw [oV_eq, if_pos c, e136 hR hn (by omega) (by omega), oC_some]
    · unfold m240; rw [oV_eq, hu 209 74 (by omega), if_pos (by omega), oX_pos (by omega) (by omega), oV_eq, oZ_pos (by omega) (by omega), oX_pos (by omega) (by omega), oV_eq]
  obtain ⟨z1, z2⟩ := q8 0 (by omega) (by omega)
  unfold Two m129
  refine k_v (k_q c (k_v (k_z (by omega) (by omega) (k_v (k_v (k_v ?_))))))
  rw [sI_k (by omega), sI_e]
  refine k_z (by omega) (by omega) (k_n (by decide) (k_v ?_))
  rw [Int.tmod_eq_emod_of_nonneg (by omega), show s.1 0 16 + (s.1 0 17 - 1) = s.1 0 16 + s.1 0 17 - 1 - 0 by omega]
  have hnw : (s.1 209 75 - 0) % 20 = s.1 209 75 := by omega
  rw [hnw] at z1 z2
  generalize hsl : (s.1 0 16 + s.1 0 17 - 1 - 0) % 20 = sl at *
  have sl0 : 0 ≤ sl ∧ sl < 20 := by omega
  refine k_x (by omega) (by omega) (k_v (k_c (p56 (A := 28) (B := 89 + 6 * sl.toNat) (Or.inl (by omega))) ?_))
  intro _ s1 h1
  obtain ⟨c1, c2, c3, c4, c5, c6, c7⟩ := h1
  refine k_r ?_
  have e1 : ∀ a k, ¬ (28 ≤ a ∧ a ≤ 33) → ¬ (a = 0 ∧ k = 17) → s1.1 a k = s.1 a k := fun a k y1 y2 => by rw [c7.1 a k (by omega), sI_if, if_neg (by omega)]
  have hM : s1.2 = s.2 := Prod.ext c7.2.1 c7.2.2
  unfold m240
  refine k_v ?_
  rw [e1 209 74 (by omega) (by omega)]
  refine k_q (by omega) (k_m (p240_21 (s0 := s1) (nw := s.1 209 75) q6 q7 (by rw [e1 209 74 (by omega) (by omega)]; omega) (by rw [e1 209 74 (by omega) (by omega)]; omega) (e1 209 75 (by omega) (by omega)) zFu 0 s1 (by omega) (by unfold zFu; omega) (fun i i0 i1 => by omega) fr_refl) ?_)
  intro r t ht
  obtain ⟨y1, y2, y3, y4, y5⟩ := ht
  refine ⟨y1.symm, ?_⟩
  have tc : ∀ a k, a < 209 → t.1 a k = s1.1 a k := fun a k z => y5.1 a k (by omega)
  have tr : ∀ a k, 209 ≤ a → a ≠ 254 → ¬ (a = 209 ∧ (k = 74 ∨ k = 75)) → t.1 a k = s.1 a k := fun a k w1 w2 w3 => by rw [y5.1 a k (by omega)]; exact e1 a k (by omega) (by omega)
  have y4' : ∀ i, 0 ≤ i → i < 37 → t.1 254 i = s.1 262 (37 * s.1 209 75 + i) := fun i i0 i1 => by rw [y4 i i0 i1]; exact e1 262 _ (by omega) (by omega)
  refine R_act hR ⟨fun a k z => ?_, by rw [y5.2.2, hM]⟩ ?_ ?_
  · unfold Act Scr at z
    exact ⟨by rw [y5.1 a k (by omega)]; exact e1 a k (by omega) (by omega), by rw [y5.2.1, hM]⟩
  · have z28 : s.1 262 (37 * s.1 209 75 + 28) = s.1 242 5 - s.1 242 6 := z2.2.2.2.2.1
    refine ⟨?_, ?_⟩
    · obtain ⟨w1, w2, w3, w4, w5, w6⟩ := z1
      have s9 : ∀ a k, 89 ≤ a → a ≤ 208 → (sI s 0 17 (s.1 0 17 - 1)).1 a k = s.1 a k := fun a k _ _ => sI_a (by omega)
      refine ⟨?_, ?_, ?_, ?_, ?_, ?_⟩
      · rw [tc _ _ (by omega), c5, s9 _ _ (by omega) (by omega)]; show _ = t.1 254 0; rw [y4' 0 (by omega) (by omega)]; exact w1
      · rw [tc _ _ (by omega), c6, s9 _ _ (by omega) (by omega)]; show _ = t.1 254 1; rw [y4' 1 (by omega) (by omega)]; exact w2
      · intro p p0 p1
        rw [tr 242 5 (by omega) (by omega) (by omega)] at p1
        rw [tc _ _ (by omega), c1 p p0 (by omega), s9 _ _ (by omega) (by omega)]; show _ = t.1 254 (2 + p); rw [y4' _ (by omega) (by omega)]; exact w3 p p0 p1
      · intro v v0 v1
        rw [tr 242 6 (by omega) (by omega) (by omega)] at v1
        have := c2 v v0 (by omega)
        rw [tc _ _ (by omega), tc _ _ (by omega), tc _ _ (by omega), this.1, this.2.1, this.2.2, s9 _ _ (by omega) (by omega), s9 _ _ (by omega) (by omega), s9 _ _ (by omega) (by omega)]
        show _ = t.1 254 (10 + 3 * v) ∧ _ = t.1 254 (11 + 3 * v) - 1 ∧ _ = t.1 254 (12 + 3 * v)
        rw [y4' _ (by omega) (by omega), y4' _ (by omega) (by omega), y4' _ (by omega) (by omega)]; exact w4 v v0 v1
      · rw [tc _ _ (by omega), c4, s9 _ _ (by omega) (by omega)]; show _ = t.1 254 28; rw [y4' 28 (by omega) (by omega)]; exact w5
      · intro k k0 k1
        have k1' : k < t.1 254 28 := k1
        rw [y4' 28 (by omega) (by omega)] at k1'
        rw [tc _ _ (by omega), c3 k k0 (by omega), s9 _ _ (by omega) (by omega)]; show _ = t.1 254 (29 + k); rw [y4' _ (by omega) (by omega)]; exact w6 k k0 k1'
    · rw [tr 242 4 (by omega) (by omega) (by omega), tr 242 5 (by omega) (by omega) (by omega), tr 242 6 (by omega) (by omega) (by omega)]
      exact nInv_eq b5 b7 b8 (fun i i0 i1 => y4' i i0 i1) z2
  · have t16 : t.1 0 16 = s.1 0 16 := by rw [tc _ _ (by omega)]; exact e1 0 16 (by omega) (by omega)
    have t17 : t.1 0 17 = s.1 0 17 - 1 := by rw [tc _ _ (by omega), c7.1 0 17 (by omega), sI_e]
    have t74 : t.1 209 74 = s.1 209 74 - 1 := by rw [y3, e1 209 74 (by omega) (by omega)]
    refine ⟨by rw [t16]; exact q1, by rw [t16]; exact q2, by rw [t17]; omega, by rw [t17]; omega, by rw [t17, t74]; omega, by rw [y2]; omega, by rw [y2]; omega, fun j j0 j1 => ?_⟩
    rw [t17] at j1
    obtain ⟨w1, w2⟩ := q8 (j + 1) (by omega) (by omega)
    have i1 : (t.1 0 16 + t.1 0 17 - 1 - j) % 20 = (s.1 0 16 + s.1 0 17 - 1 - (j + 1)) % 20 := by rw [t16, t17]; omega
    have i2 : (t.1 209 75 - j) % 20 = (s.1 209 75 - (j + 1)) % 20 := by rw [y2]; omega
    rw [i1, i2]
    have w28 : s.1 262 (37 * ((s.1 209 75 - (j + 1)) % 20) + 28) = s.1 242 5 - s.1 242 6 := w2.2.2.2.2.1
    refine ⟨sRel_eq (tr 242 5 (by omega) (by omega) (by omega)) (tr 242 6 (by omega) (by omega) (by omega)) (fun a k v1 v2 => by rw [tc a k (by omega)]; exact e1 a k (by omega) (by omega)) (fun i _ _ => tr 262 _ (by omega) (by omega) (by omega)) b5 b8 (by show s.1 262 (37 * ((s.1 209 75 - (j + 1)) % 20) + 28) ≤ 8; omega) w1, ?_⟩
    rw [tr 242 4 (by omega) (by omega) (by omega), tr 242 5 (by omega) (by omega) (by omega), tr 242 6 (by omega) (by omega) (by omega)]
    exact nInv_eq b5 b7 b8 (fun i _ _ => tr 262 _ (by omega) (by omega) (by omega)) w2
